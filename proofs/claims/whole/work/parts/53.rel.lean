/-! HOW THE TWO OBJECTS STAND TO EACH OTHER -/
def RL (n k : Nat) (P C : Nat → Nat) (kn : Nat) (KP KC : Nat → Nat) (ak : Bool) (E : Nat → Nat → Nat) (hd hv : Nat) (H : Nat → Int32) (O : Nat → Nat) (kn' : Nat) (KP' : Nat → Nat) (ic : Bool) (fz sm : Nat) : Prop :=
  GG n P ∧ DU P C ∧ k ≤ 10 ∧ (pu_al C n n).length = k ∧ (pu_al P n n).length = k ∧ hd < 2 ^ n ∧ hv < 256 ∧ (∀ i, i < 8 → H i = pu_ha hd hv i) ∧ (∀ i j, E i j ≤ 8) ∧ (∀ i, O i ≤ 8) ∧ (∀ i j, i < n → j < 128 → O (128 * i + j) = E i j) ∧ kn ≤ 8 ∧ (∀ i, KP i < 256) ∧ (∀ i, KC i < 256) ∧ kn' ≤ 8 ∧ (∀ i, KP' i < 256) ∧ (ak = true → kn' = kn ∧ (∀ i, KP' i = KP i) ∧ GG kn KP ∧ DU KP KC) ∧ (ic = true → fz = (pu_fam P n).1 ∧ sm = (pu_fam P n).2)
theorem DU.sy {P C : Nat → Nat} (h : DU P C) : DU C P := fun u v => (h v u).symm
theorem DU.lt {n : Nat} {P C : Nat → Nat} (h : DU P C) (hP : GG n P) (u : Nat) : C u < 2 ^ n := Nat.lt_pow_two_of_testBit _ (fun i hi => by
  cases e : (C u).testBit i with
  | false => rfl
  | true =>
    rw [h u i] at e
    have := (hP.fin e).2
    omega)
theorem DU.z {n : Nat} {P C : Nat → Nat} (h : DU P C) (hP : GG n P) {u : Nat} (hu : n ≤ u) : C u = 0 := Nat.eq_of_testBit_eq (fun i => by
  rw [Nat.zero_testBit]
  cases e : (C u).testBit i with
  | false => rfl
  | true =>
    rw [h u i] at e
    have := (hP.fin e).1
    omega)
theorem pu_pop_miss {m i : Nat} (h : m.testBit i = false) : ∀ {n : Nat}, i < n → pu_pop n m < n
  | n + 1, hi => by
    rw [pu_pop_s]
    rcases (show i < n ∨ i = n by omega) with q | rfl
    · have := pu_pop_miss h q
      by_cases e : m.testBit n = true
      · rw [if_pos e]; omega
      · rw [if_neg e]; omega
    · rw [h]
      have := pu_pop_le i m
      simp; omega
theorem GG.pop {n : Nat} {P : Nat → Nat} (h : GG n P) {i : Nat} (hi : i < n) : pu_pop 8 (P i) ≤ 7 := by
  have hn := h.1
  have hb : (P i).testBit i = false := by
    cases e : (P i).testBit i with
    | false => rfl
    | true => exact absurd e (h.irr (u := i))
  have := pu_pop_miss hb (n := 8) (by omega)
  omega
section Rl
variable {n k : Nat} {P C : Nat → Nat} {kn kk : Nat} {KP KC : Nat → Nat} {ak : Bool} {E : Nat → Nat → Nat} {hd hv : Nat} {H : Nat → Int32} {O : Nat → Nat} {kn' : Nat} {KP' : Nat → Nat} {ic : Bool} {fz sm : Nat}
theorem RL.xw (h : RL n k P C kn KP KC ak E hd hv H O kn' KP' ic fz sm) : XW n k P C kn kk KP KC E hd hv := by
  obtain ⟨h1, h2, h3, h4, h5, h6, h7, h8, h9, h10, h11, h12, h13, h14, h15, h16, h17, h18⟩ := h
  refine ⟨h1.1, h3, fun i => pu_lt8 h1.1 (h1.2.1 i), fun i => pu_lt8 h1.1 (h2.lt h1 i), h12, h13, h14, h9, pu_lt8 h1.1 h6, h7, fun i hi v => ?_, fun i hi => h1.pop hi, h4⟩
  have q1 := pu_rv_lt (par := P i) (v := v) 8
  have q2 : 2 ^ pu_pop 8 (P i) ≤ 2 ^ 7 := Nat.pow_le_pow_right (by decide) (h1.pop hi)
  omega
theorem RL.yw (h : RL n k P C kn KP KC ak E hd hv H O kn' KP' ic fz sm) : YW n k P H O kn' KP' := by
  obtain ⟨h1, h2, h3, h4, h5, h6, h7, h8, h9, h10, h11, h12, h13, h14, h15, h16, h17, h18⟩ := h
  exact ⟨h1.1, h3, fun i => pu_lt8 h1.1 (h1.2.1 i), h10, h15, h16, fun i hi => h1.pop hi⟩
end Rl
/-! arcs that count -/
theorem pu_ha_m1 {hd hv i : Nat} : pu_ha hd hv i = -1 ↔ hd.testBit i = false := by
  unfold pu_ha
  cases hd.testBit i with
  | false => simp
  | true =>
    cases hv.testBit i with
    | false => decide
    | true => decide
theorem pu_gi_yc {n : Nat} {P : Nat → Nat} {hd hv : Nat} {H : Nat → Int32} (h : GG n P) (hH : ∀ i, i < 8 → H i = pu_ha hd hv i) : pu_gi P hd 0 = pu_yc n P H := by
  funext p
  have hn := h.1
  have hd0 : pu_dif (P p) 0 = P p := by
    apply Nat.eq_of_testBit_eq
    intro i
    by_cases hi : i < 32
    · rw [pu_dif_bit hi, Nat.zero_testBit]; simp
    · have hp : P p < 2 ^ i := Nat.lt_of_lt_of_le (pu_lt8 hn (h.2.1 p)) (Nat.le_trans (show 256 ≤ 2 ^ 8 by decide) (Nat.pow_le_pow_right (by decide) (by omega)))
      rw [Nat.testBit_lt_two_pow hp, Nat.testBit_lt_two_pow (Nat.lt_of_le_of_lt (pu_dif_le _ _) hp)]
  unfold pu_gi pu_yc
  rw [hd0]
  by_cases hp : p < n
  · have hm := pu_ha_m1 (hd := hd) (hv := hv) (i := p)
    rw [hH p (by omega)]
    cases e : hd.testBit p with
    | false => rw [if_neg (by decide), if_pos ⟨hp, hm.mpr e⟩]
    | true => rw [if_pos rfl, if_neg (fun q => by rw [hm.mp q.2] at e; cases e)]
  · rw [h.2.2.1 p (by omega)]
    simp
theorem pu_gi_yw {n : Nat} {P : Nat → Nat} {hd hv x : Nat} {H : Nat → Int32} (h : GG n P) (hH : ∀ i, i < 8 → H i = pu_ha hd hv i) : pu_gi P hd (2 ^ x) = fun p => pu_dif (pu_yc n P H p) (2 ^ x) := by
  rw [← pu_gi_yc h hH]
  funext p
  have hn := h.1
  unfold pu_gi
  cases hd.testBit p with
  | true => simp [pu_dif_0]
  | false =>
    simp
    have hd0 : pu_dif (P p) 0 = P p := by
      apply Nat.eq_of_testBit_eq
      intro i
      by_cases hi : i < 32
      · rw [pu_dif_bit hi, Nat.zero_testBit]; simp
      · have hp : P p < 2 ^ i := Nat.lt_of_lt_of_le (pu_lt8 hn (h.2.1 p)) (Nat.le_trans (show 256 ≤ 2 ^ 8 by decide) (Nat.pow_le_pow_right (by decide) (by omega)))
        rw [Nat.testBit_lt_two_pow hp, Nat.testBit_lt_two_pow (Nat.lt_of_le_of_lt (pu_dif_le _ _) hp)]
    rw [hd0]
theorem pu_gio_du {n : Nat} {P C : Nat → Nat} {hd no : Nat} (h : GG n P) (hd2 : DU P C) : DU (pu_gi P hd no) (pu_go C hd no) := by
  intro u v
  have hn := h.1
  unfold pu_gi pu_go
  cases e1 : no.testBit u with
  | true =>
    rw [if_pos rfl, Nat.zero_testBit]
    cases e2 : hd.testBit v with
    | true => rw [if_pos rfl, Nat.zero_testBit]
    | false =>
      rw [if_neg (by decide)]
      by_cases hu : u < 32
      · rw [pu_dif_bit hu, e1]; simp
      · rw [Nat.testBit_lt_two_pow (Nat.lt_of_lt_of_le (Nat.lt_of_le_of_lt (pu_dif_le _ _) (pu_lt8 hn (h.2.1 v))) (Nat.le_trans (show 256 ≤ 2 ^ 8 by decide) (Nat.pow_le_pow_right (by decide) (by omega))))]
  | false =>
    rw [if_neg (by decide)]
    by_cases hv : v < 32
    · rw [pu_dif_bit hv, hd2 u v]
      cases e2 : hd.testBit v with
      | true => rw [if_pos rfl, Nat.zero_testBit]; simp
      | false =>
        rw [if_neg (by decide)]
        by_cases hu : u < 32
        · rw [pu_dif_bit hu, e1]
        · have hz : (P v).testBit u = false := Nat.testBit_lt_two_pow (Nat.lt_of_lt_of_le (pu_lt8 hn (h.2.1 v)) (Nat.le_trans (show 256 ≤ 2 ^ 8 by decide) (Nat.pow_le_pow_right (by decide) (by omega))))
          rw [hz, Nat.testBit_lt_two_pow (Nat.lt_of_lt_of_le (Nat.lt_of_le_of_lt (pu_dif_le _ _) (pu_lt8 hn (h.2.1 v))) (Nat.le_trans (show 256 ≤ 2 ^ 8 by decide) (Nat.pow_le_pow_right (by decide) (by omega))))]
          rfl
    · have hz : (C u).testBit v = false := by
        rw [hd2 u v, h.2.2.1 v (by omega), Nat.zero_testBit]
      have h256 : pu_dif (C u) hd < 2 ^ v := Nat.lt_of_lt_of_le (Nat.lt_of_le_of_lt (pu_dif_le _ _) (pu_lt8 hn (hd2.lt h u))) (Nat.le_trans (show 256 ≤ 2 ^ 8 by decide) (Nat.pow_le_pow_right (by decide) (by omega)))
      rw [Nat.testBit_lt_two_pow h256, h.2.2.1 v (by omega)]
      cases hd.testBit v <;> simp [pu_dif_0]
theorem pu_gi_ltn {n : Nat} {P : Nat → Nat} (h : GG n P) (hd no p : Nat) : pu_gi P hd no p < 2 ^ n := by
  unfold pu_gi
  cases hd.testBit p with
  | true => exact Nat.two_pow_pos n
  | false => exact Nat.lt_of_le_of_lt (pu_dif_le _ _) (h.2.1 p)
/-- the row of children is what the reference counts -/
theorem DU.ych {g o : Nat → Nat} (h : DU g o) (hz : ∀ p, 8 ≤ p → g p = 0) : o = pu_ych g 8 := by
  funext q
  apply pu_eqb
  intro i
  rw [pu_ych_bit, h q i]
  constructor
  · intro e
    refine ⟨Nat.lt_of_not_le (fun w => ?_), e⟩
    rw [hz i w, Nat.zero_testBit] at e
    cases e
  · exact fun e => e.2
theorem pu_gi_z {n : Nat} {P : Nat → Nat} (h : GG n P) {hd no : Nat} : ∀ p, 8 ≤ p → pu_gi P hd no p = 0 := by
  intro p hp
  have hn := h.1
  unfold pu_gi
  rw [h.2.2.1 p (by omega)]
  cases hd.testBit p <;> simp [pu_dif_0]
/-! rings -/
theorem DU.ring {P C : Nat → Nat} (h : DU P C) (hP : ∀ i, P i < 256) {i j : Nat} (hi : i < 8) (hj : j < 8) (hc : (pu_cl C 8 8 (2 ^ j)).testBit i = true) : (pu_cl P 8 8 (2 ^ i)).testBit j = true := by
  have base : ∀ u, u < 8 → CLO P (2 ^ u) (pu_cl P 8 8 (2 ^ u)) := fun u hu => pu_cl_clo hP (pu_p2 hu)
  have key : ∀ u, (pu_cl C 8 8 (2 ^ j)).testBit u = true → (u < 8 → (pu_cl P 8 8 (2 ^ u)).testBit j = true) := by
    refine pu_cl_ind (X := fun u => u < 8 → (pu_cl P 8 8 (2 ^ u)).testBit j = true) ?_ ?_
    · intro u hu c hc hc8
      rw [h u c] at hc
      have hu8 : u < 8 := pu_bit_lt (n := 8) (hP c) hc
      have b := base c hc8
      have hcc : (pu_cl P 8 8 (2 ^ c)).testBit c = true := b.1 c (by rw [Nat.testBit_two_pow]; simp)
      have huc := b.2.1 c hcc u hc
      refine (base u hu8).2.2 _ (fun w hw => ?_) b.2.1 j (hu hu8)
      rw [Nat.testBit_two_pow] at hw
      rw [← of_decide_eq_true hw]
      exact huc
    · intro u hu hu8
      rw [Nat.testBit_two_pow] at hu
      rw [← of_decide_eq_true hu]
      exact (base j hj).1 j (by rw [Nat.testBit_two_pow]; simp)
  exact key i hc hi
/-! how many arcs -/
def pu_sl (C : Nat → Nat) (n : Nat) : Nat → Nat
  | 0 => 0
  | p + 1 => pu_sl C n p + pu_pop n (C p)
theorem pu_row_len {C : Nat → Nat} {p : Nat} : ∀ c, (pu_row C p c).length = pu_pop c (C p)
  | 0 => rfl
  | c + 1 => by
    rw [pu_pop_s]
    unfold pu_row
    cases e : (C p).testBit c with
    | true => rw [if_pos rfl, if_pos rfl, List.length_append, pu_row_len c]; rfl
    | false => rw [if_neg (by decide), if_neg (by decide), pu_row_len c]; rfl
theorem pu_al_len {C : Nat → Nat} {n : Nat} : ∀ p, (pu_al C n p).length = pu_sl C n p
  | 0 => rfl
  | p + 1 => by
    show (pu_al C n p ++ pu_row C p n).length = pu_sl C n p + pu_pop n (C p)
    rw [List.length_append, pu_al_len p, pu_row_len]
theorem pu_sl_congr {C C1 : Nat → Nat} {n : Nat} : ∀ {p : Nat}, (∀ i, i < p → C1 i = C i) → pu_sl C1 n p = pu_sl C n p
  | 0, _ => rfl
  | p + 1, h => by
    show pu_sl C1 n p + pu_pop n (C1 p) = pu_sl C n p + pu_pop n (C p)
    rw [pu_sl_congr (fun i hi => h i (by omega)), h p (by omega)]
theorem pu_sl_set {C : Nat → Nat} {n i x d : Nat} (hx : pu_pop n x = pu_pop n (C i) + d) : ∀ {p : Nat}, i < p → pu_sl (pu_set C i x) n p = pu_sl C n p + d
  | p + 1, h => by
    show pu_sl (pu_set C i x) n p + pu_pop n (pu_set C i x p) = pu_sl C n p + pu_pop n (C p) + d
    rcases (show i < p ∨ i = p by omega) with q | rfl
    · rw [pu_sl_set hx q, pu_set_ne (by omega)]; omega
    · rw [pu_sl_congr (C := C) (fun j hj => pu_set_ne (by omega)), pu_set_eq, hx]; omega
theorem pu_sl_cut {C : Nat → Nat} {n i x d : Nat} (hx : pu_pop n x + d = pu_pop n (C i)) : ∀ {p : Nat}, i < p → pu_sl (pu_set C i x) n p + d = pu_sl C n p
  | p + 1, h => by
    show pu_sl (pu_set C i x) n p + pu_pop n (pu_set C i x p) + d = pu_sl C n p + pu_pop n (C p)
    rcases (show i < p ∨ i = p by omega) with q | rfl
    · have := pu_sl_cut hx q
      rw [pu_set_ne (by omega)]; omega
    · rw [pu_sl_congr (C := C) (fun j hj => pu_set_ne (by omega)), pu_set_eq]; omega
theorem pu_pop_congr {a b : Nat} : ∀ {n : Nat}, (∀ i, i < n → a.testBit i = b.testBit i) → pu_pop n a = pu_pop n b
  | 0, _ => rfl
  | n + 1, h => by
    rw [pu_pop_s, pu_pop_s, pu_pop_congr (fun i hi => h i (by omega)), h n (by omega)]
theorem pu_pop_or {a j : Nat} (h : a.testBit j = false) : ∀ {n : Nat}, j < n → pu_pop n (a ||| 2 ^ j) = pu_pop n a + 1
  | n + 1, hj => by
    rw [pu_pop_s, pu_pop_s, Nat.testBit_or, Nat.testBit_two_pow]
    rcases (show j < n ∨ j = n by omega) with q | rfl
    · rw [pu_pop_or h q]
      simp [show ¬ j = n by omega]
      omega
    · rw [pu_pop_congr (b := a) (fun i hi => by rw [Nat.testBit_or, Nat.testBit_two_pow]; simp [show ¬ j = i by omega]), h]
      simp
theorem pu_pop_dif {a j : Nat} (h : a.testBit j = true) : ∀ {n : Nat}, n ≤ 32 → j < n → pu_pop n (pu_dif a (2 ^ j)) + 1 = pu_pop n a
  | n + 1, h32, hj => by
    rw [pu_pop_s, pu_pop_s, pu_dif_bit (by omega), Nat.testBit_two_pow]
    rcases (show j < n ∨ j = n by omega) with q | rfl
    · have := pu_pop_dif h (n := n) (by omega) q
      simp [show ¬ j = n by omega]
      omega
    · rw [pu_pop_congr (b := a) (fun i hi => by rw [pu_dif_bit (by omega), Nat.testBit_two_pow]; simp [show ¬ j = i by omega]), h]
      simp
theorem pu_sl_up {C : Nat → Nat} {n : Nat} (h : ∀ i, C i < 2 ^ n) : ∀ p, pu_sl C (n + 1) p = pu_sl C n p
  | 0 => rfl
  | p + 1 => by
    show pu_sl C (n + 1) p + pu_pop (n + 1) (C p) = pu_sl C n p + pu_pop n (C p)
    rw [pu_sl_up h p, pu_pop_s, Nat.testBit_lt_two_pow (h p)]
    simp
theorem pu_pop_0 : ∀ n, pu_pop n 0 = 0
  | 0 => rfl
  | n + 1 => by rw [pu_pop_s, pu_pop_0 n, Nat.zero_testBit]; rfl
theorem pu_al_place {C : Nat → Nat} {n : Nat} (h : ∀ i, C i < 2 ^ n) (h0 : C n = 0) : (pu_al C (n + 1) (n + 1)).length = (pu_al C n n).length := by
  rw [pu_al_len, pu_al_len]
  show pu_sl C (n + 1) n + pu_pop (n + 1) (C n) = _
  rw [pu_sl_up h, h0, pu_pop_0]
  rfl
theorem pu_al_add {C : Nat → Nat} {n i j : Nat} (hi : i < n) (hj : j < n) (h : (C i).testBit j = false) : (pu_al (pu_set C i (C i ||| 2 ^ j)) n n).length = (pu_al C n n).length + 1 := by
  rw [pu_al_len, pu_al_len]
  exact pu_sl_set (pu_pop_or h hj) hi
theorem pu_al_sub {C : Nat → Nat} {n i j : Nat} (hn : n ≤ 8) (hi : i < n) (hj : j < n) (h : (C i).testBit j = true) : (pu_al (pu_set C i (pu_dif (C i) (2 ^ j))) n n).length + 1 = (pu_al C n n).length := by
  rw [pu_al_len, pu_al_len]
  exact pu_sl_cut (pu_pop_dif h (by omega) hj) hi
theorem pu_al_0 {n : Nat} : (pu_al (fun _ => 0) n n).length = 0 := by
  rw [pu_al_len]
  have : ∀ p, pu_sl (fun _ => 0) n p = 0 := by
    intro p
    induction p with
    | zero => rfl
    | succ p ih => show pu_sl (fun _ => 0) n p + pu_pop n 0 = 0; rw [ih, pu_pop_0]
  exact this n
