/-! FAMILIES: all ways of a list of arcs -/
noncomputable def pu_ind (p : Prop) : Nat := @ite _ p (Classical.propDecidable _) 1 0
theorem pu_ind_t {p : Prop} (h : p) : pu_ind p = 1 := by unfold pu_ind; rw [if_pos h]
theorem pu_ind_f {p : Prop} (h : ¬ p) : pu_ind p = 0 := by unfold pu_ind; rw [if_neg h]
noncomputable def pu_cnt (G : (Nat → Nat) → Prop) : List (Nat × Nat) → (Nat → Nat) → Nat
  | [], T => pu_ind (G T)
  | q :: l, T => pu_cnt G l (pu_lay T q) + pu_cnt G l (pu_lay T (q.2, q.1))
theorem pu_lay_ea {T : Nat → Nat} {q : Nat × Nat} {u v : Nat} : EA (pu_lay T q) u v ↔ EA T u v ∨ (u = q.2 ∧ v = q.1) := by
  unfold EA pu_lay pu_set
  by_cases e : v = q.1
  · rw [if_pos e, Nat.testBit_or, Bool.or_eq_true, Nat.testBit_two_pow, e]
    constructor
    · rintro (h | h)
      · exact Or.inl h
      · exact Or.inr ⟨(of_decide_eq_true h).symm, rfl⟩
    · rintro (h | h)
      · exact Or.inl h
      · exact Or.inr (decide_eq_true h.1.symm)
  · rw [if_neg e]
    exact ⟨Or.inl, fun h => h.elim id (fun q => absurd q.2 e)⟩
theorem pu_ea_ext {T T' : Nat → Nat} (h : ∀ u v, EA T u v ↔ EA T' u v) : T = T' := funext (fun v => pu_eqb (fun u => h u v))
theorem pu_lay_comm {T : Nat → Nat} {q r : Nat × Nat} : pu_lay (pu_lay T q) r = pu_lay (pu_lay T r) q := pu_ea_ext (fun u v => by
  rw [pu_lay_ea, pu_lay_ea, pu_lay_ea, pu_lay_ea]
  constructor
  · rintro ((h | h) | h)
    · exact Or.inl (Or.inl h)
    · exact Or.inr h
    · exact Or.inl (Or.inr h)
  · rintro ((h | h) | h)
    · exact Or.inl (Or.inl h)
    · exact Or.inr h
    · exact Or.inl (Or.inr h))
theorem pu_cnt_perm {G : (Nat → Nat) → Prop} {l l' : List (Nat × Nat)} (h : l.Perm l') : ∀ T, pu_cnt G l T = pu_cnt G l' T := by
  induction h with
  | nil => intro T; rfl
  | cons x _ ih => intro T; show pu_cnt G _ _ + pu_cnt G _ _ = pu_cnt G _ _ + pu_cnt G _ _; rw [ih, ih]
  | swap x y l =>
    intro T
    show (pu_cnt G l (pu_lay (pu_lay T y) x) + pu_cnt G l (pu_lay (pu_lay T y) (x.2, x.1))) + (pu_cnt G l (pu_lay (pu_lay T (y.2, y.1)) x) + pu_cnt G l (pu_lay (pu_lay T (y.2, y.1)) (x.2, x.1))) = (pu_cnt G l (pu_lay (pu_lay T x) y) + pu_cnt G l (pu_lay (pu_lay T x) (y.2, y.1))) + (pu_cnt G l (pu_lay (pu_lay T (x.2, x.1)) y) + pu_cnt G l (pu_lay (pu_lay T (x.2, x.1)) (y.2, y.1)))
    rw [pu_lay_comm (q := y) (r := x), pu_lay_comm (q := y) (r := (x.2, x.1)), pu_lay_comm (q := (y.2, y.1)) (r := x), pu_lay_comm (q := (y.2, y.1)) (r := (x.2, x.1))]
    omega
  | trans _ _ h1 h2 => intro T; rw [h1, h2]
def pu_swp (q : Nat × Nat) : Nat × Nat := (q.2, q.1)
theorem pu_cnt_sw {G : (Nat → Nat) → Prop} : ∀ (l : List (Nat × Nat)) T, pu_cnt G (l.map pu_swp) T = pu_cnt G l T
  | [], _ => rfl
  | q :: l, T => by
    show pu_cnt G (l.map pu_swp) (pu_lay T (q.2, q.1)) + pu_cnt G (l.map pu_swp) (pu_lay T (q.1, q.2)) = pu_cnt G l (pu_lay T q) + pu_cnt G l (pu_lay T (q.2, q.1))
    rw [pu_cnt_sw l, pu_cnt_sw l, Nat.add_comm]
def EQ (T Z : Nat → Nat) : Prop := ∀ u v, EA T u v → EA Z u v
theorem pu_cnt_zero {G : (Nat → Nat) → Prop} : ∀ (l : List (Nat × Nat)) T, (∀ Z, EQ T Z → ¬ G Z) → pu_cnt G l T = 0
  | [], T, h => pu_ind_f (h T (fun _ _ q => q))
  | q :: l, T, h => by
    show pu_cnt G l (pu_lay T q) + pu_cnt G l (pu_lay T (q.2, q.1)) = 0
    rw [pu_cnt_zero l (pu_lay T q) (fun Z hZ => h Z (fun u v e => hZ u v (pu_lay_ea.mpr (Or.inl e)))), pu_cnt_zero l (pu_lay T (q.2, q.1)) (fun Z hZ => h Z (fun u v e => hZ u v (pu_lay_ea.mpr (Or.inl e))))]
/-- no ring, and it tells the same -/
def Gd (P Z : Nat → Nat) : Prop := (∃ τ : Nat → Nat, ∀ u v, EA Z u v → τ u < τ v) ∧ SKV (EA P) (EA Z)
theorem Gd.asy {P Z : Nat → Nat} (h : Gd P Z) {u v : Nat} (h1 : EA Z u v) : ¬ EA Z v u := fun h2 => by
  obtain ⟨τ, ht⟩ := h.1
  have := ht u v h1
  have := ht v u h2
  omega
/-- .. and it turns the arc p, c -/
def TT (P : Nat → Nat) (p c : Nat) (Z : Nat → Nat) : Prop := Gd P Z ∧ EA Z c p
noncomputable def pu_tn (P : Nat → Nat) (L : List (Nat × Nat)) (q : Nat × Nat) : Bool := !(pu_cnt (TT P q.1 q.2) L (fun _ => 0) == 0)
/-- an arc more, and no ring -/
theorem pu_acy_add {T : Nat → Nat} (hT : ∀ i, T i < 256) {a b : Nat} (ha : a < 8) (ht : ∃ τ : Nat → Nat, ∀ u v, EA T u v → τ u < τ v) (hr : (pu_cl T 8 8 (2 ^ a)).testBit b = false) : ∃ τ : Nat → Nat, ∀ u v, EA (pu_lay T (b, a)) u v → τ u < τ v := by
  obtain ⟨τ, ht⟩ := ht
  have hc := pu_cl_clo hT (pu_p2 ha)
  refine ⟨fun u => if (pu_cl T 8 8 (2 ^ a)).testBit u = true then τ u else τ u + τ a + 1, fun u v e => ?_⟩
  show (if _ then _ else _) < (if _ then _ else _)
  have haa : (pu_cl T 8 8 (2 ^ a)).testBit a = true := hc.1 a (by rw [Nat.testBit_two_pow]; simp)
  rcases pu_lay_ea.mp e with h | ⟨h, h'⟩
  · have := ht u v h
    by_cases hv : (pu_cl T 8 8 (2 ^ a)).testBit v = true
    · rw [if_pos hv, if_pos (hc.2.1 v hv u h)]; exact this
    · rw [if_neg hv]
      by_cases hu : (pu_cl T 8 8 (2 ^ a)).testBit u = true
      · rw [if_pos hu]; omega
      · rw [if_neg hu]; omega
  · rw [show u = a from h, show v = b from h']
    rw [if_pos haa, hr, if_neg (by decide)]
    omega
theorem pu_acy_no {T Z : Nat → Nat} {a b : Nat} (hr : (pu_cl T 8 8 (2 ^ a)).testBit b = true) (hZ : EQ (pu_lay T (b, a)) Z) : ¬ ∃ τ : Nat → Nat, ∀ u v, EA Z u v → τ u < τ v := by
  rintro ⟨τ, ht⟩
  have key : ∀ u, (pu_cl T 8 8 (2 ^ a)).testBit u = true → τ u ≤ τ a := by
    refine pu_cl_ind (X := fun u => τ u ≤ τ a) ?_ ?_
    · intro i hi j hj
      have := ht j i (hZ j i (pu_lay_ea.mpr (Or.inl hj)))
      omega
    · intro i hi
      rw [Nat.testBit_two_pow] at hi
      rw [← of_decide_eq_true hi]
      exact Nat.le_refl _
  have h1 := key b hr
  have h2 := ht a b (hZ a b (pu_lay_ea.mpr (Or.inr ⟨rfl, rfl⟩)))
  omega
section Kin
variable {n : Nat} {P C : Nat → Nat} {L : List (Nat × Nat)}
/-- the first i arcs of L lie in T, no ring, no new strangers -/
def PG (P C : Nat → Nat) (L : List (Nat × Nat)) (i : Nat) (T : Nat → Nat) : Prop :=
  (∀ i, T i < 256) ∧ (∀ u v, ADJ (EA T) u v ↔ ∃ b, b < i ∧ (L[b]? = some (u, v) ∨ L[b]? = some (v, u))) ∧ (∃ τ : Nat → Nat, ∀ u v, EA T u v → τ u < τ v) ∧ (∀ x y z, EA T x y → EA T z y → x ≠ z → ¬ ADJ (EA P) x z → VST (EA P) x y z) ∧ ∀ b p c, b < i → L[b]? = some (p, c) → ¬ pu_st P C p c = 0 → EA T p c
theorem pu_may_iff (hP : GG n P) (hD : DU P C) {T : Nat → Nat} (hT : ∀ i, T i < 256) {a b : Nat} : pu_mf P C T a b = true ↔ ∀ z, EA T z b → ADJ (EA P) z a ∨ VST (EA P) a b z := by
  have h8 : ∀ i, P i < 256 := fun i => pu_lt8 hP.1 (hP.2.1 i)
  unfold pu_mf
  rw [decide_eq_true_iff, pu_dz (pu_dif_lt (hT b))]
  constructor
  · intro h z hz
    by_cases q : (P a ||| C a).testBit z = true
    · exact Or.inl (hD.ad.mp q)
    · have hz8 : z < 8 := pu_bit_lt (n := 8) (hT b) hz
      have := h z (by rw [pu_dif_bit (by omega), Bool.and_eq_true]; exact ⟨hz, by cases w : (P a ||| C a).testBit z with | false => rfl | true => exact absurd w q⟩)
      exact Or.inr ((hD.st h8).mp this)
  · intro h z hz
    have hz8 : z < 8 := pu_bit_lt (n := 8) (pu_dif_lt (hT b)) hz
    rw [pu_dif_bit (by omega), Bool.and_eq_true] at hz
    rcases h z hz.1 with q | q
    · rw [hD.ad.mpr q] at hz; cases hz.2
    · exact (hD.st h8).mpr q
theorem pu_idx (hN : L.Nodup) {i j : Nat} {q : Nat × Nat} (h1 : L[i]? = some q) (h2 : L[j]? = some q) : i = j :=
  (List.getElem?_inj (List.getElem?_eq_some_iff.mp h1).1 hN).mp (h1.trans h2.symm)
theorem PG.step (hP : GG n P) (hD : DU P C) (hN : L.Nodup) {i : Nat} {T : Nat → Nat} (h : PG P C L i T) {p c a b : Nat} (hi : L[i]? = some (p, c)) (hab : (a = p ∧ b = c) ∨ (a = c ∧ b = p ∧ pu_st P C p c = 0)) (ha : a < 8) (hm : pu_may P C T a b = true) : PG P C L (i + 1) (pu_lay T (b, a)) := by
  obtain ⟨h1, h2, h3, h4, h5⟩ := h
  unfold pu_may at hm
  rw [Bool.and_eq_true] at hm
  have hmf := (pu_may_iff hP hD h1).mp hm.1
  have hr : (pu_cl T 8 8 (2 ^ a)).testBit b = false := by
    cases w : (pu_cl T 8 8 (2 ^ a)).testBit b with
    | false => rfl
    | true => rw [w] at hm; cases hm.2
  refine ⟨pu_lay_lt (n := 8) h1 ha, fun u v => ?_, pu_acy_add h1 ha h3 hr, ?_, ?_⟩
  · have e : ADJ (EA (pu_lay T (b, a))) u v ↔ ADJ (EA T) u v ∨ ((u = a ∧ v = b) ∨ (u = b ∧ v = a)) := by
      unfold ADJ
      rw [pu_lay_ea, pu_lay_ea]
      constructor
      · rintro ((q | q) | (q | q))
        · exact Or.inl (Or.inl q)
        · exact Or.inr (Or.inl q)
        · exact Or.inl (Or.inr q)
        · exact Or.inr (Or.inr ⟨q.2, q.1⟩)
      · rintro ((q | q) | (q | q))
        · exact Or.inl (Or.inl q)
        · exact Or.inr (Or.inl q)
        · exact Or.inl (Or.inr q)
        · exact Or.inr (Or.inr ⟨q.2, q.1⟩)
    rw [e, h2]
    constructor
    · rintro (⟨x, q1, q2⟩ | q)
      · exact ⟨x, by omega, q2⟩
      · refine ⟨i, Nat.lt_succ_self _, ?_⟩
        rcases hab with ⟨rfl, rfl⟩ | ⟨rfl, rfl, -⟩ <;> rcases q with ⟨rfl, rfl⟩ | ⟨rfl, rfl⟩ <;> first | exact Or.inl hi | exact Or.inr hi
    · rintro ⟨x, q1, q2⟩
      rcases (show x < i ∨ x = i by omega) with w | rfl
      · exact Or.inl ⟨x, w, q2⟩
      · right
        rw [hi] at q2
        rcases hab with ⟨rfl, rfl⟩ | ⟨rfl, rfl, -⟩ <;> rcases q2 with q | q <;> injection q with q <;> injection q with qa qb <;> subst qa <;> subst qb <;> first | exact Or.inl ⟨rfl, rfl⟩ | exact Or.inr ⟨rfl, rfl⟩
  · intro x y z hx hz hne hna
    rcases pu_lay_ea.mp hx with qx | ⟨rfl, rfl⟩
    · rcases pu_lay_ea.mp hz with qz | ⟨rfl, rfl⟩
      · exact h4 x y z qx qz hne hna
      · rcases hmf x qx with w | w
        · exact absurd w hna
        · exact w.sy
    · rcases pu_lay_ea.mp hz with qz | ⟨rfl, -⟩
      · rcases hmf z qz with w | w
        · exact absurd (Or.symm w) hna
        · exact w
      · exact absurd rfl hne
  · intro x p' c' hx hL hs
    rcases (show x < i ∨ x = i by omega) with w | rfl
    · exact pu_lay_ea.mpr (Or.inl (h5 x p' c' w hL hs))
    · rw [hi] at hL
      injection hL with q
      injection q with qa qb
      subst qa
      subst qb
      rcases hab with ⟨rfl, rfl⟩ | ⟨-, -, q⟩
      · exact pu_lay_ea.mpr (Or.inr ⟨rfl, rfl⟩)
      · exact absurd q hs
theorem PG.fail (hP : GG n P) (hD : DU P C) {i : Nat} {T : Nat → Nat} (h : PG P C L i T) {a b : Nat} (hab : ¬ ADJ (EA T) a b) (hm : pu_may P C T a b = false) {Z : Nat → Nat} (hZ : EQ (pu_lay T (b, a)) Z) : ¬ Gd P Z := by
  intro hG
  obtain ⟨h1, h2, h3, h4, h5⟩ := h
  have hr : (pu_cl T 8 8 (2 ^ a)).testBit b = false := by
    cases w : (pu_cl T 8 8 (2 ^ a)).testBit b with
    | false => rfl
    | true => exact absurd hG.1 (pu_acy_no w hZ)
  have hmf : pu_mf P C T a b = true := (pu_may_iff hP hD h1).mpr (fun z hz => by
    by_cases w : ADJ (EA P) z a
    · exact Or.inl w
    · right
      refine (hG.2.2 a b z).mpr ⟨hZ a b (pu_lay_ea.mpr (Or.inr ⟨rfl, rfl⟩)), hZ z b (pu_lay_ea.mpr (Or.inl hz)), fun e => ?_, fun q => w (Or.symm ((hG.2.1 a z).mpr q))⟩
      subst e
      exact hab (Or.inl hz))
  unfold pu_may at hm
  rw [hmf, hr] at hm
  cases hm
theorem PG.turn (hP : GG n P) (hD : DU P C) {p c : Nat} (hs : ¬ pu_st P C p c = 0) {Z : Nat → Nat} (hZ : EA Z c p) : ¬ Gd P Z := by
  intro hG
  have h8 : ∀ i, P i < 256 := fun i => pu_lt8 hP.1 (hP.2.1 i)
  obtain ⟨z, hz⟩ := Nat.exists_testBit_of_ne_zero hs
  exact hG.asy ((hG.2.2 p c z).mp ((hD.st h8).mp hz)).1 hZ
theorem PG.last (hP : GG n P) (hD : DU P C) (hL : ∀ q : Nat × Nat, q ∈ L ↔ EA P q.1 q.2) {T : Nat → Nat} (h : PG P C L L.length T) : Gd P T := by
  obtain ⟨h1, h2, h3, h4, h5⟩ := h
  have h8 : ∀ i, P i < 256 := fun i => pu_lt8 hP.1 (hP.2.1 i)
  have adj : ∀ u v, ADJ (EA P) u v ↔ ADJ (EA T) u v := by
    intro u v
    rw [h2]
    constructor
    · rintro (q | q)
      · obtain ⟨x, hx, e⟩ := List.getElem_of_mem ((hL (u, v)).mpr q)
        exact ⟨x, hx, Or.inl (by rw [List.getElem?_eq_getElem hx, e])⟩
      · obtain ⟨x, hx, e⟩ := List.getElem_of_mem ((hL (v, u)).mpr q)
        exact ⟨x, hx, Or.inr (by rw [List.getElem?_eq_getElem hx, e])⟩
    · rintro ⟨x, -, q | q⟩
      · exact Or.inl ((hL (u, v)).mp (List.mem_of_getElem? q))
      · exact Or.inr ((hL (v, u)).mp (List.mem_of_getElem? q))
  have one : ∀ x y z, VST (EA P) x y z → EA T x y := by
    intro x y z hv
    obtain ⟨b, hb, e⟩ := List.getElem_of_mem ((hL (x, y)).mpr hv.1)
    refine h5 b x y hb (by rw [List.getElem?_eq_getElem hb, e]) (fun q => ?_)
    have := (hD.st h8).mpr hv
    rw [q, Nat.zero_testBit] at this
    cases this
  refine ⟨h3, adj, fun x y z => ⟨fun q => ⟨one x y z q, one z y x q.sy, q.2.2.1, fun w => q.2.2.2 ((adj x z).mpr w)⟩, fun q => h4 x y z q.1 q.2.1 q.2.2.1 (fun w => q.2.2.2 ((adj x z).mp w))⟩⟩
theorem pu_on_ea {s : pu_S} {p c u v : Nat} : EA (pu_on s p c).1 u v ↔ EA s.1 u v ∨ (u = p ∧ v = c) := pu_lay_ea (q := (c, p))
/-- which arcs were turned so far -/
def TS (L : List (Nat × Nat)) (i ts : Nat) (T : Nat → Nat) : Prop := (∀ b, i ≤ b → ts.testBit b = false) ∧ ∀ b p c, b < i → L[b]? = some (p, c) → ((ts.testBit b = true → EA T c p) ∧ (ts.testBit b = false → EA T p c))
def GT (P : Nat → Nat) (L : List (Nat × Nat)) (x : Nat) (Z : Nat → Nat) : Prop := Gd P Z ∧ ∃ p c, L[x]? = some (p, c) ∧ EA Z c p
def SP (P : Nat → Nat) (L l : List (Nat × Nat)) (T : Nat → Nat) (s r : pu_S) : Prop := r.1 = s.1 ∧ r.2.1 = s.2.1 + pu_cnt (Gd P) l T ∧ ∀ x, (r.2.2.testBit x = true ↔ s.2.2.testBit x = true ∨ ¬ pu_cnt (GT P L x) l T = 0)
theorem pu_one_spec {l : List (Nat × Nat)} {go : pu_S → pu_S} {s : pu_S} {a b : Nat} (ha : a < 8) (hok : ∀ i, s.1 i < 256) (hnb : (s.1 b).testBit a = false) (hgo : pu_may P C s.1 a b = true → SP P L l (pu_lay s.1 (b, a)) (pu_on s a b) (go (pu_on s a b))) (hf : pu_may P C s.1 a b = false → ∀ Z, EQ (pu_lay s.1 (b, a)) Z → ¬ Gd P Z) : SP P L l (pu_lay s.1 (b, a)) s (pu_one P C go a b s) := by
  unfold pu_one
  cases e : pu_may P C s.1 a b with
  | true =>
    rw [if_pos rfl]
    obtain ⟨h1, h2, h3⟩ := hgo e
    refine ⟨?_, h2, h3⟩
    show pu_set (go (pu_on s a b)).1 b (pu_dif ((go (pu_on s a b)).1 b) (2 ^ a)) = s.1
    rw [h1]
    funext i
    show (if i = b then pu_dif (if b = b then _ else _) (2 ^ a) else if i = b then _ else s.1 i) = s.1 i
    by_cases q : i = b
    · rw [if_pos q, if_pos rfl, q]
      apply Nat.eq_of_testBit_eq
      intro x
      by_cases hx : x < 32
      · rw [pu_dif_bit hx, Nat.testBit_or, Nat.testBit_two_pow]
        by_cases w : a = x
        · subst w; rw [hnb]; simp
        · simp [w]
      · have big : 256 ≤ 2 ^ x := Nat.le_trans (show 256 ≤ 2 ^ 8 by decide) (Nat.pow_le_pow_right (by decide) (by omega))
        rw [Nat.testBit_lt_two_pow (Nat.lt_of_lt_of_le (hok b) big)]
        exact Nat.testBit_lt_two_pow (Nat.lt_of_lt_of_le (pu_dif_lt (pu_or_lt (hok b) (pu_p2 ha))) big)
    · rw [if_neg q, if_neg q]
  | false =>
    rw [if_neg (by decide)]
    refine ⟨rfl, by rw [pu_cnt_zero l _ (fun Z hZ => hf e Z hZ)]; rfl, fun x => ?_⟩
    rw [pu_cnt_zero l _ (fun Z hZ q => hf e Z hZ q.1)]
    simp
theorem pu_dr_spec (hP : GG n P) (hD : DU P C) (hL : ∀ q : Nat × Nat, q ∈ L ↔ EA P q.1 q.2) (hN : L.Nodup) : ∀ k, k ≤ L.length → ∀ (ts : Nat) (s : pu_S), PG P C L (L.length - k) s.1 → TS L (L.length - k) ts s.1 → SP P L (L.drop (L.length - k)) s.1 s (pu_dr P C L k ts s)
  | 0, _, ts, s, hG, hT => by
    rw [Nat.sub_zero] at hG hT ⊢
    have g := hG.last hP hD hL
    rw [List.drop_length]
    refine ⟨rfl, by show _ = s.2.1 + pu_ind _; rw [pu_ind_t g]; rfl, fun x => ?_⟩
    show (s.2.2 ||| ts).testBit x = true ↔ _ ∨ ¬ pu_ind (GT P L x s.1) = 0
    rw [Nat.testBit_or, Bool.or_eq_true]
    have : ts.testBit x = true ↔ ¬ pu_ind (GT P L x s.1) = 0 := by
      constructor
      · intro q
        have hx : x < L.length := Nat.lt_of_not_le (fun w => by rw [hT.1 x w] at q; cases q)
        have e : L[x]? = some (L[x].1, L[x].2) := List.getElem?_eq_getElem hx
        have hg : GT P L x s.1 := ⟨g, _, _, e, (hT.2 x _ _ hx e).1 q⟩
        rw [pu_ind_t hg]
        decide
      · intro q
        refine Classical.byContradiction (fun w => q (pu_ind_f (fun r => ?_)))
        obtain ⟨r1, p, c, r2, r3⟩ := r
        have hx : x < L.length := (List.getElem?_eq_some_iff.mp r2).1
        exact r1.asy r3 ((hT.2 x p c hx r2).2 (by cases u : ts.testBit x with | false => rfl | true => exact absurd u w))
    rw [this]
  | k + 1, hk, ts, s, hG, hT => by
    have hi : L.length - (k + 1) < L.length := by omega
    have e : L[L.length - (k + 1)]? = some L[L.length - (k + 1)] := List.getElem?_eq_getElem hi
    have hstep : L.length - (k + 1) + 1 = L.length - k := by omega
    generalize hq : L[L.length - (k + 1)] = q at e
    obtain ⟨p, c⟩ := q
    have hmem : EA P p c := (hL (p, c)).mp (List.mem_of_getElem? e)
    have hfin := hP.fin hmem
    have hn := hP.1
    have hdrop : L.drop (L.length - (k + 1)) = (p, c) :: L.drop (L.length - k) := by
      rw [List.drop_eq_getElem_cons hi, hstep, hq]
    have hna : ¬ ADJ (EA s.1) p c := by
      rw [hG.2.1]
      rintro ⟨b, hb, w | w⟩
      · have := pu_idx hN w e; omega
      · exact hP.asy hmem ((hL (c, p)).mp (List.mem_of_getElem? w))
    have hna' : ¬ ADJ (EA s.1) c p := fun w => hna (Or.symm w)
    have fa : ∀ {x : Bool}, ¬ x = true → x = false := by intro x q; cases x <;> simp_all
    -- as it is
    have s1 : SP P L (L.drop (L.length - k)) (pu_lay s.1 (c, p)) s (pu_one P C (pu_dr P C L k ts) p c s) := pu_one_spec (by omega) hG.1 (fa (fun w => hna (Or.inl w))) (fun hm => by
      have hG' := hG.step hP hD hN e (Or.inl ⟨rfl, rfl⟩) (by omega) hm
      rw [hstep] at hG'
      refine pu_dr_spec hP hD hL hN k (by omega) ts (pu_on s p c) hG' ⟨fun b hb => hT.1 b (by omega), fun b p' c' hb hb2 => ?_⟩
      rcases (show b < L.length - (k + 1) ∨ b = L.length - (k + 1) by omega) with w | rfl
      · exact ⟨fun u => pu_on_ea.mpr (Or.inl ((hT.2 b p' c' w hb2).1 u)), fun u => pu_on_ea.mpr (Or.inl ((hT.2 b p' c' w hb2).2 u))⟩
      · rw [e] at hb2
        injection hb2 with q
        injection q with qa qb
        subst qa
        subst qb
        exact ⟨fun u => (by rw [hT.1 _ (Nat.le_refl _)] at u; cases u), fun _ => pu_on_ea.mpr (Or.inr ⟨rfl, rfl⟩)⟩) (fun hm Z hZ => hG.fail hP hD hna hm hZ)
    have fin : ∀ r : pu_S, r.1 = s.1 → r.2.1 = s.2.1 + pu_cnt (Gd P) (L.drop (L.length - k)) (pu_lay s.1 (c, p)) + pu_cnt (Gd P) (L.drop (L.length - k)) (pu_lay s.1 (p, c)) → (∀ x, r.2.2.testBit x = true ↔ (s.2.2.testBit x = true ∨ ¬ pu_cnt (GT P L x) (L.drop (L.length - k)) (pu_lay s.1 (c, p)) = 0) ∨ ¬ pu_cnt (GT P L x) (L.drop (L.length - k)) (pu_lay s.1 (p, c)) = 0) → SP P L (L.drop (L.length - (k + 1))) s.1 s r := by
      intro r r1 r2 r3
      rw [hdrop]
      refine ⟨r1, ?_, fun x => ?_⟩
      · show _ = s.2.1 + (pu_cnt (Gd P) _ (pu_lay s.1 (p, c)) + pu_cnt (Gd P) _ (pu_lay s.1 (c, p)))
        omega
      · rw [r3 x]
        show _ ↔ _ ∨ ¬ (pu_cnt (GT P L x) _ (pu_lay s.1 (p, c)) + pu_cnt (GT P L x) _ (pu_lay s.1 (c, p)) = 0)
        constructor
        · rintro ((w | w) | w)
          · exact Or.inl w
          · exact Or.inr (by omega)
          · exact Or.inr (by omega)
        · rintro (w | w)
          · exact Or.inl (Or.inl w)
          · by_cases u : pu_cnt (GT P L x) (L.drop (L.length - k)) (pu_lay s.1 (p, c)) = 0
            · exact Or.inl (Or.inr (by omega))
            · exact Or.inr u
    unfold pu_dr
    rw [e]
    show SP P L _ s.1 s (if pu_st P C p c = 0 then pu_one P C (pu_dr P C L k (ts ||| 2 ^ (L.length - (k + 1)))) c p (pu_one P C (pu_dr P C L k ts) p c s) else pu_one P C (pu_dr P C L k ts) p c s)
    by_cases hs : pu_st P C p c = 0
    · rw [if_pos hs]
      generalize hs' : pu_one P C (pu_dr P C L k ts) p c s = s' at s1 ⊢
      obtain ⟨a1, a2, a3⟩ := s1
      have s2 : SP P L (L.drop (L.length - k)) (pu_lay s'.1 (p, c)) s' (pu_one P C (pu_dr P C L k (ts ||| 2 ^ (L.length - (k + 1)))) c p s') := by
        have hG2 : PG P C L (L.length - (k + 1)) s'.1 := by rw [a1]; exact hG
        refine pu_one_spec (by omega) (by rw [a1]; exact hG.1) (by rw [a1]; exact fa (fun w => hna (Or.inr w))) (fun hm => ?_) (fun hm Z hZ => hG2.fail hP hD (by rw [a1]; exact hna') hm hZ)
        have hG' := hG2.step hP hD hN e (Or.inr ⟨rfl, rfl, hs⟩) (by omega) hm
        rw [hstep] at hG'
        refine pu_dr_spec hP hD hL hN k (by omega) _ (pu_on s' c p) hG' ⟨fun b hb => ?_, fun b p' c' hb hb2 => ?_⟩
        · rw [Nat.testBit_or, hT.1 b (by omega), Nat.testBit_two_pow]
          simp
          omega
        · rw [Nat.testBit_or, Nat.testBit_two_pow]
          rcases (show b < L.length - (k + 1) ∨ b = L.length - (k + 1) by omega) with w | rfl
          · have hne : ¬ L.length - (k + 1) = b := by omega
            simp only [hne, decide_false, Bool.or_false]
            have := hT.2 b p' c' w hb2
            rw [← a1] at this
            exact ⟨fun u => pu_on_ea.mpr (Or.inl (this.1 u)), fun u => pu_on_ea.mpr (Or.inl (this.2 u))⟩
          · rw [e] at hb2
            injection hb2 with q
            injection q with qa qb
            subst qa
            subst qb
            refine ⟨fun _ => pu_on_ea.mpr (Or.inr ⟨rfl, rfl⟩), fun u => ?_⟩
            simp at u
      obtain ⟨b1, b2, b3⟩ := s2
      rw [a1] at b2
      refine fin _ (b1.trans a1) (by rw [b2, a2]) (fun x => ?_)
      rw [b3 x, a3 x, a1]
    · rw [if_neg hs]
      obtain ⟨a1, a2, a3⟩ := s1
      have z1 : pu_cnt (Gd P) (L.drop (L.length - k)) (pu_lay s.1 (p, c)) = 0 := pu_cnt_zero _ _ (fun Z hZ => PG.turn hP hD hs (hZ c p (pu_lay_ea.mpr (Or.inr ⟨rfl, rfl⟩))))
      refine fin _ a1 (by rw [a2, z1]; rfl) (fun x => ?_)
      have z2 : pu_cnt (GT P L x) (L.drop (L.length - k)) (pu_lay s.1 (p, c)) = 0 := pu_cnt_zero _ _ (fun Z hZ q => PG.turn hP hD hs (hZ c p (pu_lay_ea.mpr (Or.inr ⟨rfl, rfl⟩))) q.1)
      rw [a3 x, z2]
      simp
end Kin
