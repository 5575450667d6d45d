/-! THE REFERENCE'S STATE (7): rings, families -/
def KLY (L : List (Nat × Nat)) (w : am_W) : Prop := ∃ f1 f2 : Nat → Int32, w[50]? = some (.inl (0, 10, .inl (pu_l1 L f1))) ∧ w[49]? = some (.inl (0, 10, .inl (pu_l2 L f2)))
theorem KLY.at {D : List Nat} {w w1 : am_W} {L : List (Nat × Nat)} (h : KLY L w) (f : YF D w w1) (h1 : 49 ∉ D) (h2 : 50 ∉ D) : KLY L w1 := by
  obtain ⟨f1, f2, e1, e2⟩ := h
  exact ⟨f1, f2, f.at h2 e1, f.at h1 e2⟩
/-- no ring -/
def ACY (n : Nat) (T : Nat → Nat) : Prop := ∃ τ : Nat → Nat, ∀ u v, v < n → (T v).testBit u = true → τ u < τ v
theorem pu_andm1 (a : Nat) : nI a &&& (-1) = nI a := by
  apply Int32.toBitVec_inj.1
  show BitVec.ofNat 32 a &&& BitVec.allOnes 32 = BitVec.ofNat 32 a
  exact BitVec.and_allOnes
/-- one pass over the places: those with no parent left go -/
def pu_ps (T : Nat → Nat) : Nat → Nat → Nat
  | 0, x => x
  | p + 1, x => if T p &&& pu_ps T p x = 0 then pu_dif (pu_ps T p x) (2 ^ p) else pu_ps T p x
theorem pu_ps_le {T : Nat → Nat} : ∀ {p x : Nat}, pu_ps T p x ≤ x
  | 0, _ => Nat.le_refl _
  | p + 1, x => by
    unfold pu_ps
    by_cases h : T p &&& pu_ps T p x = 0
    · rw [if_pos h]; exact Nat.le_trans (pu_dif_le _ _) pu_ps_le
    · rw [if_neg h]; exact pu_ps_le
theorem pu_ps_dn {T : Nat → Nat} {x p : Nat} : ∀ k, pu_ps T (p + k) x ≤ pu_ps T p x
  | 0 => Nat.le_refl _
  | k + 1 => by
    refine Nat.le_trans ?_ (pu_ps_dn k)
    show (if T (p + k) &&& pu_ps T (p + k) x = 0 then pu_dif (pu_ps T (p + k) x) (2 ^ (p + k)) else pu_ps T (p + k) x) ≤ pu_ps T (p + k) x
    by_cases h : T (p + k) &&& pu_ps T (p + k) x = 0
    · rw [if_pos h]; exact pu_dif_le _ _
    · rw [if_neg h]; exact Nat.le_refl _
theorem pu_ps_fix {T : Nat → Nat} {n x : Nat} (h : pu_ps T n x = x) {p : Nat} (hp : p < n) (h8 : p < 32) (hb : x.testBit p = true) : ¬ T p &&& x = 0 := by
  intro e
  have h1 : pu_ps T p x = x := Nat.le_antisymm pu_ps_le (by
    have := pu_ps_dn (T := T) (x := x) (p := p) (n - p)
    rw [show p + (n - p) = n by omega, h] at this
    exact this)
  have h2 : pu_ps T (p + 1) x = x := Nat.le_antisymm pu_ps_le (by
    have := pu_ps_dn (T := T) (x := x) (p := p + 1) (n - (p + 1))
    rw [show p + 1 + (n - (p + 1)) = n by omega, h] at this
    exact this)
  unfold pu_ps at h2
  rw [h1, if_pos e] at h2
  rw [← h2, pu_dif_bit h8, Nat.testBit_two_pow] at hb
  simp at hb
/-- those that went have their parents before them -/
def RMV (n : Nat) (T : Nat → Nat) (x : Nat) : Prop := ∃ τ : Nat → Nat, ∀ v u, v < n → x.testBit v = false → (T v).testBit u = true → x.testBit u = false ∧ τ u < τ v
def pu_ts (τ : Nat → Nat) : Nat → Nat
  | 0 => 1
  | k + 1 => pu_ts τ k + τ k
theorem pu_ts_lt {τ : Nat → Nat} {u : Nat} : ∀ {k : Nat}, u < k → τ u < pu_ts τ k
  | k + 1, h => by
    show _ < pu_ts τ k + τ k
    have h0 : ∀ k, 0 < pu_ts τ k := by
      intro k
      induction k with
      | zero => exact Nat.one_pos
      | succ k ih => show 0 < pu_ts τ k + τ k; omega
    rcases (show u < k ∨ u = k by omega) with h | rfl
    · have := pu_ts_lt (τ := τ) h; omega
    · have := h0 u; omega
theorem pu_dif_same {x p : Nat} (hx : x < 2 ^ 32) (hb : x.testBit p = false) : pu_dif x (2 ^ p) = x := by
  apply Nat.eq_of_testBit_eq
  intro i
  by_cases hi : i < 32
  · rw [pu_dif_bit hi, Nat.testBit_two_pow]
    by_cases hip : p = i
    · subst hip
      rw [hb]; rfl
    · simp [hip]
  · have h1 : x < 2 ^ i := Nat.lt_of_lt_of_le hx (Nat.pow_le_pow_right (by decide) (by omega))
    rw [Nat.testBit_lt_two_pow h1, Nat.testBit_lt_two_pow (Nat.lt_of_le_of_lt (pu_dif_le _ _) h1)]
theorem RMV.ps {n : Nat} {T : Nat → Nat} (hn : n ≤ 8) (hT : ∀ i, T i < 2 ^ n) {x : Nat} (hlt : x < 2 ^ 32) (h : RMV n T x) : ∀ {p : Nat}, p ≤ n → RMV n T (pu_ps T p x)
  | 0, _ => h
  | p + 1, hp => by
    obtain ⟨τ, ih⟩ := RMV.ps hn hT hlt h (p := p) (by omega)
    unfold pu_ps
    by_cases e : T p &&& pu_ps T p x = 0
    · rw [if_pos e]
      by_cases hx : (pu_ps T p x).testBit p = true
      · refine ⟨fun u => if u = p then pu_ts τ 8 else τ u, fun v u hv hb hu => ?_⟩
        have hu8 : u < n := pu_bit_lt (hT v) hu
        rw [pu_dif_bit (by omega), Nat.testBit_two_pow] at hb
        rw [pu_dif_bit (by omega), Nat.testBit_two_pow]
        by_cases hvp : v = p
        · subst hvp
          have hz : (pu_ps T v x).testBit u = false := by
            have : (T v &&& pu_ps T v x).testBit u = false := by rw [e, Nat.zero_testBit]
            rw [Nat.testBit_and, hu, Bool.true_and] at this
            exact this
          have hne : ¬ u = v := fun q => by rw [q, hx] at hz; cases hz
          refine ⟨by rw [hz]; rfl, ?_⟩
          show (if u = v then _ else τ u) < (if v = v then pu_ts τ 8 else _)
          rw [if_neg hne, if_pos rfl]
          exact pu_ts_lt (by omega)
        · have hb' : (pu_ps T p x).testBit v = false := by
            cases q : (pu_ps T p x).testBit v with
            | false => rfl
            | true =>
              rw [q] at hb
              simp at hb
              exact absurd hb.symm hvp
          have h2 := ih v u hv hb' hu
          have hne : ¬ u = p := fun q => by rw [q, hx] at h2; cases h2.1
          refine ⟨by rw [h2.1]; rfl, ?_⟩
          show (if u = p then _ else τ u) < (if v = p then _ else τ v)
          rw [if_neg hne, if_neg hvp]
          exact h2.2
      · have hx' : pu_dif (pu_ps T p x) (2 ^ p) = pu_ps T p x := pu_dif_same (Nat.lt_of_le_of_lt pu_ps_le hlt) (by cases q : (pu_ps T p x).testBit p with | false => rfl | true => exact absurd q hx)
        rw [hx']
        exact ⟨τ, ih⟩
    · rw [if_neg e]
      exact ⟨τ, ih⟩
theorem RMV.start {n : Nat} {T : Nat → Nat} : RMV n T (2 ^ n - 1) := ⟨fun _ => 0, fun v u hv hb _ => by
  rw [Nat.testBit_two_pow_sub_one] at hb
  simp at hb
  omega⟩
theorem RMV.done {n : Nat} {T : Nat → Nat} (h : RMV n T 0) : ACY n T := by
  obtain ⟨τ, ih⟩ := h
  exact ⟨τ, fun u v hv hu => (ih v u hv (Nat.zero_testBit _) hu).2⟩
theorem pu_ring {n x : Nat} {T : Nat → Nat} (hx : x < 2 ^ n) (hn : n ≤ 8) (h0 : ¬ x = 0) (hf : pu_ps T n x = x) : ¬ ACY n T := by
  rintro ⟨τ, ht⟩
  have key : ∀ m p, τ p ≤ m → x.testBit p = true → False := by
    intro m
    induction m with
    | zero =>
      intro p hp hb
      have hpn := pu_bit_lt hx hb
      obtain ⟨u, hu⟩ := Nat.exists_testBit_of_ne_zero (pu_ps_fix hf hpn (by omega) hb)
      rw [Nat.testBit_and, Bool.and_eq_true] at hu
      have := ht u p hpn hu.1
      omega
    | succ m ih =>
      intro p hp hb
      have hpn := pu_bit_lt hx hb
      obtain ⟨u, hu⟩ := Nat.exists_testBit_of_ne_zero (pu_ps_fix hf hpn (by omega) hb)
      rw [Nat.testBit_and, Bool.and_eq_true] at hu
      have := ht u p hpn hu.1
      exact ih u (by omega) hu.2
  obtain ⟨p, hp⟩ := Nat.exists_testBit_of_ne_zero h0
  exact key _ p (Nat.le_refl _) hp
/-- the graph in which the arcs of L go as 'way' says; L holds (to, from) -/
def pu_lay (T : Nat → Nat) (q : Nat × Nat) : Nat → Nat := pu_set T q.1 (T q.1 ||| 2 ^ q.2)
def pu_tw (L : List (Nat × Nat)) (way : Nat) : Nat → Nat → Nat
  | 0 => fun _ => 0
  | m + 1 => match L[m]? with
    | some q => if way.testBit m then pu_lay (pu_tw L way m) (q.2, q.1) else pu_lay (pu_tw L way m) q
    | none => pu_tw L way m
theorem pu_lay_lt {T : Nat → Nat} {q : Nat × Nat} {n : Nat} (h : ∀ i, T i < 2 ^ n) (hq : q.2 < n) : ∀ i, pu_lay T q i < 2 ^ n := by
  intro i
  unfold pu_lay pu_set
  by_cases e : i = q.1
  · rw [if_pos e]; exact Nat.or_lt_two_pow (h _) (Nat.pow_lt_pow_right (by decide) hq)
  · rw [if_neg e]; exact h i
theorem pu_tw_lt {L : List (Nat × Nat)} {way n : Nat} (hL : ∀ q, q ∈ L → q.1 < n ∧ q.2 < n) : ∀ m i, pu_tw L way m i < 2 ^ n
  | 0, _ => Nat.two_pow_pos n
  | m + 1, i => by
    unfold pu_tw
    cases e : L[m]? with
    | none => exact pu_tw_lt hL m i
    | some q =>
      have hq := hL q (List.mem_of_getElem? e)
      show (if way.testBit m then _ else _ : Nat → Nat) i < 2 ^ n
      by_cases h : way.testBit m = true
      · rw [if_pos h]; exact pu_lay_lt (pu_tw_lt hL m) hq.1 i
      · rw [if_neg h]; exact pu_lay_lt (pu_tw_lt hL m) hq.2 i
/-- a way is good: no ring, and it tells the same -/
def GW (P : Nat → Nat) (n : Nat) (L : List (Nat × Nat)) (way : Nat) : Prop := ACY n (pu_tw L way L.length) ∧ SAME P (pu_tw L way L.length) n
/-- how many of the first ways are good, and which arcs none of them turns -/
noncomputable def pu_fm (G : Nat → Prop) (k : Nat) : Nat → Nat × Nat
  | 0 => (0, 2 ^ k - 1)
  | x + 1 => @ite _ (G x) (Classical.propDecidable _) ((pu_fm G k x).1 + 1, pu_dif (pu_fm G k x).2 x) (pu_fm G k x)
theorem pu_fm_t {G : Nat → Prop} {k x : Nat} (h : G x) : pu_fm G k (x + 1) = ((pu_fm G k x).1 + 1, pu_dif (pu_fm G k x).2 x) := by
  show @ite _ _ (Classical.propDecidable _) _ _ = _
  rw [if_pos h]
theorem pu_fm_f {G : Nat → Prop} {k x : Nat} (h : ¬ G x) : pu_fm G k (x + 1) = pu_fm G k x := by
  show @ite _ _ (Classical.propDecidable _) _ _ = _
  rw [if_neg h]
theorem pu_fm_1 {G : Nat → Prop} {k : Nat} : ∀ x, (pu_fm G k x).1 ≤ x
  | 0 => Nat.le_refl _
  | x + 1 => by
    have ih := pu_fm_1 (G := G) (k := k) x
    by_cases h : G x
    · rw [pu_fm_t h]; show (pu_fm G k x).1 + 1 ≤ x + 1; omega
    · rw [pu_fm_f h]; omega
theorem pu_fm_2 {G : Nat → Prop} {k : Nat} : ∀ x, (pu_fm G k x).2 ≤ 2 ^ k - 1
  | 0 => Nat.le_refl _
  | x + 1 => by
    have ih := pu_fm_2 (G := G) (k := k) x
    by_cases h : G x
    · rw [pu_fm_t h]; exact Nat.le_trans (pu_dif_le _ _) ih
    · rw [pu_fm_f h]; exact ih
noncomputable def pu_fam (P : Nat → Nat) (n : Nat) : Nat × Nat := pu_fm (GW P n (pu_al P n n)) (pu_al P n n).length (2 ^ (pu_al P n n).length)
theorem pu_fam_1 {P : Nat → Nat} {n : Nat} (h : (pu_al P n n).length ≤ 10) : (pu_fam P n).1 ≤ 1024 := Nat.le_trans (pu_fm_1 _) (Nat.pow_le_pow_right (n := 2) (by decide) h)
theorem pu_fam_2 {P : Nat → Nat} {n : Nat} (h : (pu_al P n n).length ≤ 10) : (pu_fam P n).2 < 1024 := by
  have h1 := pu_fm_2 (G := GW P n (pu_al P n n)) (k := (pu_al P n n).length) (2 ^ (pu_al P n n).length)
  have h2 : 2 ^ (pu_al P n n).length ≤ 2 ^ 10 := Nat.pow_le_pow_right (by decide) h
  have h3 : 0 < 2 ^ (pu_al P n n).length := Nat.two_pow_pos _
  unfold pu_fam
  omega
/-- the answer of settled: L holds (to, from) -/
def pu_so (L : List (Nat × Nat)) (sm i j : Nat) : Nat → Int32
  | 0 => 0
  | k + 1 => pu_so L sm i j k ||| (if L[k]? = some (j, i) then pu_b (sm.testBit k) else 0)
/-- how many are held -/
def pu_hn (H : Nat → Int32) : Nat → Nat
  | 0 => 0
  | p + 1 => pu_hn H p + (if H p = -1 then 0 else 1)
theorem pu_hn_le {H : Nat → Int32} : ∀ p, pu_hn H p ≤ p
  | 0 => Nat.le_refl _
  | p + 1 => by
    show pu_hn H p + _ ≤ _
    have := pu_hn_le (H := H) p
    by_cases h : H p = -1
    · rw [if_pos h]; omega
    · rw [if_neg h]; omega
/-- what countFamily keeps -/
def YC (n k : Nat) (P : Nat → Nat) (H : Nat → Int32) (O : Nat → Nat) (ik : Bool) (kn : Nat) (KP : Nat → Nat) (ic : Bool) (fz sm : Nat) (L : List (Nat × Nat)) (w : am_W) : Prop := YI n k P H O ik kn KP ic fz sm w ∧ KLY L w ∧ ∃ f, w[48]? = some (.inl (2, 16384, .inl f)) ∧ LF P n (2 ^ n) 0 1 f
theorem YC.s {n k : Nat} {P : Nat → Nat} {H : Nat → Int32} {O : Nat → Nat} {ik : Bool} {kn : Nat} {KP : Nat → Nat} {ic : Bool} {fz sm : Nat} {L : List (Nat × Nat)} {D : List Nat} {w w1 : am_W} (h : YC n k P H O ik kn KP ic fz sm L w) (f : YF D w w1) (hD : ∀ i, i ∈ D → i < 35 ∨ (39 < i ∧ i < 48) ∨ 50 < i) : YC n k P H O ik kn KP ic fz sm L w1 := by
  obtain ⟨h1, h2, g, h3, h4⟩ := h
  exact ⟨h1.s f (fun i hi => by have := hD i hi; omega), h2.at f (fun hi => by have := hD _ hi; omega) (fun hi => by have := hD _ hi; omega), g, f.at (fun hi => by have := hD _ hi; omega) h3, h4⟩
