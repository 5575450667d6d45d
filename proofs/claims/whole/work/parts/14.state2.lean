/-! THE STATE (2): tables and walks; their numbers -/
theorem am_cpy8 {f g : Nat → Int32} {j : Nat} (hj : j < 8) : va_cpy f g (0 : Int32).toNatClampNeg (0 : Int32).toNatClampNeg (8 : Int32).toNatClampNeg j = f j := by
  have h0 : (0 : Int32).toNatClampNeg = 0 := by decide
  have h8 : (8 : Int32).toNatClampNeg = 8 := by decide
  rw [h0, h8]
  unfold va_cpy
  rw [if_pos ⟨Nat.zero_le _, by omega⟩]
  simp
/-- the tables: which are held (hd), at what (hv); eighths -/
def TI (hd hv : Nat) (E : Nat → Nat → Nat) (w : am_W) : Prop :=
  w[7]? = some (.inr (4, [.ref 8, .int (nI hd), .int (nI hv)])) ∧ w[8]? = some (.inl (3, 8, .inr (.inr (.inr (.inr (fun i => if i < 8 then some (9 + i) else none)))))) ∧ ∀ i, i < 8 → w[9 + i]? = some (am_ar 128 (E i))
theorem TI.at {D : List Nat} {w w1 : am_W} {hd hv : Nat} {E : Nat → Nat → Nat} (h : TI hd hv E w) (f : am_fr D w w1) (hD : ∀ i, i ∈ D → i < 7 ∨ 16 < i) : TI hd hv E w1 :=
  ⟨f.at (fun q => by have := hD _ q; omega) h.1, f.at (fun q => by have := hD _ q; omega) h.2.1, fun i hi => f.at (fun q => by have := hD _ q; omega) (h.2.2 i hi)⟩
/-- at what a place is held -/
def pu_ha (hd hv i : Nat) : Int32 := if hd.testBit i then pu_b (hv.testBit i) else -1
/-- the row in which the values v of the parents stand, of the first p places -/
def pu_rv (par v : Nat) : Nat → Nat
  | 0 => 0
  | p + 1 => if par.testBit p then pu_rv par v p ||| (if v.testBit p then 2 ^ pu_pop p par else 0) else pu_rv par v p
theorem pu_shb {k : Nat} (b : Bool) (hk : k < 31) : pu_b b <<< (nI k &&& 31) = nI (if b then 2 ^ k else 0) := by
  cases b with
  | false =>
    show (0 : Int32) <<< (nI k &&& 31) = nI 0
    have h := pk_shlN (n := 0) (nI k &&& 31) k (pu_sh k (by omega)) (by simp)
    rw [nI_0] at h
    rw [h]
    simp
  | true => exact pu_bit k hk
/-- the factor of one place in a weight -/
def pu_fac (P : Nat → Nat) (E : Nat → Nat → Nat) (i v : Nat) : Nat := if v.testBit i then E i (pu_rv (P i) v 8) else 8 - E i (pu_rv (P i) v 8)
def pu_pd (P : Nat → Nat) (E : Nat → Nat → Nat) (hd v : Nat) : Nat → Nat
  | 0 => 1
  | p + 1 => pu_pd P E hd v p * (if hd.testBit p then 8 else pu_fac P E p v)
/-- the weight of values of all places -/
def pu_wt (P : Nat → Nat) (E : Nat → Nat → Nat) (n hd hv v : Nat) : Nat := if (v ^^^ hv) &&& hd = 0 then pu_pd P E hd v n else 0
theorem pu_fac_le {P : Nat → Nat} {E : Nat → Nat → Nat} (hE : ∀ i j, E i j ≤ 8) (i v : Nat) : pu_fac P E i v ≤ 8 := by
  unfold pu_fac
  by_cases h : v.testBit i = true
  · rw [if_pos h]; exact hE _ _
  · rw [if_neg h]; omega
theorem pu_pd_le {P : Nat → Nat} {E : Nat → Nat → Nat} (hE : ∀ i j, E i j ≤ 8) (hd v : Nat) : ∀ p, pu_pd P E hd v p ≤ 8 ^ p
  | 0 => Nat.le_refl 1
  | p + 1 => by
    unfold pu_pd
    rw [Nat.pow_succ]
    refine Nat.mul_le_mul (pu_pd_le hE hd v p) ?_
    by_cases h : hd.testBit p = true
    · rw [if_pos h]; exact Nat.le_refl 8
    · rw [if_neg h]; exact pu_fac_le hE p v
theorem pu_pd_0 {P : Nat → Nat} {E : Nat → Nat → Nat} {hd v p : Nat} (h : pu_pd P E hd v p = 0) : ∀ k, pu_pd P E hd v (p + k) = 0
  | 0 => h
  | k + 1 => by
    show pu_pd P E hd v (p + k) * _ = 0
    rw [pu_pd_0 h k, Nat.zero_mul]
/-- new numbers g below i, old ones f from i on -/
def pu_mx (g : Nat → Nat) (f : Nat → Int32) (i : Nat) : Nat → Int32 := fun j => if j < i then nI (g j) else f j
theorem pu_mx_0 {g : Nat → Nat} {f : Nat → Int32} : pu_mx g f 0 = f := by funext j; simp [pu_mx]
theorem pu_mx_s {g : Nat → Nat} {f : Nat → Int32} {i : Nat} : upd (pu_mx g f i) i (nI (g i)) = pu_mx g f (i + 1) := by
  funext j
  unfold upd pu_mx
  by_cases h : j = i
  · simp [h]
  · by_cases h2 : j < i
    · simp [h, h2, show j < i + 1 by omega]
    · simp [h, h2, show ¬ j < i + 1 by omega]
/-- the arcs that count, into a place and out of it; ni: none into these, no: none out of these -/
def pu_gi (P : Nat → Nat) (ni no p : Nat) : Nat := if ni.testBit p then 0 else pu_dif (P p) no
def pu_go (C : Nat → Nat) (ni no p : Nat) : Nat := if no.testBit p then 0 else pu_dif (C p) ni
theorem pu_gi_lt {P : Nat → Nat} (h : ∀ i, P i < 256) (ni no p : Nat) : pu_gi P ni no p < 256 := by
  unfold pu_gi
  by_cases hb : ni.testBit p = true
  · rw [if_pos hb]; decide
  · rw [if_neg hb]; exact pu_dif_lt (h p)
/-- the walks' object: the rows into (18) and outOf (19), and six numbers -/
def VI (gi go : Nat → Nat) (w : am_W) : Prop := w[18]? = some (am_ar 8 gi) ∧ w[19]? = some (am_ar 8 go)
def VO (g m na ng sa sg : Nat) (w : am_W) : Prop := w[17]? = some (.inr (5, [.ref 18, .ref 19, .int (nI g), .int (nI m), .int (nI na), .int (nI ng), .int (nI sa), .int (nI sg)]))
/-- .. whatever stands there -/
def VS (w : am_W) : Prop := (∃ g m na ng sa sg : Int32, w[17]? = some (.inr (5, [.ref 18, .ref 19, .int g, .int m, .int na, .int ng, .int sa, .int sg]))) ∧ (∃ f : Nat → Int32, w[18]? = some (.inl (0, 8, .inl f))) ∧ ∃ f : Nat → Int32, w[19]? = some (.inl (0, 8, .inl f))
theorem VS.at {D : List Nat} {w w1 : am_W} (h : VS w) (f : am_fr D w w1) (h1 : 17 ∉ D) (h2 : 18 ∉ D) (h3 : 19 ∉ D) : VS w1 := by
  obtain ⟨⟨g, m, na, ng, sa, sg, e⟩, ⟨f1, e1⟩, f2, e2⟩ := h
  exact ⟨⟨g, m, na, ng, sa, sg, f.at h1 e⟩, ⟨f1, f.at h2 e1⟩, f2, f.at h3 e2⟩
theorem VI.at {D : List Nat} {w w1 : am_W} {gi go : Nat → Nat} (h : VI gi go w) (f : am_fr D w w1) (h2 : 18 ∉ D) (h3 : 19 ∉ D) : VI gi go w1 := ⟨f.at h2 h.1, f.at h3 h.2⟩
/-- one arc further: (now along, now against, seen along, seen against) -/
def pu_na (gi go : Nat → Nat) (g m na ng sa : Nat) : Nat := pu_dif (pu_un go (pu_dif ng g ||| pu_dif na g) 8) sa
def pu_ng (gi go : Nat → Nat) (g m na ng sg : Nat) : Nat := pu_dif (pu_un gi (pu_dif ng g ||| (na &&& m)) 8) sg
