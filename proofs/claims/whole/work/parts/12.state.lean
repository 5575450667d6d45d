/-! THE STATE: which cells hold what -/
/-- a row of numbers -/
abbrev am_ar (n : Nat) (g : Nat → Nat) : am_C := .inl (0, n, .inl (fun i => nI (g i)))
/-- only the cells of D have changed -/
def am_fr (D : List Nat) (w w1 : am_W) : Prop := w1.length = w.length ∧ ∀ i, i ∉ D → w1[i]? = w[i]?
theorem am_fr.rf {D : List Nat} {w : am_W} : am_fr D w w := ⟨rfl, fun _ _ => rfl⟩
theorem am_fr.put {D : List Nat} {w w1 : am_W} {a : Nat} {c : am_C} (h : am_fr D w w1) (ha : a ∈ D) : am_fr D w (w1.set a c) :=
  ⟨by rw [List.length_set]; exact h.1, fun i hi => by
    have hne : ¬ a = i := fun e => hi (by rw [← e]; exact ha)
    rw [List.getElem?_set, if_neg hne]; exact h.2 i hi⟩
theorem am_fr.tr {D : List Nat} {w w1 w2 : am_W} (h : am_fr D w w1) (g : am_fr D w1 w2) : am_fr D w w2 := ⟨g.1.trans h.1, fun i hi => (g.2 i hi).trans (h.2 i hi)⟩
theorem am_fr.up {D D' : List Nat} {w w1 : am_W} (h : am_fr D w w1) (g : ∀ i, i ∈ D → i ∈ D') : am_fr D' w w1 := ⟨h.1, fun i hi => h.2 i (fun q => hi (g i q))⟩
theorem am_fr.at {D : List Nat} {w w1 : am_W} (h : am_fr D w w1) {i : Nat} (hi : i ∉ D) {c : am_C} (hc : w[i]? = some c) : w1[i]? = some c := (h.2 i hi).trans hc
/-- a graph: its object a, its rows p (parents) and c (children); n places, k arcs -/
def GI (a p c n k : Nat) (P C : Nat → Nat) (w : am_W) : Prop :=
  w[a]? = some (.inr (1, [.int (nI n), .int (nI k), .ref p, .ref c])) ∧ w[p]? = some (am_ar 8 P) ∧ w[c]? = some (am_ar 8 C)
theorem GI.at {D : List Nat} {w w1 : am_W} {a p c n k : Nat} {P C : Nat → Nat} (h : GI a p c n k P C w) (f : am_fr D w w1) (ha : a ∉ D) (hp : p ∉ D) (hc : c ∉ D) : GI a p c n k P C w1 := ⟨f.at ha h.1, f.at hp h.2.1, f.at hc h.2.2⟩
/-- the strangers of a parent: the other parents of the child that no arc joins to it -/
def pu_st (P C : Nat → Nat) (p c : Nat) : Nat := if (P c).testBit p then pu_dif (pu_dif (P c) (2 ^ p)) (P p ||| C p) else 0
theorem pu_p2 {i : Nat} (h : i < 8) : 2 ^ i < 256 := by
  rcases (show i = 0 ∨ i = 1 ∨ i = 2 ∨ i = 3 ∨ i = 4 ∨ i = 5 ∨ i = 6 ∨ i = 7 by omega) with rfl | rfl | rfl | rfl | rfl | rfl | rfl | rfl <;> decide
theorem pu_p2e {i : Nat} (h : i ≤ 8) : 2 ^ i ≤ 256 := by
  rcases (show i < 8 ∨ i = 8 by omega) with h | rfl
  · exact Nat.le_of_lt (pu_p2 h)
  · decide
theorem pu_p1 (i : Nat) : 1 ≤ 2 ^ i := Nat.one_le_two_pow
theorem pu_or_lt {a b : Nat} (ha : a < 256) (hb : b < 256) : a ||| b < 256 := Nat.or_lt_two_pow (n := 8) ha hb
theorem pu_dif_lt {a b : Nat} (ha : a < 256) : pu_dif a b < 256 := Nat.lt_of_le_of_lt (pu_dif_le a b) ha
theorem pu_st_lt {P C : Nat → Nat} {p c : Nat} (h : ∀ i, P i < 256) : pu_st P C p c < 256 := by
  unfold pu_st
  by_cases hb : (P c).testBit p = true
  · rw [if_pos hb]; exact pu_dif_lt (pu_dif_lt (h c))
  · rw [if_neg hb]; decide
theorem pu_pop_le : ∀ n m, pu_pop n m ≤ n
  | 0, _ => Nat.le_refl 0
  | n + 1, m => by
    unfold pu_pop
    have := pu_pop_le n m
    by_cases h : m.testBit n = true
    · rw [if_pos h]; omega
    · rw [if_neg h]; omega
theorem pu_pop8 {m : Nat} (h : m < 256) : pu_pop 10 m = pu_pop 8 m := by
  have h8 : m.testBit 8 = false := Nat.testBit_lt_two_pow (by omega)
  have h9 : m.testBit 9 = false := Nat.testBit_lt_two_pow (by omega)
  show pu_pop 8 m + (if m.testBit 8 then 1 else 0) + (if m.testBit 9 then 1 else 0) = _
  rw [h8, h9]; simp
