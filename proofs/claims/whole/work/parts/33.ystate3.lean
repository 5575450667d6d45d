/-! THE REFERENCE'S STATE (3): arcs that count, the moral graph -/
/-- the parents that count -/
def pu_yc (n : Nat) (P : Nat → Nat) (H : Nat → Int32) (p : Nat) : Nat := if p < n ∧ H p = -1 then P p else 0
theorem pu_yc_lt {n : Nat} {P : Nat → Nat} {H : Nat → Int32} (h : ∀ i, P i < 256) (p : Nat) : pu_yc n P H p < 256 := by
  unfold pu_yc
  by_cases e : p < n ∧ H p = -1
  · rw [if_pos e]; exact h p
  · rw [if_neg e]; decide
/-- those of the first k places that have q in their set -/
def pu_ych (g : Nat → Nat) : Nat → Nat → Nat
  | 0, _ => 0
  | k + 1, q => pu_ych g k q ||| (if (g k).testBit q then 2 ^ k else 0)
theorem pu_ych_lt {g : Nat → Nat} : ∀ {k : Nat}, k ≤ 8 → ∀ q, pu_ych g k q < 256
  | 0, _, _ => (by decide : (0 : Nat) < 256)
  | k + 1, h, q => by
    unfold pu_ych
    refine pu_or_lt (pu_ych_lt (by omega) q) ?_
    by_cases e : (g k).testBit q = true
    · rw [if_pos e]; exact pu_p2 (by omega)
    · rw [if_neg e]; decide
theorem pu_ych_bit {g : Nat → Nat} {q : Nat} : ∀ {k i : Nat}, (pu_ych g k q).testBit i = true ↔ i < k ∧ (g i).testBit q = true
  | 0, i => by
    unfold pu_ych
    rw [Nat.zero_testBit]
    exact ⟨fun h => absurd h (by simp), fun h => absurd h.1 (Nat.not_lt_zero _)⟩
  | k + 1, i => by
    unfold pu_ych
    rw [Nat.testBit_or, Bool.or_eq_true, pu_ych_bit]
    constructor
    · rintro (h | h)
      · exact ⟨by omega, h.2⟩
      · by_cases e : (g k).testBit q = true
        · rw [if_pos e, Nat.testBit_two_pow] at h
          have : k = i := by simpa using h
          subst this
          exact ⟨Nat.lt_succ_self _, e⟩
        · rw [if_neg e, Nat.zero_testBit] at h; cases h
    · rintro ⟨h1, h2⟩
      rcases (show i < k ∨ i = k by omega) with h | rfl
      · exact Or.inl ⟨h, h2⟩
      · exact Or.inr (by rw [if_pos h2, Nat.testBit_two_pow]; simp)
/-- half done: below j the next stage, from j on this one -/
def pu_hf (a b : Nat → Nat) (j : Nat) : Nat → Nat := fun x => if x < j then a x else b x
theorem pu_hf_0 {a b : Nat → Nat} : pu_hf a b 0 = b := by funext x; simp [pu_hf]
theorem pu_hf_s {a b : Nat → Nat} {j : Nat} : pu_set (pu_hf a b j) j (a j) = pu_hf a b (j + 1) := by
  funext x
  unfold pu_set pu_hf
  by_cases h : x = j
  · simp [h]
  · by_cases h2 : x < j
    · simp [h, h2, show x < j + 1 by omega]
    · simp [h, h2, show ¬ x < j + 1 by omega]
theorem pu_hf_e {a b : Nat → Nat} {j n : Nat} (h : ∀ x, j ≤ x → x < n → a x = b x) : ∀ x, x < n → pu_hf a b j x = a x := by
  intro x hx
  unfold pu_hf
  by_cases h2 : x < j
  · rw [if_pos h2]
  · rw [if_neg h2]; exact (h x (by omega) hx).symm
/-- the rows of arcs that count -/
def CT (g : Nat → Nat) (w : am_W) : Prop := w[40]? = some (am_ar 8 g) ∧ w[41]? = some (am_ar 8 (pu_ych g 8))
theorem CT.at {D : List Nat} {w w1 : am_W} {g : Nat → Nat} (h : CT g w) (f : YF D w w1) (h1 : 40 ∉ D) (h2 : 41 ∉ D) : CT g w1 := ⟨f.at h1 h.1, f.at h2 h.2⟩
theorem pu_mx_u {h : Nat → Nat} {f : Nat → Int32} {n j x : Nat} (hj : j < n) : upd (pu_mx h f n) j (nI x) = pu_mx (pu_set h j x) f n := by
  funext i
  unfold upd pu_mx pu_set
  by_cases e : i = j
  · subst e; simp [hj]
  · simp [e]
theorem pu_mx_at {h : Nat → Nat} {f : Nat → Int32} {n j : Nat} (hj : j < n) : pu_mx h f n j = nI (h j) := by unfold pu_mx; rw [if_pos hj]
/-- the parents of p, if p is among 'all' -/
def pu_up_ (g : Nat → Nat) (all p : Nat) : Nat := if all.testBit p then g p else 0
/-- neighbours in the moral graph, from the first k children -/
def pu_nr (g : Nat → Nat) (all : Nat) : Nat → Nat → Nat
  | 0, _ => 0
  | p + 1, j => (pu_nr g all p j ||| (if j = p then pu_up_ g all p else 0)) ||| (if (pu_up_ g all p).testBit j then pu_up_ g all p ||| 2 ^ p else 0)
/-- .. the first half of such a step -/
def pu_nr1 (g : Nat → Nat) (all p : Nat) : Nat → Nat := fun j => pu_nr g all p j ||| (if j = p then pu_up_ g all p else 0)
theorem pu_nr1_e {g : Nat → Nat} {all p : Nat} : pu_set (pu_nr g all p) p (pu_nr g all p p ||| pu_up_ g all p) = pu_nr1 g all p := by
  funext j
  unfold pu_set pu_nr1
  by_cases h : j = p
  · subst h; simp
  · simp [h]
theorem pu_up_lt {g : Nat → Nat} {n all : Nat} (h : ∀ i, g i < 2 ^ n) (p : Nat) : pu_up_ g all p < 2 ^ n := by
  unfold pu_up_
  by_cases e : all.testBit p = true
  · rw [if_pos e]; exact h p
  · rw [if_neg e]; exact Nat.two_pow_pos n
theorem pu_nr_lt {g : Nat → Nat} {n all : Nat} (h : ∀ i, g i < 2 ^ n) : ∀ {p : Nat}, p ≤ n → ∀ j, pu_nr g all p j < 2 ^ n
  | 0, _, _ => Nat.two_pow_pos n
  | p + 1, hp, j => by
    unfold pu_nr
    refine Nat.or_lt_two_pow (Nat.or_lt_two_pow (pu_nr_lt h (by omega) j) ?_) ?_
    · by_cases e : j = p
      · rw [if_pos e]; exact pu_up_lt h p
      · rw [if_neg e]; exact Nat.two_pow_pos n
    · by_cases e : (pu_up_ g all p).testBit j = true
      · rw [if_pos e]; exact Nat.or_lt_two_pow (pu_up_lt h p) (Nat.pow_lt_pow_right (by decide) (by omega))
      · rw [if_neg e]; exact Nat.two_pow_pos n
theorem pu_in_ltn {g : Nat → Nat} {n : Nat} (hg : ∀ i, g i < 2 ^ n) : ∀ {k p a : Nat}, a < 2 ^ n → pu_in g k p a < 2 ^ n
  | 0, _, _, h => h
  | k + 1, p, a, h => by
    unfold pu_in
    by_cases e : a / 2 ^ p = 0
    · rw [if_pos e]; exact h
    · rw [if_neg e]
      refine pu_in_ltn hg ?_
      by_cases hb : a.testBit p = true
      · rw [if_pos hb]; exact Nat.or_lt_two_pow h (hg p)
      · rw [if_neg hb]; exact h
theorem pu_cl_ltn {g : Nat → Nat} {n m : Nat} (hg : ∀ i, g i < 2 ^ n) : ∀ {r a : Nat}, a < 2 ^ n → pu_cl g m r a < 2 ^ n
  | 0, _, h => h
  | r + 1, a, h => by
    unfold pu_cl
    by_cases e : a ||| pu_un g a m = a
    · rw [if_pos e]; exact h
    · rw [if_neg e]; exact pu_cl_ltn hg (Nat.or_lt_two_pow h (pu_un_lt hg m))
theorem pu_lt8 {n x : Nat} (hn : n ≤ 8) (h : x < 2 ^ n) : x < 256 := Nat.lt_of_lt_of_le h (pu_p2e hn)
/-- all that may matter; the moral neighbours that are not given; whether a and b are separated -/
def pu_all (g : Nat → Nat) (a b s : Nat) : Nat := pu_cl g 8 8 ((s ||| 2 ^ a) ||| 2 ^ b)
def pu_gs (g : Nat → Nat) (n a b s p : Nat) : Nat := pu_dif (pu_nr g (pu_all g a b s) n p) s
def pu_cn (g : Nat → Nat) (n a b s : Nat) : Nat := pu_cl (pu_gs g n a b s) 8 8 (2 ^ a)
def pu_sp (g : Nat → Nat) (n a b s : Nat) : Bool := !(pu_cn g n a b s).testBit b
theorem pu_gs_lt {g : Nat → Nat} {n a b s : Nat} (h : ∀ i, g i < 2 ^ n) (p : Nat) : pu_gs g n a b s p < 2 ^ n := Nat.lt_of_le_of_lt (pu_dif_le _ _) (pu_nr_lt h (Nat.le_refl n) p)
theorem YI.s1 {n k : Nat} {P : Nat → Nat} {H : Nat → Int32} {O : Nat → Nat} {ik : Bool} {kn : Nat} {KP : Nat → Nat} {ic : Bool} {fz sm : Nat} {w w1 : am_W} (h : YI n k P H O ik kn KP ic fz sm w) (f : YF [42] w w1) : YI n k P H O ik kn KP ic fz sm w1 := h.s f (by decide)
theorem pu_nr_fin {g : Nat → Nat} {all p q n : Nat} {f : Nat → Int32} (hz : pu_up_ g all p / 2 ^ q = 0) (j : Nat) : pu_mx (pu_hf (pu_nr g all (p + 1)) (pu_nr1 g all p) q) f n j = pu_mx (pu_nr g all (p + 1)) f n j := by
  unfold pu_mx
  by_cases hjn : j < n
  · rw [if_pos hjn, if_pos hjn, pu_hf_e (n := n) (fun x hx _ => ?_) j hjn]
    show _ ||| (if (pu_up_ g all p).testBit x then _ else _) = _
    rw [pu_shr0 hz hx]
    simp [pu_nr1]
  · rw [if_neg hjn, if_neg hjn]
