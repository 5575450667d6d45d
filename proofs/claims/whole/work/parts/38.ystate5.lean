/-! THE REFERENCE'S STATE (5): weights and sums -/
def pu_mxL (g : Nat → Nat) (f : Nat → Int64) (i : Nat) : Nat → Int64 := fun j => if j < i then lN (g j) else f j
theorem pu_mxL_0 {g : Nat → Nat} {f : Nat → Int64} : pu_mxL g f 0 = f := by funext j; simp [pu_mxL]
theorem pu_mxL_s {g : Nat → Nat} {f : Nat → Int64} {i : Nat} : vp_updL (pu_mxL g f i) i (lN (g i)) = pu_mxL g f (i + 1) := by
  funext j
  unfold vp_updL pu_mxL
  by_cases h : j = i
  · simp [h]
  · by_cases h2 : j < i
    · simp [h, h2, show j < i + 1 by omega]
    · simp [h, h2, show ¬ j < i + 1 by omega]
theorem pu_mxL_at {g : Nat → Nat} {f : Nat → Int64} {i j : Nat} (h : j < i) : pu_mxL g f i j = lN (g j) := by unfold pu_mxL; rw [if_pos h]
theorem pu_pop_s {m q : Nat} : pu_pop (q + 1) m = pu_pop q m + (if m.testBit q then 1 else 0) := rfl
theorem pu_rv_s {m v q : Nat} : pu_rv m v (q + 1) = if m.testBit q then pu_rv m v q ||| (if v.testBit q then 2 ^ pu_pop q m else 0) else pu_rv m v q := rfl
theorem pu_rv_lt {par v : Nat} : ∀ q, pu_rv par v q < 2 ^ pu_pop q par
  | 0 => (by decide : (0 : Nat) < 2 ^ 0)
  | q + 1 => by
    rw [pu_rv_s, pu_pop_s]
    have ih := pu_rv_lt (par := par) (v := v) q
    by_cases h : par.testBit q = true
    · rw [if_pos h, if_pos h]
      refine Nat.or_lt_two_pow (Nat.lt_of_lt_of_le ih (Nat.pow_le_pow_right (by decide) (by omega))) ?_
      by_cases hv : v.testBit q = true
      · rw [if_pos hv]; exact Nat.pow_lt_pow_right (by decide) (by omega)
      · rw [if_neg hv]; exact Nat.two_pow_pos _
    · rw [if_neg h, if_neg h]; exact ih
theorem pu_pop_up {m q : Nat} : ∀ k, pu_pop q m ≤ pu_pop (q + k) m
  | 0 => Nat.le_refl _
  | k + 1 => by
    refine Nat.le_trans (pu_pop_up k) ?_
    show _ ≤ pu_pop (q + k) m + _
    omega
theorem pu_pop_to8 {m q : Nat} (h : q ≤ 8) : pu_pop q m ≤ pu_pop 8 m := by
  have := pu_pop_up (m := m) (q := q) (8 - q)
  rw [show q + (8 - q) = 8 by omega] at this
  exact this
/-- the factor of one place, as the reference counts it -/
def pu_yf (n : Nat) (P : Nat → Nat) (H : Nat → Int32) (O : Nat → Nat) (v p : Nat) : Nat := if H p = -1 then (if v.testBit p then O (128 * p + pu_rv (P p) v n) else 8 - O (128 * p + pu_rv (P p) v n)) else (if H p = pu_b (v.testBit p) then 8 else 0)
def pu_yp (n : Nat) (P : Nat → Nat) (H : Nat → Int32) (O : Nat → Nat) (v : Nat) : Nat → Nat
  | 0 => 1
  | p + 1 => pu_yp n P H O v p * pu_yf n P H O v p
def pu_yw (n : Nat) (P : Nat → Nat) (H : Nat → Int32) (O : Nat → Nat) (v : Nat) : Nat := pu_yp n P H O v n
/-- four rows in one -/
def pu_sec (A B X Y : Nat → Nat) : Nat → Nat := fun j => if j < 256 then A j else if j < 512 then B (j - 256) else if j < 768 then X (j - 512) else Y (j - 768)
theorem pu_sec_a {A B X Y : Nat → Nat} {j x : Nat} (h : j < 256) : pu_ad (pu_sec A B X Y) j x = pu_sec (pu_ad A j x) B X Y := by
  funext i
  unfold pu_ad pu_sec
  by_cases e : i = j
  · subst e; simp [h]
  · simp [e]
theorem pu_sec_b {A B X Y : Nat → Nat} {j x : Nat} (h : j < 256) : pu_ad (pu_sec A B X Y) (256 + j) x = pu_sec A (pu_ad B j x) X Y := by
  funext i
  unfold pu_ad pu_sec
  by_cases e : i = 256 + j
  · subst e; simp [show 256 + j < 512 by omega, show ¬ 256 + j < 256 by omega]
  · by_cases h1 : i < 256
    · simp [e, h1]
    · simp [e, h1, show ¬ i - 256 = j by omega]
theorem pu_sec_x {A B X Y : Nat → Nat} {j x : Nat} (h : j < 256) : pu_ad (pu_sec A B X Y) (512 + j) x = pu_sec A B (pu_ad X j x) Y := by
  funext i
  unfold pu_ad pu_sec
  by_cases e : i = 512 + j
  · subst e; simp [show ¬ 512 + j < 512 by omega, show ¬ 512 + j < 256 by omega, show 512 + j < 768 by omega]
  · by_cases h1 : i < 256
    · simp [e, h1]
    · by_cases h2 : i < 512
      · simp [e, h1, h2]
      · simp [e, h1, h2, show ¬ i - 512 = j by omega]
theorem pu_sec_y {A B X Y : Nat → Nat} {j x : Nat} : pu_ad (pu_sec A B X Y) (768 + j) x = pu_sec A B X (pu_ad Y j x) := by
  funext i
  unfold pu_ad pu_sec
  by_cases e : i = 768 + j
  · subst e; simp [show ¬ 768 + j < 512 by omega, show ¬ 768 + j < 256 by omega, show ¬ 768 + j < 768 by omega]
  · by_cases h1 : i < 256
    · simp [e, h1]
    · by_cases h2 : i < 512
      · simp [e, h1, h2]
      · by_cases h3 : i < 768
        · simp [e, h1, h2, h3]
        · simp [e, h1, h2, h3, show ¬ i - 768 = j by omega]
theorem pu_secA {A B X Y : Nat → Nat} {j : Nat} (h : j < 256) : pu_sec A B X Y j = A j := by simp [pu_sec, h]
theorem pu_secB {A B X Y : Nat → Nat} {j : Nat} (h : j < 256) : pu_sec A B X Y (256 + j) = B j := by simp [pu_sec, show 256 + j < 512 by omega, show ¬ 256 + j < 256 by omega]
theorem pu_secX {A B X Y : Nat → Nat} {j : Nat} (h : j < 256) : pu_sec A B X Y (512 + j) = X j := by simp [pu_sec, show ¬ 512 + j < 256 by omega, show ¬ 512 + j < 512 by omega, show 512 + j < 768 by omega]
theorem pu_secY {A B X Y : Nat → Nat} {j : Nat} : pu_sec A B X Y (768 + j) = Y j := by simp [pu_sec, show ¬ 768 + j < 256 by omega, show ¬ 768 + j < 512 by omega, show ¬ 768 + j < 768 by omega]
theorem pu_or3 {t a b : Nat} : (t ||| a) ||| (t ||| b) = t ||| a ||| b := by
  apply Nat.eq_of_testBit_eq
  intro i
  simp only [Nat.testBit_or]
  cases t.testBit i <;> cases a.testBit i <;> cases b.testBit i <;> rfl
theorem pu_dif_all {v a : Nat} (hv : v < 2 ^ 32) (h : pu_dif v a = 0) : v &&& a = v := by
  apply Nat.eq_of_testBit_eq
  intro i
  rw [Nat.testBit_and]
  by_cases hi : i < 32
  · have := pu_dif_bit (a := v) (b := a) hi
    rw [h, Nat.zero_testBit] at this
    cases hv : v.testBit i <;> cases ha : a.testBit i <;> simp_all
  · rw [Nat.testBit_lt_two_pow (Nat.lt_of_lt_of_le hv (Nat.pow_le_pow_right (by decide) (by omega)))]
    rfl
