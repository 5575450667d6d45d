/-! PURE ROWS: sets of places as numbers, over nI -/
theorem pu_and (a b : Nat) : nI a &&& nI b = nI (a &&& b) := by
  apply Int32.toBitVec_inj.1
  show BitVec.ofNat 32 a &&& BitVec.ofNat 32 b = BitVec.ofNat 32 (a &&& b)
  apply BitVec.eq_of_getLsbD_eq
  intro i hi
  simp [hi]
theorem pu_or (a b : Nat) : nI a ||| nI b = nI (a ||| b) := by
  apply Int32.toBitVec_inj.1
  show BitVec.ofNat 32 a ||| BitVec.ofNat 32 b = BitVec.ofNat 32 (a ||| b)
  apply BitVec.eq_of_getLsbD_eq
  intro i hi
  simp [hi]
theorem pu_xor (a b : Nat) : nI a ^^^ nI b = nI (a ^^^ b) := by
  apply Int32.toBitVec_inj.1
  show BitVec.ofNat 32 a ^^^ BitVec.ofNat 32 b = BitVec.ofNat 32 (a ^^^ b)
  apply BitVec.eq_of_getLsbD_eq
  intro i hi
  simp [hi]
/-- those of a that are not in b -/
def pu_dif (a b : Nat) : Nat := a &&& (b ^^^ 4294967295)
theorem pu_m1 : (-1 : Int32) = nI 4294967295 := by decide +kernel
theorem pu_not (a b : Nat) : nI a &&& (nI b ^^^ (-1)) = nI (pu_dif a b) := by
  rw [pu_m1, pu_xor, pu_and]
  rfl
theorem pu_dif_bit {a b i : Nat} (hi : i < 32) : (pu_dif a b).testBit i = (a.testBit i && !b.testBit i) := by
  unfold pu_dif
  rw [Nat.testBit_and, Nat.testBit_xor, show (4294967295 : Nat) = 2 ^ 32 - 1 from rfl, Nat.testBit_two_pow_sub_one]
  simp [hi]
theorem pu_dif_le (a b : Nat) : pu_dif a b ≤ a := Nat.and_le_left
theorem pu_sh : ∀ n, n < 32 → ((nI n &&& 31).toBitVec.smod 32).toNat = n := by decide +kernel
theorem pu_bit : ∀ i, i < 31 → (1 : Int32) <<< (nI i &&& 31) = nI (2 ^ i) := by decide +kernel
def pu_b (b : Bool) : Int32 := if b then 1 else 0
theorem pu_b0 {b : Bool} : pu_b b = 0 ↔ b = false := by cases b <;> decide
theorem pu_has {m i : Nat} (hm : m < 2 ^ 31) (hi : i < 32) : (nI m >>> (nI i &&& 31)) &&& 1 = pu_b (m.testBit i) := by
  rw [pk_shrN hm _ i (pu_sh i hi)]
  show nI (m / 2 ^ i) &&& nI 1 = _
  rw [pu_and, Nat.and_one_is_mod, Nat.testBit_eq_decide_div_mod_eq]
  by_cases h : m / 2 ^ i % 2 = 1
  · rw [h]; rfl
  · rw [show m / 2 ^ i % 2 = 0 by omega]; rfl
theorem pu_nI_inj {a b : Nat} (ha : a < 2 ^ 31) (hb : b < 2 ^ 31) (h : nI a = nI b) : a = b := (nI_eq ha hb).mp h
/-- a row of numbers, one of them written -/
def pu_set (g : Nat → Nat) (j x : Nat) : Nat → Nat := fun i => if i = j then x else g i
theorem pu_upd (g : Nat → Nat) (j x : Nat) : upd (fun i => nI (g i)) j (nI x) = fun i => nI (pu_set g j x i) := by
  funext i
  unfold upd pu_set
  by_cases h : i = j
  · simp [h]
  · simp [h]
theorem pu_set_eq {g : Nat → Nat} {j x : Nat} : pu_set g j x j = x := by simp [pu_set]
theorem pu_set_ne {g : Nat → Nat} {i j x : Nat} (h : i ≠ j) : pu_set g j x i = g i := by simp [pu_set, h]
/-- counting up: what holds at n, and at i if at i + 1, holds at all -/
theorem pu_up {P : Nat → Prop} {n : Nat} (hn : P n) (hs : ∀ i, i < n → P (i + 1) → P i) : ∀ i, i ≤ n → P i := by
  intro i hi
  obtain ⟨k, rfl⟩ : ∃ k, n = i + k := ⟨n - i, by omega⟩
  induction k generalizing i with
  | zero => exact hn
  | succ k ih => exact hs i (by omega) (ih (i := i + 1) (by rw [show i + 1 + k = i + (k + 1) by omega]; exact hn) (fun j hj => hs j (by omega)) (by omega))
/-- the union of the sets g i, i in m, i below k -/
def pu_un (g : Nat → Nat) (m : Nat) : Nat → Nat
  | 0 => 0
  | k + 1 => if m.testBit k then pu_un g m k ||| g k else pu_un g m k
theorem pu_un_bit {g : Nat → Nat} {m : Nat} : ∀ {k j : Nat}, (pu_un g m k).testBit j = true ↔ ∃ i, i < k ∧ m.testBit i = true ∧ (g i).testBit j = true
  | 0, j => by
    unfold pu_un
    rw [Nat.zero_testBit]
    exact ⟨fun h => absurd h (by simp), fun ⟨i, h, _⟩ => absurd h (Nat.not_lt_zero _)⟩
  | k + 1, j => by
    unfold pu_un
    by_cases hk : m.testBit k = true
    · rw [if_pos hk, Nat.testBit_or, Bool.or_eq_true, pu_un_bit]
      constructor
      · rintro (⟨i, h1, h2⟩ | h)
        · exact ⟨i, by omega, h2⟩
        · exact ⟨k, by omega, hk, h⟩
      · rintro ⟨i, h1, h2, h3⟩
        rcases Nat.lt_or_ge i k with h | h
        · exact Or.inl ⟨i, h, h2, h3⟩
        · rw [show i = k by omega] at h3
          exact Or.inr h3
    · rw [if_neg hk, pu_un_bit]
      constructor
      · rintro ⟨i, h1, h2⟩
        exact ⟨i, by omega, h2⟩
      · rintro ⟨i, h1, h2, h3⟩
        rcases Nat.lt_or_ge i k with h | h
        · exact ⟨i, h, h2, h3⟩
        · rw [show i = k by omega] at h2
          exact absurd h2 hk
theorem pu_un_lt {g : Nat → Nat} {m n : Nat} (hg : ∀ i, g i < 2 ^ n) : ∀ k, pu_un g m k < 2 ^ n
  | 0 => Nat.two_pow_pos n
  | k + 1 => by
    unfold pu_un
    by_cases hk : m.testBit k = true
    · rw [if_pos hk]; exact Nat.or_lt_two_pow (pu_un_lt hg k) (hg k)
    · rw [if_neg hk]; exact pu_un_lt hg k
/-- closing a set under g, r rounds, over n sets -/
def pu_cl (g : Nat → Nat) (n : Nat) : Nat → Nat → Nat
  | 0, a => a
  | r + 1, a => if a ||| pu_un g a n = a then a else pu_cl g n r (a ||| pu_un g a n)
