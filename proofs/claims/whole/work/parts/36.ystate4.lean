/-! THE REFERENCE'S STATE (4): layers of walks -/
def L2 (i a b : Nat) (w : am_W) : Prop := ∃ f : Nat → Int32, w[i]? = some (.inl (0, 2, .inl f)) ∧ f 0 = nI a ∧ f 1 = nI b
theorem L2.at {D : List Nat} {w w1 : am_W} {i a b : Nat} (h : L2 i a b w) (f : YF D w w1) (hi : i ∉ D) : L2 i a b w1 := by
  obtain ⟨g, h1, h2, h3⟩ := h
  exact ⟨g, f.at hi h1, h2, h3⟩
theorem L2.ne {w : am_W} {i a b j : Nat} {c : am_C} (h : L2 i a b w) (hi : ¬ j = i) : L2 i a b (w.set j c) := by
  obtain ⟨g, h1, h2, h3⟩ := h
  exact ⟨g, am_at_ne hi h1, h2, h3⟩
theorem CT.ne {w : am_W} {g : Nat → Nat} {j : Nat} {c : am_C} (h : CT g w) (h1 : ¬ j = 40) (h2 : ¬ j = 41) : CT g (w.set j c) := ⟨am_at_ne h1 h.1, am_at_ne h2 h.2⟩
theorem L2.w0 {w : am_W} {i a b x : Nat} {f : Nat → Int32} (h : w[i]? = some (.inl (0, 2, .inl f))) (h1 : f 1 = nI b) : L2 i x b (w.set i (.inl (0, 2, .inl (upd f 0 (nI x))))) := ⟨_, am_at_eq h, by simp [upd], by simp [upd, h1]⟩
theorem L2.w1 {w : am_W} {i a b x : Nat} {f : Nat → Int32} (h : w[i]? = some (.inl (0, 2, .inl f))) (h0 : f 0 = nI a) : L2 i a x (w.set i (.inl (0, 2, .inl (upd f 1 (nI x))))) := ⟨_, am_at_eq h, by simp [upd, h0], by simp [upd]⟩
theorem pu_un_n {g : Nat → Nat} {m n : Nat} (h : m < 2 ^ n) : ∀ k, pu_un g m (n + k) = pu_un g m n
  | 0 => rfl
  | k + 1 => by
    show (if m.testBit (n + k) then _ else pu_un g m (n + k)) = _
    rw [Nat.testBit_lt_two_pow (Nat.lt_of_lt_of_le h (Nat.pow_le_pow_right (by decide) (Nat.le_add_right n k)))]
    exact pu_un_n h k
theorem pu_un_8 {g : Nat → Nat} {m n : Nat} (hn : n ≤ 8) (h : m < 2 ^ n) : pu_un g m n = pu_un g m 8 := by
  have := pu_un_n (g := g) h (8 - n)
  rw [show n + (8 - n) = 8 by omega] at this
  exact this.symm
theorem pu_dif_0 {g : Nat} : pu_dif 0 g = 0 := by unfold pu_dif; exact Nat.zero_and _
theorem pu_un_0 {g : Nat → Nat} : ∀ n, pu_un g 0 n = 0
  | 0 => rfl
  | n + 1 => by
    unfold pu_un
    rw [Nat.zero_testBit]
    exact pu_un_0 n
theorem pu_na_0 {gi go : Nat → Nat} {g m sa : Nat} : pu_na gi go g m 0 0 sa = 0 := by
  unfold pu_na
  rw [pu_dif_0]
  show pu_dif (pu_un go 0 8) sa = 0
  rw [pu_un_0, pu_dif_0]
theorem pu_ng_0 {gi go : Nat → Nat} {g m sg : Nat} : pu_ng gi go g m 0 0 sg = 0 := by
  unfold pu_ng
  rw [pu_dif_0, Nat.zero_and]
  show pu_dif (pu_un gi 0 8) sg = 0
  rw [pu_un_0, pu_dif_0]
theorem pu_sw_0 {gi go : Nat → Nat} {g m b : Nat} : ∀ (k j sa sg : Nat), pu_sw gi go g m b k j 0 0 sa sg = -1
  | 0, _, _, _ => rfl
  | k + 1, j, sa, sg => by
    unfold pu_sw
    rw [pu_na_0, pu_ng_0, show ((0 : Nat) ||| 0) = 0 from rfl, Nat.zero_testBit]
    exact pu_sw_0 k (j + 1) _ _
/-- new ones make it more -/
theorem pu_pop_new {s x y : Nat} (hx : pu_dif x s < 256) (h : ¬ pu_dif x s = 0) (e : y = pu_dif x s) : pu_pop 8 s < pu_pop 8 (s ||| y) := by
  subst e
  refine Nat.lt_of_not_le (fun hp => h ?_)
  apply Nat.eq_of_testBit_eq
  intro i
  rw [Nat.zero_testBit]
  cases hi : (pu_dif x s).testBit i with
  | false => rfl
  | true =>
    have h8 := pu_bit_lt (n := 8) hx hi
    have := pu_pop_eq (a := s) (b := s ||| pu_dif x s) SU.orl 8 hp i h8 (by rw [Nat.testBit_or, hi, Bool.or_true])
    rw [pu_dif_bit (by omega), this] at hi
    simp at hi
theorem pu_dor_bit {a b s i : Nat} (hi : i < 32) : (pu_dif a s ||| pu_dif b s).testBit i = ((b.testBit i || a.testBit i) && !s.testBit i) := by
  rw [Nat.testBit_or, pu_dif_bit hi, pu_dif_bit hi]
  cases a.testBit i <;> cases b.testBit i <;> cases s.testBit i <;> rfl
theorem pu_dan_bit {a b s m i : Nat} (hi : i < 32) : (pu_dif a s ||| (b &&& m)).testBit i = ((a.testBit i && !s.testBit i) || (b.testBit i && m.testBit i)) := by
  rw [Nat.testBit_or, pu_dif_bit hi, Nat.testBit_and]
theorem pu_un_s {g : Nat → Nat} {m p : Nat} : pu_un g m (p + 1) = pu_un g m p ||| (if m.testBit p then g p else 0) := by
  show (if m.testBit p then _ else _) = _
  cases m.testBit p <;> simp
