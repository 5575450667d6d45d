/-! CLOSED SETS: pu_cl is the least set that holds s and is closed under g -/
/-- every place of a is in b -/
def SU (a b : Nat) : Prop := ∀ i, a.testBit i = true → b.testBit i = true
theorem SU.rf {a : Nat} : SU a a := fun _ h => h
theorem SU.tr {a b c : Nat} (h : SU a b) (g : SU b c) : SU a c := fun i hi => g i (h i hi)
theorem SU.an {a b : Nat} (h : SU a b) (g : SU b a) : a = b := Nat.eq_of_testBit_eq (fun i => by
  cases ha : a.testBit i with
  | true => rw [h i ha]
  | false =>
    cases hb : b.testBit i with
    | true => rw [g i hb] at ha; cases ha
    | false => rfl)
theorem SU.orl {a b : Nat} : SU a (a ||| b) := fun i h => by rw [Nat.testBit_or, h]; rfl
theorem SU.orr {a b : Nat} : SU b (a ||| b) := fun i h => by rw [Nat.testBit_or, h, Bool.or_true]
theorem SU.or {a b c : Nat} (h : SU a c) (g : SU b c) : SU (a ||| b) c := fun i hi => by
  rw [Nat.testBit_or, Bool.or_eq_true] at hi
  exact hi.elim (h i) (g i)
theorem SU.or_eq {a b : Nat} (h : SU b a) : a ||| b = a := SU.an (SU.or SU.rf h) SU.orl
theorem SU.of_or {a b : Nat} (h : a ||| b = a) : SU b a := fun i hi => by rw [← h, Nat.testBit_or, hi, Bool.or_true]
theorem pu_bit_lt {a n i : Nat} (ha : a < 2 ^ n) (h : a.testBit i = true) : i < n := Nat.lt_of_not_le (fun hn => by
  rw [Nat.testBit_lt_two_pow (Nat.lt_of_lt_of_le ha (Nat.pow_le_pow_right (by decide) hn))] at h
  cases h)
/-- closed under g -/
def CD (g : Nat → Nat) (r : Nat) : Prop := ∀ i, r.testBit i = true → SU (g i) r
/-- the least closed set that holds s -/
def CLO (g : Nat → Nat) (s r : Nat) : Prop := SU s r ∧ CD g r ∧ ∀ x, SU s x → CD g x → SU r x
theorem CLO.uq {g : Nat → Nat} {s r x : Nat} (h : CLO g s r) (k : CLO g s x) : r = x := SU.an (h.2.2 x k.1 k.2.1) (k.2.2 r h.1 h.2.1)
theorem pu_un_su {g : Nat → Nat} {a x n : Nat} (h : SU a x) (hx : CD g x) : SU (pu_un g a n) x := fun j hj => by
  obtain ⟨i, -, h1, h2⟩ := pu_un_bit.mp hj
  exact hx i (h i h1) j h2
theorem pu_cl_su {g : Nat → Nat} {n : Nat} : ∀ {r a : Nat}, SU a (pu_cl g n r a)
  | 0, _ => SU.rf
  | r + 1, a => by
    unfold pu_cl
    by_cases e : a ||| pu_un g a n = a
    · rw [if_pos e]; exact SU.rf
    · rw [if_neg e]; exact SU.orl.tr pu_cl_su
theorem pu_cl_le {g : Nat → Nat} {n x : Nat} (hx : CD g x) : ∀ {r a : Nat}, SU a x → SU (pu_cl g n r a) x
  | 0, _, h => h
  | r + 1, a, h => by
    unfold pu_cl
    by_cases e : a ||| pu_un g a n = a
    · rw [if_pos e]; exact h
    · rw [if_neg e]; exact pu_cl_le hx (SU.or h (pu_un_su h hx))
theorem pu_pop_mono {a b : Nat} (h : SU a b) : ∀ n, pu_pop n a ≤ pu_pop n b
  | 0 => Nat.le_refl _
  | n + 1 => by
    unfold pu_pop
    have := pu_pop_mono h n
    by_cases ha : a.testBit n = true
    · rw [if_pos ha, if_pos (h n ha)]; omega
    · rw [if_neg ha]; omega
theorem pu_pop_eq {a b : Nat} (h : SU a b) : ∀ n, pu_pop n b ≤ pu_pop n a → ∀ i, i < n → b.testBit i = true → a.testBit i = true
  | 0, _, i, hi, _ => absurd hi (Nat.not_lt_zero _)
  | n + 1, hp, i, hi, hb => by
    unfold pu_pop at hp
    have hm := pu_pop_mono h n
    by_cases ha : a.testBit n = true
    · rw [if_pos ha, if_pos (h n ha)] at hp
      rcases (show i < n ∨ i = n by omega) with hi | rfl
      · exact pu_pop_eq h n (by omega) i hi hb
      · exact ha
    · rw [if_neg ha] at hp
      by_cases hbn : b.testBit n = true
      · rw [if_pos hbn] at hp; omega
      · rw [if_neg hbn] at hp
        rcases (show i < n ∨ i = n by omega) with hi | rfl
        · exact pu_pop_eq h n (by omega) i hi hb
        · exact absurd hb hbn
/-- r rounds: closed, or r places more -/
theorem pu_cl_grow {g : Nat → Nat} (hg : ∀ i, g i < 256) : ∀ {r a : Nat}, a < 256 → (pu_un g (pu_cl g 8 r a) 8 ||| pu_cl g 8 r a = pu_cl g 8 r a) ∨ pu_pop 8 a + r ≤ pu_pop 8 (pu_cl g 8 r a)
  | 0, _, _ => Or.inr (Nat.le_refl _)
  | r + 1, a, ha => by
    unfold pu_cl
    by_cases e : a ||| pu_un g a 8 = a
    · rw [if_pos e]; rw [Nat.or_comm]; exact Or.inl e
    · rw [if_neg e]
      have hlt : a ||| pu_un g a 8 < 256 := pu_or_lt ha (pu_un_lt (n := 8) hg 8)
      rcases pu_cl_grow hg (r := r) hlt with h | h
      · exact Or.inl h
      · refine Or.inr ?_
        have h2 : pu_pop 8 a < pu_pop 8 (a ||| pu_un g a 8) := Nat.lt_of_not_le (fun hp => e (SU.an (fun i hi => pu_pop_eq SU.orl 8 hp i (pu_bit_lt (n := 8) hlt hi) hi) SU.orl))
        omega
theorem pu_pop_pos {a i : Nat} (h : a.testBit i = true) : ∀ n, i < n → 0 < pu_pop n a
  | n + 1, hi => by
    unfold pu_pop
    rcases (show i < n ∨ i = n by omega) with hi | rfl
    · have := pu_pop_pos h n hi; omega
    · rw [if_pos h]; omega
theorem pu_cl_clo {g : Nat → Nat} (hg : ∀ i, g i < 256) {s : Nat} (hs : s < 256) : CLO g s (pu_cl g 8 8 s) := by
  have hlt : pu_cl g 8 8 s < 256 := pu_cl_lt hg hs
  refine ⟨pu_cl_su, ?_, fun x h1 h2 => pu_cl_le h2 h1⟩
  have hc : pu_un g (pu_cl g 8 8 s) 8 ||| pu_cl g 8 8 s = pu_cl g 8 8 s := by
    rcases pu_cl_grow hg (r := 8) hs with h | h
    · exact h
    · by_cases h0 : s = 0
      · subst h0
        have e : ∀ n, pu_un g 0 n = 0 := fun n => Nat.eq_of_testBit_eq (fun j => by
          rw [Nat.zero_testBit]
          cases hj : (pu_un g 0 n).testBit j with
          | false => rfl
          | true =>
            obtain ⟨i, -, h1, -⟩ := pu_un_bit.mp hj
            rw [Nat.zero_testBit] at h1
            cases h1)
        have e2 : pu_cl g 8 8 0 = 0 := by
          show (if 0 ||| pu_un g 0 8 = 0 then 0 else _) = 0
          rw [e 8]; rfl
        rw [e2, e 8]; rfl
      · obtain ⟨i, hi⟩ := Nat.exists_testBit_of_ne_zero h0
        have h1 := pu_pop_pos hi 8 (pu_bit_lt (n := 8) hs hi)
        have h2 := pu_pop_le 8 (pu_cl g 8 8 s)
        omega
  intro i hi j hj
  rw [← hc, Nat.testBit_or, pu_un_bit.mpr ⟨i, pu_bit_lt (n := 8) hlt hi, hi, hj⟩]
  rfl
/-! the reference's way: passes over the places in their order -/
def pu_in (g : Nat → Nat) : Nat → Nat → Nat → Nat
  | 0, _, a => a
  | k + 1, p, a => if a / 2 ^ p = 0 then a else pu_in g k (p + 1) (if a.testBit p then a ||| g p else a)
theorem pu_in_su {g : Nat → Nat} : ∀ {k p a : Nat}, SU a (pu_in g k p a)
  | 0, _, _ => SU.rf
  | k + 1, p, a => by
    unfold pu_in
    by_cases e : a / 2 ^ p = 0
    · rw [if_pos e]; exact SU.rf
    · rw [if_neg e]
      refine SU.tr ?_ pu_in_su
      by_cases h : a.testBit p = true
      · rw [if_pos h]; exact SU.orl
      · rw [if_neg h]; exact SU.rf
theorem pu_in_le {g : Nat → Nat} {x : Nat} (hx : CD g x) : ∀ {k p a : Nat}, SU a x → SU (pu_in g k p a) x
  | 0, _, _, h => h
  | k + 1, p, a, h => by
    unfold pu_in
    by_cases e : a / 2 ^ p = 0
    · rw [if_pos e]; exact h
    · rw [if_neg e]
      refine pu_in_le hx ?_
      by_cases hb : a.testBit p = true
      · rw [if_pos hb]; exact SU.or h (hx p (h p hb))
      · rw [if_neg hb]; exact h
theorem pu_shr0 {a p i : Nat} (h : a / 2 ^ p = 0) (hp : p ≤ i) : a.testBit i = false := by
  have h1 : a < 2 ^ p := by
    rcases Nat.div_eq_zero_iff.mp h with h | h
    · exact absurd h (Nat.ne_of_gt (Nat.two_pow_pos p))
    · exact h
  exact Nat.testBit_lt_two_pow (Nat.lt_of_lt_of_le h1 (Nat.pow_le_pow_right (by decide) hp))
theorem pu_in_fix {g : Nat → Nat} : ∀ {k p a : Nat}, pu_in g k p a = a → ∀ i, p ≤ i → i < p + k → a.testBit i = true → SU (g i) a
  | 0, p, _, _, i, h1, h2, _ => absurd h2 (by omega)
  | k + 1, p, a, e, i, h1, h2, hi => by
    unfold pu_in at e
    by_cases e0 : a / 2 ^ p = 0
    · rw [pu_shr0 e0 h1] at hi; cases hi
    · rw [if_neg e0] at e
      by_cases hb : a.testBit p = true
      · rw [if_pos hb] at e
        have hs : SU (a ||| g p) a := fun j hj => by
          have := (pu_in_su (g := g) (k := k) (p := p + 1) (a := a ||| g p)) j hj
          rwa [e] at this
        have e2 : a ||| g p = a := SU.an hs SU.orl
        rcases (show i = p ∨ p + 1 ≤ i by omega) with rfl | h
        · exact SU.of_or e2
        · rw [e2] at e; exact pu_in_fix e i h (by omega) hi
      · rw [if_neg hb] at e
        rcases (show i = p ∨ p + 1 ≤ i by omega) with rfl | h
        · exact absurd hi hb
        · exact pu_in_fix e i h (by omega) hi
theorem pu_in_lt {g : Nat → Nat} (hg : ∀ i, g i < 256) : ∀ {k p a : Nat}, a < 256 → pu_in g k p a < 256
  | 0, _, _, h => h
  | k + 1, p, a, h => by
    unfold pu_in
    by_cases e : a / 2 ^ p = 0
    · rw [if_pos e]; exact h
    · rw [if_neg e]
      refine pu_in_lt hg ?_
      by_cases hb : a.testBit p = true
      · rw [if_pos hb]; exact pu_or_lt h (hg p)
      · rw [if_neg hb]; exact h
theorem SU.le {a b : Nat} (h : SU a b) : a ≤ b := by
  have e : b = a ||| b := (SU.or_eq (a := b) (b := a) h).symm.trans (Nat.or_comm b a)
  rw [e]; exact Nat.left_le_or
theorem pu_kn : ∀ r, r < 1024 → 0 < r → pu_pop 10 (r &&& (r - 1)) + 1 = pu_pop 10 r ∧ r &&& (r - 1) < r := by decide +kernel
