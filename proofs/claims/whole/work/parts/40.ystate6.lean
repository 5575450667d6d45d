/-! THE REFERENCE'S STATE (6): searches -/
def pu_every (ok : Nat → Bool) : Nat → Bool
  | 0 => true
  | p + 1 => pu_every ok p && ok p
theorem pu_every_f {ok : Nat → Bool} {p : Nat} (h : ok p = false) : ∀ k, pu_every ok (p + 1 + k) = false
  | 0 => by show (pu_every ok p && ok p) = false; rw [h, Bool.and_false]
  | k + 1 => by show (pu_every ok (p + 1 + k) && _) = false; rw [pu_every_f h k, Bool.false_and]
theorem pu_every_n {ok : Nat → Bool} {p n : Nat} (h : ok p = false) (hp : p < n) : pu_every ok n = false := by
  have := pu_every_f h (n - (p + 1))
  rw [show p + 1 + (n - (p + 1)) = n by omega] at this
  exact this
theorem pu_every_iff {ok : Nat → Bool} : ∀ {n : Nat}, pu_every ok n = true ↔ ∀ p, p < n → ok p = true
  | 0 => ⟨fun _ p h => absurd h (Nat.not_lt_zero _), fun _ => rfl⟩
  | n + 1 => by
    show (pu_every ok n && ok n) = true ↔ _
    rw [Bool.and_eq_true, pu_every_iff]
    constructor
    · rintro ⟨h1, h2⟩ p hp
      rcases (show p < n ∨ p = n by omega) with h | rfl
      · exact h1 p h
      · exact h2
    · intro h
      exact ⟨fun p hp => h p (by omega), h n (Nat.lt_succ_self _)⟩
/-- downward: the last that is no larger -/
def pu_bk (ok : Nat → Bool) (oth : Nat) : Nat → Nat → Nat
  | 0, best => best
  | s + 1, best => pu_bk ok oth s (if pu_dif s oth = 0 ∧ pu_pop 10 s ≤ pu_pop 10 best ∧ ok s = true then s else best)
def pu_oi (o : Option Nat) : Int32 := match o with
  | none => -1
  | some b => nI b
def pu_ol (o : Option Nat) (s : Nat) : Prop := match o with
  | none => True
  | some b => pu_pop 10 s ≤ pu_pop 10 b
noncomputable def pu_lk (ok : Nat → Bool) (oth : Nat) : Nat → Option Nat → Option Nat
  | 0, best => best
  | s + 1, best => pu_lk ok oth s (@ite _ (pu_dif s oth = 0 ∧ pu_ol best s ∧ ok s = true) (Classical.propDecidable _) (some s) best)
/-- which sets part a from b, whatever else -/
def pu_okb (g : Nat → Nat) (n i s : Nat) : Bool := pu_every (fun q => q == i || s.testBit q || pu_sp g n i q s) n
theorem pu_dn (s : Nat) : nI (s + 1) + (-1) = nI s := by
  have h : nI (s + 1) = nI s + 1 := (nI_1 s).symm
  rw [h, Int32.add_assoc, show (1 : Int32) + (-1) = 0 by decide, Int32.add_zero]
/-- what learn has written so far -/
def pu_lf (P : Nat → Nat) (n s a b : Nat) : Bool := !(s.testBit a || s.testBit b) && pu_sp P n a b s
def LE3 (s a b s' a' b' : Nat) : Prop := s' < s ∨ (s' = s ∧ (a' < a ∨ (a' = a ∧ b' < b)))
def LF (P : Nat → Nat) (n s a b : Nat) (f : Nat → Int32) : Prop := ∀ s' a' b', s' < 2 ^ n → a' < b' → b' < n → LE3 s a b s' a' b' → f (64 * s' + 8 * a' + b') = pu_b (pu_lf P n s' a' b')
theorem LF.put {P : Nat → Nat} {n s a b : Nat} {f : Nat → Int32} (h : LF P n s a b f) (hn : n ≤ 8) (ha : a < b) (hb : b < n) : LF P n s a (b + 1) (upd f (64 * s + 8 * a + b) (pu_b (pu_lf P n s a b))) := by
  intro s' a' b' h1 h2 h3 h4
  unfold upd
  by_cases e : 64 * s' + 8 * a' + b' = 64 * s + 8 * a + b
  · rw [if_pos e]
    have e1 : s' = s := by omega
    have e2 : a' = a := by omega
    have e3 : b' = b := by omega
    subst e1; subst e2; subst e3
    rfl
  · rw [if_neg e]
    refine h s' a' b' h1 h2 h3 ?_
    unfold LE3 at h4 ⊢
    rcases h4 with h | ⟨q1, h | ⟨q2, h⟩⟩
    · exact Or.inl h
    · exact Or.inr ⟨q1, Or.inl h⟩
    · refine Or.inr ⟨q1, Or.inr ⟨q2, ?_⟩⟩
      rcases (show b' < b ∨ b' = b by omega) with h | rfl
      · exact h
      · subst q1; subst q2; exact absurd rfl e
theorem LF.na {P : Nat → Nat} {n s a : Nat} {f : Nat → Int32} (h : LF P n s a n f) : LF P n s (a + 1) (a + 1 + 1) f := by
  intro s' a' b' h1 h2 h3 h4
  refine h s' a' b' h1 h2 h3 ?_
  unfold LE3 at h4 ⊢
  omega
theorem LF.ns {P : Nat → Nat} {n s b : Nat} {f : Nat → Int32} (h : LF P n s n b f) : LF P n (s + 1) 0 (0 + 1) f := by
  intro s' a' b' h1 h2 h3 h4
  refine h s' a' b' h1 h2 h3 ?_
  unfold LE3 at h4 ⊢
  omega
theorem LF.mono {P : Nat → Nat} {n s a b b1 : Nat} {f : Nat → Int32} (h : LF P n s a b f) (hb : b1 ≤ b) : LF P n s a b1 f := by
  intro s' a' b' h1 h2 h3 h4
  refine h s' a' b' h1 h2 h3 ?_
  unfold LE3 at h4 ⊢
  omega
/-- two graphs tell the same -/
def SAME (P g : Nat → Nat) (n : Nat) : Prop := ∀ s a b, s < 2 ^ n → a < b → b < n → s.testBit a = false → s.testBit b = false → pu_sp g n a b s = pu_sp P n a b s
theorem pu_sur {x : Int32} (h : ¬ x = 0) {b : Bool} (e : x = pu_b b) : b = true := by subst e; exact pu_b1 h
