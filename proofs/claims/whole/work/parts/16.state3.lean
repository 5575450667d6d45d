/-! THE STATE (3): walks' ends, margins -/
theorem lg_cmp0 {x y : Int64} : lg_cmp x y = 0 ↔ x = y := by
  unfold lg_cmp
  by_cases h1 : y < x
  · rw [if_pos h1]
    constructor
    · intro h; exact absurd h (by decide)
    · intro h; rw [h] at h1; exact absurd h1 (by simp)
  · rw [if_neg h1]
    by_cases h2 : x = y
    · rw [if_pos h2]; exact ⟨fun _ => h2, fun _ => rfl⟩
    · rw [if_neg h2]
      constructor
      · intro h; exact absurd h (by decide)
      · intro h; exact absurd h h2
/-- the shortest open walk to b: k more arcs may be tried, j is the next number -/
def pu_sw (gi go : Nat → Nat) (g m b : Nat) : Nat → Nat → Nat → Nat → Nat → Nat → Int32
  | 0, _, _, _, _, _ => -1
  | k + 1, j, na, ng, sa, sg => if (na ||| ng).testBit b then nI j else pu_sw gi go g m b k (j + 1) (pu_na gi go g m na ng sa) (pu_ng gi go g m na ng sg) (sa ||| pu_na gi go g m na ng sa) (sg ||| pu_ng gi go g m na ng sg)
/-- all places that open walks reach -/
def pu_re (gi go : Nat → Nat) (g m : Nat) : Nat → Nat → Nat → Nat → Nat → Nat
  | 0, _, _, sa, sg => sa ||| sg
  | k + 1, na, ng, sa, sg => if na ||| ng = 0 then sa ||| sg else pu_re gi go g m k (pu_na gi go g m na ng sa) (pu_ng gi go g m na ng sg) (sa ||| pu_na gi go g m na ng sa) (sg ||| pu_ng gi go g m na ng sg)
theorem pu_na_lt {gi go : Nat → Nat} (h : ∀ i, go i < 256) (g m na ng sa : Nat) : pu_na gi go g m na ng sa < 256 := pu_dif_lt (pu_un_lt (n := 8) h 8)
theorem pu_ng_lt {gi go : Nat → Nat} (h : ∀ i, gi i < 256) (g m na ng sg : Nat) : pu_ng gi go g m na ng sg < 256 := pu_dif_lt (pu_un_lt (n := 8) h 8)
theorem pu_cl_lt {g : Nat → Nat} {n : Nat} (hg : ∀ i, g i < 256) : ∀ {r a : Nat}, a < 256 → pu_cl g n r a < 256
  | 0, _, h => h
  | r + 1, a, h => by
    unfold pu_cl
    by_cases e : a ||| pu_un g a n = a
    · rw [if_pos e]; exact h
    · rw [if_neg e]; exact pu_cl_lt hg (pu_or_lt h (pu_un_lt (n := 8) hg n))
theorem pu_and_lt {a b : Nat} (h : a < 256) : a &&& b < 256 := Nat.lt_of_le_of_lt Nat.and_le_left h
/-- a margin: its object a, its row b; the set s; the sums -/
def MI (a b s : Nat) (S : Nat → Nat) (w : am_W) : Prop := w[a]? = some (.inr (3, [.int (nI s), .ref b])) ∧ w[b]? = some (.inl (1, 256, .inr (.inl (fun j => lN (S j)))))
theorem MI.at {D : List Nat} {w w1 : am_W} {a b s : Nat} {S : Nat → Nat} (h : MI a b s S w) (f : am_fr D w w1) (ha : a ∉ D) (hb : b ∉ D) : MI a b s S w1 := ⟨f.at ha h.1, f.at hb h.2⟩
/-- .. whatever stands there -/
def MS (a b : Nat) (w : am_W) : Prop := (∃ s : Int32, w[a]? = some (.inr (3, [.int s, .ref b]))) ∧ ∃ f : Nat → Int64, w[b]? = some (.inl (1, 256, .inr (.inl f)))
theorem MS.at {D : List Nat} {w w1 : am_W} {a b : Nat} (h : MS a b w) (f : am_fr D w w1) (ha : a ∉ D) (hb : b ∉ D) : MS a b w1 := by
  obtain ⟨⟨s, e1⟩, g, e2⟩ := h
  exact ⟨⟨s, f.at ha e1⟩, g, f.at hb e2⟩
theorem MI.s {a b s : Nat} {S : Nat → Nat} {w : am_W} (h : MI a b s S w) : MS a b w := ⟨⟨_, h.1⟩, _, h.2⟩
/-- a sum grows -/
def pu_ad (S : Nat → Nat) (j x : Nat) : Nat → Nat := fun i => if i = j then S i + x else S i
theorem pu_ad_u {S : Nat → Nat} {j x : Nat} : vp_updL (fun i => lN (S i)) j (lN (S j) + lN x) = fun i => lN (pu_ad S j x i) := by
  funext i
  unfold vp_updL pu_ad
  by_cases h : i = j
  · subst h
    simp [lN_add]
  · simp [h]
