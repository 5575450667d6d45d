/-! THE STATE (4): kin -/
/-- the arcs of one parent p to the first n places; of the first k places -/
def pu_row (C : Nat → Nat) (p : Nat) : Nat → List (Nat × Nat)
  | 0 => []
  | c + 1 => if (C p).testBit c then pu_row C p c ++ [(p, c)] else pu_row C p c
def pu_al (C : Nat → Nat) (n : Nat) : Nat → List (Nat × Nat)
  | 0 => []
  | p + 1 => pu_al C n p ++ pu_row C p n
theorem pu_row_le {C : Nat → Nat} {p : Nat} : ∀ {k c : Nat}, (pu_row C p c).length ≤ (pu_row C p (c + k)).length
  | 0, _ => Nat.le_refl _
  | k + 1, c => by
    refine Nat.le_trans (pu_row_le (k := k)) ?_
    show _ ≤ (pu_row C p (c + k + 1)).length
    rw [pu_row]
    by_cases h : (C p).testBit (c + k) = true
    · rw [if_pos h, List.length_append]; exact Nat.le_add_right _ _
    · rw [if_neg h]; exact Nat.le_refl _
theorem pu_al_le {C : Nat → Nat} {n : Nat} : ∀ {k p : Nat}, (pu_al C n p).length ≤ (pu_al C n (p + k)).length
  | 0, _ => Nat.le_refl _
  | k + 1, p => by
    refine Nat.le_trans (pu_al_le (k := k)) ?_
    show _ ≤ (pu_al C n (p + k) ++ pu_row C (p + k) n).length
    rw [List.length_append]; exact Nat.le_add_right _ _
theorem pu_stage {C : Nat → Nat} {n p c : Nat} (hp : p < n) (hc : c ≤ n) : (pu_al C n p ++ pu_row C p c).length ≤ (pu_al C n n).length := by
  have h1 : (pu_row C p c).length ≤ (pu_row C p n).length := by
    have := pu_row_le (C := C) (p := p) (k := n - c) (c := c)
    rw [show c + (n - c) = n by omega] at this
    exact this
  have h2 : (pu_al C n (p + 1)).length ≤ (pu_al C n n).length := by
    have := pu_al_le (C := C) (n := n) (k := n - (p + 1)) (p := p + 1)
    rw [show p + 1 + (n - (p + 1)) = n by omega] at this
    exact this
  have h3 : (pu_al C n (p + 1)).length = (pu_al C n p).length + (pu_row C p n).length := by
    show (pu_al C n p ++ pu_row C p n).length = _
    rw [List.length_append]
  rw [List.length_append]
  omega
/-- a row that holds the first (the second) halves of a list, and behind it what f says -/
def pu_l1 (L : List (Nat × Nat)) (f : Nat → Int32) : Nat → Int32 := fun j => match L[j]? with
  | some q => nI q.1
  | none => f j
def pu_l2 (L : List (Nat × Nat)) (f : Nat → Int32) : Nat → Int32 := fun j => match L[j]? with
  | some q => nI q.2
  | none => f j
theorem pu_l1_s {L : List (Nat × Nat)} {f : Nat → Int32} {p c : Nat} : upd (pu_l1 L f) L.length (nI p) = pu_l1 (L ++ [(p, c)]) f := by
  funext j
  unfold upd pu_l1
  rcases Nat.lt_trichotomy j L.length with h | h | h
  · rw [if_neg (by omega), List.getElem?_append_left h]
  · subst h
    rw [if_pos rfl, List.getElem?_append_right (Nat.le_refl _)]
    simp
  · rw [if_neg (by omega), List.getElem?_eq_none (by omega), List.getElem?_eq_none (by rw [List.length_append]; exact h)]
theorem pu_l2_s {L : List (Nat × Nat)} {f : Nat → Int32} {p c : Nat} : upd (pu_l2 L f) L.length (nI c) = pu_l2 (L ++ [(p, c)]) f := by
  funext j
  unfold upd pu_l2
  rcases Nat.lt_trichotomy j L.length with h | h | h
  · rw [if_neg (by omega), List.getElem?_append_left h]
  · subst h
    rw [if_pos rfl, List.getElem?_append_right (Nat.le_refl _)]
    simp
  · rw [if_neg (by omega), List.getElem?_eq_none (by omega), List.getElem?_eq_none (by rw [List.length_append]; exact h)]
theorem pu_l1_at {L : List (Nat × Nat)} {f : Nat → Int32} {j : Nat} {q : Nat × Nat} (h : L[j]? = some q) : pu_l1 L f j = nI q.1 := by unfold pu_l1; rw [h]
theorem pu_l2_at {L : List (Nat × Nat)} {f : Nat → Int32} {j : Nat} {q : Nat × Nat} (h : L[j]? = some q) : pu_l2 L f j = nI q.2 := by unfold pu_l2; rw [h]
/-- kin: the list L of arcs, the rows pa as directed so far, how many were found (fo), which were turned (tu) -/
def KO (ar fo tu : Nat) (w : am_W) : Prop := w[20]? = some (.inr (2, [.ref 21, .int (nI ar), .ref 24, .ref 25, .ref 26, .int (nI fo), .int (nI tu)]))
def KL (L : List (Nat × Nat)) (w : am_W) : Prop := ∃ f1 f2 : Nat → Int32, w[24]? = some (.inl (0, 10, .inl (pu_l1 L f1))) ∧ w[25]? = some (.inl (0, 10, .inl (pu_l2 L f2)))
theorem KL.at {D : List Nat} {w w1 : am_W} {L : List (Nat × Nat)} (h : KL L w) (f : am_fr D w w1) (h1 : 24 ∉ D) (h2 : 25 ∉ D) : KL L w1 := by
  obtain ⟨f1, f2, e1, e2⟩ := h
  exact ⟨f1, f2, f.at h1 e1, f.at h2 e2⟩
/-- .. whatever stands there -/
def KS (w : am_W) : Prop := (∃ x1 x2 x3 : Int32, w[20]? = some (.inr (2, [.ref 21, .int x1, .ref 24, .ref 25, .ref 26, .int x2, .int x3]))) ∧ (∃ y1 y2 : Int32, w[21]? = some (.inr (1, [.int y1, .int y2, .ref 22, .ref 23]))) ∧ (∃ f : Nat → Int32, w[22]? = some (.inl (0, 8, .inl f))) ∧ (∃ f : Nat → Int32, w[23]? = some (.inl (0, 8, .inl f))) ∧ (∃ f : Nat → Int32, w[24]? = some (.inl (0, 10, .inl f))) ∧ (∃ f : Nat → Int32, w[25]? = some (.inl (0, 10, .inl f))) ∧ ∃ f : Nat → Int32, w[26]? = some (.inl (0, 8, .inl f))
theorem KS.at {D : List Nat} {w w1 : am_W} (h : KS w) (f : am_fr D w w1) (hD : ∀ i, i ∈ D → i < 20 ∨ 26 < i) : KS w1 := by
  have nd : ∀ j, 20 ≤ j → j ≤ 26 → j ∉ D := fun j h1 h2 q => by have := hD j q; omega
  obtain ⟨⟨x1, x2, x3, e0⟩, ⟨y1, y2, e1⟩, ⟨f2, e2⟩, ⟨f3, e3⟩, ⟨f4, e4⟩, ⟨f5, e5⟩, f6, e6⟩ := h
  exact ⟨⟨x1, x2, x3, f.at (nd _ (by decide) (by decide)) e0⟩, ⟨y1, y2, f.at (nd _ (by decide) (by decide)) e1⟩, ⟨f2, f.at (nd _ (by decide) (by decide)) e2⟩, ⟨f3, f.at (nd _ (by decide) (by decide)) e3⟩, ⟨f4, f.at (nd _ (by decide) (by decide)) e4⟩, ⟨f5, f.at (nd _ (by decide) (by decide)) e5⟩, f6, f.at (nd _ (by decide) (by decide)) e6⟩
/-- whether the arc p, c was turned: the first such in L from i on -/
def pu_it (L : List (Nat × Nat)) (tu p c : Nat) : Nat → Nat → Bool
  | 0, _ => false
  | k + 1, i => if L[i]? = some (p, c) then tu.testBit i else pu_it L tu p c k (i + 1)
/-- whether an arc may be laid: no strangers but those of the first graph come together, and no ring -/
def pu_mf (P C : Nat → Nat) (pa : Nat → Nat) (p c : Nat) : Bool := decide (pu_dif (pu_dif (pa c) (P p ||| C p)) (pu_st P C p c) = 0)
def pu_may (P C : Nat → Nat) (pa : Nat → Nat) (p c : Nat) : Bool := pu_mf P C pa p c && !(pu_cl pa 8 8 (2 ^ p)).testBit c
abbrev pu_S : Type := (Nat → Nat) × Nat × Nat
/-- laying one arc, then what 'go' does, then taking it away -/
def pu_on (s : pu_S) (p c : Nat) : pu_S := (pu_set s.1 c (s.1 c ||| 2 ^ p), s.2.1, s.2.2)
def pu_off (s : pu_S) (p c : Nat) : pu_S := (pu_set s.1 c (pu_dif (s.1 c) (2 ^ p)), s.2.1, s.2.2)
def pu_one (P C : Nat → Nat) (go : pu_S → pu_S) (p c : Nat) (s : pu_S) : pu_S := if pu_may P C s.1 p c then pu_off (go (pu_on s p c)) p c else s
/-- all ways of the last k arcs of L -/
def pu_dr (P C : Nat → Nat) (L : List (Nat × Nat)) : Nat → Nat → pu_S → pu_S
  | 0, ts, s => (s.1, s.2.1 + 1, s.2.2 ||| ts)
  | k + 1, ts, s => match L[L.length - (k + 1)]? with
    | none => s
    | some q => if pu_st P C q.1 q.2 = 0 then pu_one P C (pu_dr P C L k (ts ||| 2 ^ (L.length - (k + 1)))) q.2 q.1 (pu_one P C (pu_dr P C L k ts) q.1 q.2 s) else pu_one P C (pu_dr P C L k ts) q.1 q.2 s
def pu_ok (s : pu_S) : Prop := ∀ i, s.1 i < 256
theorem pu_set_lt {g : Nat → Nat} {j x : Nat} (h : ∀ i, g i < 256) (hx : x < 256) : ∀ i, pu_set g j x i < 256 := by
  intro i
  unfold pu_set
  by_cases e : i = j
  · rw [if_pos e]; exact hx
  · rw [if_neg e]; exact h i
theorem pu_on_ok {s : pu_S} {p c : Nat} (h : pu_ok s) (hp : p < 8) : pu_ok (pu_on s p c) := pu_set_lt h (pu_or_lt (h c) (pu_p2 hp))
theorem pu_off_ok {s : pu_S} {p c : Nat} (h : pu_ok s) : pu_ok (pu_off s p c) := pu_set_lt h (pu_dif_lt (h c))
theorem pu_one_ok {P C : Nat → Nat} {go : pu_S → pu_S} {p c : Nat} {s : pu_S} (hp : p < 8) (hgo : ∀ s, pu_ok s → pu_ok (go s)) (h : pu_ok s) : pu_ok (pu_one P C go p c s) := by
  unfold pu_one
  by_cases e : pu_may P C s.1 p c = true
  · rw [if_pos e]; exact pu_off_ok (hgo _ (pu_on_ok h hp))
  · rw [if_neg e]; exact h
theorem pu_dr_ok {P C : Nat → Nat} {L : List (Nat × Nat)} (hL : ∀ (i : Nat) (q : Nat × Nat), L[i]? = some q → q.1 < 8 ∧ q.2 < 8) : ∀ (k ts : Nat) (s : pu_S), pu_ok s → pu_ok (pu_dr P C L k ts s)
  | 0, _, _, h => h
  | k + 1, ts, s, h => by
    unfold pu_dr
    cases e : L[L.length - (k + 1)]? with
    | none => exact h
    | some q =>
      have hq := hL _ _ e
      have h1 := pu_one_ok (P := P) (C := C) (go := pu_dr P C L k ts) (p := q.1) (c := q.2) hq.1 (fun s hs => pu_dr_ok hL k ts s hs) h
      show pu_ok (if pu_st P C q.1 q.2 = 0 then _ else _)
      by_cases e2 : pu_st P C q.1 q.2 = 0
      · rw [if_pos e2]; exact pu_one_ok hq.2 (fun s hs => pu_dr_ok hL k _ s hs) h1
      · rw [if_neg e2]; exact h1
/-- the cells of kin, with the state s -/
def KK (L : List (Nat × Nat)) (n k : Nat) (P C : Nat → Nat) (s : pu_S) (w : am_W) : Prop := KO L.length s.2.1 s.2.2 w ∧ KL L w ∧ GI 21 22 23 n k P C w ∧ w[26]? = some (am_ar 8 s.1)
