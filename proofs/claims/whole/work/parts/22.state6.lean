/-! THE STATE (6) -/
theorem pu_of (x : Int32) : nI x.toBitVec.toNat = x := by
  apply Int32.toBitVec_inj.1
  show BitVec.ofNat 32 x.toBitVec.toNat = x.toBitVec
  simp
theorem pu_off_ (f : Nat → Int32) : (fun i => nI ((f i).toBitVec.toNat)) = f := by
  funext i
  exact pu_of (f i)
/-- whatever stands in kin's first graph, it is a graph's cells -/
theorem KS.g {w : am_W} (h : KS w) : ∃ n k P C, GI 21 22 23 n k P C w := by
  obtain ⟨-, ⟨y1, y2, e1⟩, ⟨f2, e2⟩, ⟨f3, e3⟩, -⟩ := h
  refine ⟨y1.toBitVec.toNat, y2.toBitVec.toNat, fun i => (f2 i).toBitVec.toNat, fun i => (f3 i).toBitVec.toNat, ?_, ?_, ?_⟩
  · rw [pu_of, pu_of]; exact e1
  · show w[22]? = some (.inl (0, 8, .inl (fun i => nI ((f2 i).toBitVec.toNat))))
    rw [pu_off_]; exact e2
  · show w[23]? = some (.inl (0, 8, .inl (fun i => nI ((f3 i).toBitVec.toNat))))
    rw [pu_off_]; exact e3
theorem KK.s {L : List (Nat × Nat)} {n k : Nat} {P C : Nat → Nat} {s : pu_S} {w : am_W} (h : KK L n k P C s w) : KS w := by
  obtain ⟨h0, ⟨f1, f2, h24, h25⟩, h21, h26⟩ := h
  exact ⟨⟨_, _, _, h0⟩, ⟨_, _, h21.1⟩, ⟨_, h21.2.1⟩, ⟨_, h21.2.2⟩, ⟨_, h24⟩, ⟨_, h25⟩, _, h26⟩
theorem pu_al_lt {C : Nat → Nat} {n : Nat} : ∀ {p : Nat}, ∀ q, q ∈ pu_al C n p → q.1 < p ∧ q.2 < n
  | 0, _, h => by cases h
  | p + 1, q, h => by
    have hr : ∀ {c : Nat}, ∀ q, q ∈ pu_row C p c → q.1 = p ∧ q.2 < c := by
      intro c
      induction c with
      | zero => intro q h; cases h
      | succ c ih =>
        intro q h
        unfold pu_row at h
        by_cases hb : (C p).testBit c = true
        · rw [if_pos hb] at h
          rcases List.mem_append.mp h with h | h
          · have := ih q h; omega
          · rw [List.mem_singleton.mp h]; exact ⟨rfl, Nat.lt_succ_self _⟩
        · rw [if_neg hb] at h
          have := ih q h; omega
    rcases List.mem_append.mp (show q ∈ pu_al C n p ++ pu_row C p n from h) with h | h
    · have := pu_al_lt q h; omega
    · have := hr q h; omega
theorem pu_al_q {C : Nat → Nat} {n : Nat} (hn : n ≤ 8) : ∀ (i : Nat) (q : Nat × Nat), (pu_al C n n)[i]? = some q → q.1 < 8 ∧ q.2 < 8 := fun i q h => by
  have := pu_al_lt q (List.mem_of_getElem? h)
  omega
theorem pu_or_lt10 {a b : Nat} (ha : a < 1024) (hb : b < 1024) : a ||| b < 1024 := Nat.or_lt_two_pow (n := 10) ha hb
theorem pu_one_tu {P C : Nat → Nat} {go : pu_S → pu_S} {p c : Nat} {s : pu_S} (hgo : ∀ s, s.2.2 < 1024 → (go s).2.2 < 1024) (h : s.2.2 < 1024) : (pu_one P C go p c s).2.2 < 1024 := by
  unfold pu_one
  by_cases e : pu_may P C s.1 p c = true
  · rw [if_pos e]; exact hgo (pu_on s p c) h
  · rw [if_neg e]; exact h
theorem pu_dr_tu {P C : Nat → Nat} {L : List (Nat × Nat)} (hl : L.length ≤ 10) : ∀ (k ts : Nat) (s : pu_S), ts < 1024 → s.2.2 < 1024 → (pu_dr P C L k ts s).2.2 < 1024
  | 0, _, _, ht, h => pu_or_lt10 h ht
  | k + 1, ts, s, ht, h => by
    unfold pu_dr
    cases e : L[L.length - (k + 1)]? with
    | none => exact h
    | some q =>
      have h1 := pu_one_tu (P := P) (C := C) (go := pu_dr P C L k ts) (p := q.1) (c := q.2) (fun s hs => pu_dr_tu hl k ts s ht hs) h
      show (if pu_st P C q.1 q.2 = 0 then _ else _ : pu_S).2.2 < 1024
      by_cases e2 : pu_st P C q.1 q.2 = 0
      · rw [if_pos e2]
        have hlt : L.length - (k + 1) < L.length := (List.getElem?_eq_some_iff.mp e).1
        have hp : 2 ^ (L.length - (k + 1)) < 2 ^ 10 := Nat.pow_lt_pow_right (by decide) (by omega)
        exact pu_one_tu (fun s hs => pu_dr_tu hl k _ s (pu_or_lt10 ht hp) hs) h1
      · rw [if_neg e2]; exact h1
/-- what kin finds in a graph -/
def pu_kin (P C : Nat → Nat) (n : Nat) : pu_S := pu_dr P C (pu_al C n n) (pu_al C n n).length 0 (fun _ => 0, 0, 0)
theorem pu_kin_tu {P C : Nat → Nat} {n : Nat} (h : (pu_al C n n).length ≤ 10) : (pu_kin P C n).2.2 < 1024 := pu_dr_tu h _ _ _ (by decide) (by decide)
theorem pu_hz {z : Int32} (h1 : ¬ z < -1) (h2 : z ≤ 1) : z = -1 ∨ z = 0 ∨ z = 1 := by
  have a1 : ¬ z.toInt < -1 := fun q => h1 (Int32.lt_iff_toInt_lt.mpr q)
  have a2 : z.toInt ≤ 1 := Int32.le_iff_toInt_le.mp h2
  rcases (show z.toInt = -1 ∨ z.toInt = 0 ∨ z.toInt = 1 by omega) with h | h | h
  · exact Or.inl (Int32.toInt_inj.mp (h.trans (by decide)))
  · exact Or.inr (Or.inl (Int32.toInt_inj.mp (h.trans (by decide))))
  · exact Or.inr (Or.inr (Int32.toInt_inj.mp (h.trans (by decide))))
