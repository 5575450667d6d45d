/-! THE REFERENCE'S STATE -/
/-- what a cell is like, but for its numbers -/
def am_shp (c : am_C) : Nat × Nat × Nat := match c with
  | .inl (t, n, .inl _) => (0, t, n)
  | .inl (t, n, .inr (.inl _)) => (1, t, n)
  | .inl (t, n, .inr (.inr _)) => (2, t, n)
  | .inr (c, fs) => (3, c, fs.length)
/-- only cells of D have changed, and all are of the kind that they were -/
def YF (D : List Nat) (w w1 : am_W) : Prop := am_fr D w w1 ∧ ∀ i : Nat, (w1[i]?).map am_shp = (w[i]?).map am_shp
theorem YF.rf {D : List Nat} {w : am_W} : YF D w w := ⟨am_fr.rf, fun _ => rfl⟩
theorem YF.put {D : List Nat} {w w1 : am_W} {a : Nat} {c c0 : am_C} (h : YF D w w1) (ha : a ∈ D) (hc : w1[a]? = some c0) (hs : am_shp c = am_shp c0) : YF D w (w1.set a c) := by
  refine ⟨h.1.put ha, fun i => ?_⟩
  rw [← h.2 i, List.getElem?_set]
  by_cases e : a = i
  · subst e
    rw [if_pos rfl, if_pos (am_ww_len hc), hc]
    exact congrArg some hs
  · rw [if_neg e]
theorem YF.tr {D : List Nat} {w w1 w2 : am_W} (h : YF D w w1) (g : YF D w1 w2) : YF D w w2 := ⟨h.1.tr g.1, fun i => (g.2 i).trans (h.2 i)⟩
theorem YF.up {D D' : List Nat} {w w1 : am_W} (h : YF D w w1) (g : ∀ i, i ∈ D → i ∈ D') : YF D' w w1 := ⟨h.1.up g, h.2⟩
theorem YF.at {D : List Nat} {w w1 : am_W} (h : YF D w w1) {i : Nat} (hi : i ∉ D) {c : am_C} (hc : w[i]? = some c) : w1[i]? = some c := h.1.at hi hc
def am_is (i : Nat) (s : Nat × Nat × Nat) (w : am_W) : Prop := (w[i]?).map am_shp = some s
theorem am_is.at {D : List Nat} {w w1 : am_W} {i : Nat} {s : Nat × Nat × Nat} (h : am_is i s w) (f : YF D w w1) : am_is i s w1 := (f.2 i).trans h
theorem am_is.i {i t n : Nat} {w : am_W} (h : am_is i (0, t, n) w) : ∃ f : Nat → Int32, w[i]? = some (.inl (t, n, .inl f)) := by
  unfold am_is at h
  cases hc : w[i]? with
  | none => rw [hc] at h; cases h
  | some c =>
    rw [hc] at h
    obtain ⟨t', n', f | f | f⟩ | ⟨c', fs⟩ := c
    · cases h; exact ⟨f, rfl⟩
    · cases h
    · cases h
    · cases h
theorem am_is.l {i t n : Nat} {w : am_W} (h : am_is i (1, t, n) w) : ∃ f : Nat → Int64, w[i]? = some (.inl (t, n, .inr (.inl f))) := by
  unfold am_is at h
  cases hc : w[i]? with
  | none => rw [hc] at h; cases h
  | some c =>
    rw [hc] at h
    obtain ⟨t', n', f | f | f⟩ | ⟨c', fs⟩ := c
    · cases h
    · cases h; exact ⟨f, rfl⟩
    · cases h
    · cases h
/-- the rows that a call may use as it likes -/
def YS (w : am_W) : Prop := am_is 40 (0, 0, 8) w ∧ am_is 41 (0, 0, 8) w ∧ am_is 42 (0, 0, 8) w ∧ am_is 43 (0, 0, 2) w ∧ am_is 44 (0, 0, 2) w ∧ am_is 45 (0, 0, 2) w ∧ am_is 46 (1, 1, 256) w ∧ am_is 47 (1, 1, 1024) w ∧ am_is 48 (0, 2, 16384) w ∧ am_is 49 (0, 0, 10) w ∧ am_is 50 (0, 0, 10) w ∧ am_is 51 (0, 0, 8) w
theorem YS.at {D : List Nat} {w w1 : am_W} (h : YS w) (f : YF D w w1) : YS w1 :=
  ⟨h.1.at f, h.2.1.at f, h.2.2.1.at f, h.2.2.2.1.at f, h.2.2.2.2.1.at f, h.2.2.2.2.2.1.at f, h.2.2.2.2.2.2.1.at f, h.2.2.2.2.2.2.2.1.at f, h.2.2.2.2.2.2.2.2.1.at f, h.2.2.2.2.2.2.2.2.2.1.at f, h.2.2.2.2.2.2.2.2.2.2.1.at f, h.2.2.2.2.2.2.2.2.2.2.2.at f⟩
abbrev yob (n k : Nat) (ik : Bool) (kn : Nat) (ic : Bool) (fz sm : Nat) : am_C := .inr (6, [.int (nI n), .int (nI k), .ref 36, .ref 37, .ref 38, .int (pu_b ik), .int (nI kn), .ref 39, .int (pu_b ic), .int (nI fz), .int (nI sm), .ref 40, .ref 41, .ref 42, .ref 43, .ref 44, .ref 45, .ref 46, .ref 47, .ref 48, .ref 49, .ref 50, .ref 51])
def YI (n k : Nat) (P : Nat → Nat) (H : Nat → Int32) (O : Nat → Nat) (ik : Bool) (kn : Nat) (KP : Nat → Nat) (ic : Bool) (fz sm : Nat) (w : am_W) : Prop :=
  w[35]? = some (yob n k ik kn ic fz sm) ∧ w[36]? = some (am_ar 8 P) ∧ w[37]? = some (.inl (0, 8, .inl H)) ∧ w[38]? = some (am_ar 1024 O) ∧ w[39]? = some (am_ar 8 KP) ∧ YS w
theorem YI.s {n k : Nat} {P : Nat → Nat} {H : Nat → Int32} {O : Nat → Nat} {ik : Bool} {kn : Nat} {KP : Nat → Nat} {ic : Bool} {fz sm : Nat} {D : List Nat} {w w1 : am_W} (h : YI n k P H O ik kn KP ic fz sm w) (f : YF D w w1) (hD : ∀ i, i ∈ D → i < 35 ∨ 39 < i) : YI n k P H O ik kn KP ic fz sm w1 := by
  have nd : ∀ j, 35 ≤ j → j ≤ 39 → j ∉ D := fun j h1 h2 q => by have := hD j q; omega
  exact ⟨f.at (nd _ (by decide) (by decide)) h.1, f.at (nd _ (by decide) (by decide)) h.2.1, f.at (nd _ (by decide) (by decide)) h.2.2.1, f.at (nd _ (by decide) (by decide)) h.2.2.2.1, f.at (nd _ (by decide) (by decide)) h.2.2.2.2.1, h.2.2.2.2.2.at f⟩
/-- the cells of the reference -/
def DY : List Nat := [35, 36, 37, 38, 39, 40, 41, 42, 43, 44, 45, 46, 47, 48, 49, 50, 51]
def YW (n k : Nat) (P : Nat → Nat) (H : Nat → Int32) (O : Nat → Nat) (kn : Nat) (KP : Nat → Nat) : Prop := n ≤ 8 ∧ k ≤ 10 ∧ (∀ i, P i < 256) ∧ (∀ i, O i ≤ 8) ∧ kn ≤ 8 ∧ (∀ i, KP i < 256) ∧ (∀ i, i < n → pu_pop 8 (P i) ≤ 7)
section YRules
variable {sc : am_S} {M : am_M} {d bc bs pc q : Nat} {ls : am_L} {st : List Value} {w : am_W} {F : Option Value → am_W → Prop}
theorem wp_zastoreN {a n j : Nat} {f : Nat → Int32} {i : Int32} {b : Bool} {w' : am_W} (hd : decode M.2.1 pc = .ok (.bastore, 1)) (hq : pc + 1 = q) (hc : w[a]? = some (.inl (2, n, .inl f))) (hi : i = nI j) (hj : j < n) (hn : n < 2 ^ 31) (hw : w.set a (.inl (2, n, .inl (upd f j (pu_b b)))) = w') (k : am_Wp sc M d bc bs q ls st w' F) : am_Wp sc M d bc bs pc ls (.int (pu_b b) :: .int i :: .ref a :: st) w F := by
  subst hq
  subst hw
  subst hi
  intro p l e R s m args below meth c Q tc D A C r H locs cells slots mc ms sl hS hl wl ws h1 h2 h3 h4 hE
  have hb : vp_nar .boolean (pu_b b) = pu_b b := by cases b <;> rfl
  refine va_zast C.1 C.2.1 C.2.2.2.2.2.2.2.1 hS.2.1 hS.2.2.1 hS.2.2.2.1 a 2 (am_cw_at hc) (am_tys2 tc) (vp_in_nI hj hn) hd (fun H1 locs1 hP hD hS1 => ?_)
  rw [hb, nI_clamp (Nat.lt_trans hj hn)] at hP hD
  exact k p l e R s m args below meth c Q tc D A C r H1 locs1 cells slots mc ms sl (am_Sm_set hS trivial hP hD hS1) hl (by rw [List.length_set]; exact wl) (by rw [List.length_set]; exact ws.2.2.2) h1 h2 h3 h4 (by rw [List.length_set]; exact hE)
theorem wp_zaloadN {a n j : Nat} {f : Nat → Int32} {i : Int32} (hd : decode M.2.1 pc = .ok (.baload, 1)) (hq : pc + 1 = q) (hc : w[a]? = some (.inl (2, n, .inl f))) (hi : i = nI j) (hj : j < n) (hn : n < 2 ^ 31) (k : am_Wp sc M d bc bs q ls (.int (f j) :: st) w F) : am_Wp sc M d bc bs pc ls (.int i :: .ref a :: st) w F := by
  subst hi
  refine wp_zaload hd hq hc (vp_in_nI hj hn) ?_
  rw [nI_clamp (Nat.lt_trans hj hn)]
  exact k
end YRules
theorem pu_1 : (1 : Int32) = nI 1 := rfl
theorem pu_h1 {b : Bool} : pu_b b = 1 ↔ b = true := by cases b <;> decide
theorem pu_pop10_le (m : Nat) : pu_pop 10 m ≤ 10 := pu_pop_le 10 m
