/-! BOTH OBJECTS in one world -/
theorem XI.y {n k : Nat} {P C : Nat → Nat} {kn kk : Nat} {KP KC : Nat → Nat} {ak : Bool} {E : Nat → Nat → Nat} {hd hv : Nat} {w w1 : am_W} {D : List Nat} (h : XI n k P C kn kk KP KC ak E hd hv w) (f : am_fr D w w1) (hD : ∀ i, i ∈ D → 34 < i) : XI n k P C kn kk KP KC ak E hd hv w1 := by
  have nd : ∀ j, j < 35 → j ∉ D := fun j h1 q => by have := hD j q; omega
  exact ⟨f.at (nd _ (by decide)) h.1, h.2.1.at f (nd _ (by decide)) (nd _ (by decide)) (nd _ (by decide)), h.2.2.1.at f (nd _ (by decide)) (nd _ (by decide)) (nd _ (by decide)), h.2.2.2.1.at f (fun i q => by have := hD i q; omega), h.2.2.2.2.1.at f (nd _ (by decide)) (nd _ (by decide)) (nd _ (by decide)), h.2.2.2.2.2.1.at f (fun i q => by have := hD i q; omega), h.2.2.2.2.2.2.1.at f (nd _ (by decide)) (nd _ (by decide)), h.2.2.2.2.2.2.2.1.at f (nd _ (by decide)) (nd _ (by decide)), h.2.2.2.2.2.2.2.2.1.at f (nd _ (by decide)) (nd _ (by decide)), h.2.2.2.2.2.2.2.2.2.at f (nd _ (by decide)) (nd _ (by decide))⟩
theorem am_is.x {D : List Nat} {w w1 : am_W} {i : Nat} {s : Nat × Nat × Nat} (h : am_is i s w) (f : am_fr D w w1) (hi : i ∉ D) : am_is i s w1 := by
  unfold am_is at h ⊢
  rw [f.2 i hi]
  exact h
theorem YI.x {n k : Nat} {P : Nat → Nat} {H : Nat → Int32} {O : Nat → Nat} {ik : Bool} {kn : Nat} {KP : Nat → Nat} {ic : Bool} {fz sm : Nat} {w w1 : am_W} (h : YI n k P H O ik kn KP ic fz sm w) (f : am_fr DX w w1) : YI n k P H O ik kn KP ic fz sm w1 := by
  have nd : ∀ j, 35 ≤ j → j ∉ DX := fun j h1 q => by have := List.mem_range.mp q; omega
  obtain ⟨h1, h2, h3, h4, h5, s1, s2, s3, s4, s5, s6, s7, s8, s9, s10, s11, s12⟩ := h
  exact ⟨f.at (nd _ (by decide)) h1, f.at (nd _ (by decide)) h2, f.at (nd _ (by decide)) h3, f.at (nd _ (by decide)) h4, f.at (nd _ (by decide)) h5, s1.x f (nd _ (by decide)), s2.x f (nd _ (by decide)), s3.x f (nd _ (by decide)), s4.x f (nd _ (by decide)), s5.x f (nd _ (by decide)), s6.x f (nd _ (by decide)), s7.x f (nd _ (by decide)), s8.x f (nd _ (by decide)), s9.x f (nd _ (by decide)), s10.x f (nd _ (by decide)), s11.x f (nd _ (by decide)), s12.x f (nd _ (by decide))⟩
