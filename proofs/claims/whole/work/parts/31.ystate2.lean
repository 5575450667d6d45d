/-! THE REFERENCE'S STATE (2): one cell is written -/
section YSet
variable {n k : Nat} {P : Nat → Nat} {H : Nat → Int32} {O : Nat → Nat} {ik : Bool} {kn : Nat} {KP : Nat → Nat} {ic : Bool} {fz sm : Nat} {w : am_W}
theorem YI.set_ob {n1 k1 : Nat} {ik1 : Bool} {kn1 : Nat} {ic1 : Bool} {fz1 sm1 : Nat} (h : YI n k P H O ik kn KP ic fz sm w) : YF DY w (w.set 35 (yob n1 k1 ik1 kn1 ic1 fz1 sm1)) ∧ YI n1 k1 P H O ik1 kn1 KP ic1 fz1 sm1 (w.set 35 (yob n1 k1 ik1 kn1 ic1 fz1 sm1)) := by
  have f : YF DY w (w.set 35 (yob n1 k1 ik1 kn1 ic1 fz1 sm1)) := YF.rf.put (by decide) h.1 rfl
  exact ⟨f, am_at_eq h.1, am_at_ne (by decide) h.2.1, am_at_ne (by decide) h.2.2.1, am_at_ne (by decide) h.2.2.2.1, am_at_ne (by decide) h.2.2.2.2.1, h.2.2.2.2.2.at f⟩
theorem YI.set_p {P1 : Nat → Nat} (h : YI n k P H O ik kn KP ic fz sm w) : YF DY w (w.set 36 (am_ar 8 P1)) ∧ YI n k P1 H O ik kn KP ic fz sm (w.set 36 (am_ar 8 P1)) := by
  have f : YF DY w (w.set 36 (am_ar 8 P1)) := YF.rf.put (by decide) h.2.1 rfl
  exact ⟨f, am_at_ne (by decide) h.1, am_at_eq h.2.1, am_at_ne (by decide) h.2.2.1, am_at_ne (by decide) h.2.2.2.1, am_at_ne (by decide) h.2.2.2.2.1, h.2.2.2.2.2.at f⟩
theorem YI.set_h {H1 : Nat → Int32} (h : YI n k P H O ik kn KP ic fz sm w) : YF DY w (w.set 37 (.inl (0, 8, .inl H1))) ∧ YI n k P H1 O ik kn KP ic fz sm (w.set 37 (.inl (0, 8, .inl H1))) := by
  have f : YF DY w (w.set 37 (.inl (0, 8, .inl H1))) := YF.rf.put (by decide) h.2.2.1 rfl
  exact ⟨f, am_at_ne (by decide) h.1, am_at_ne (by decide) h.2.1, am_at_eq h.2.2.1, am_at_ne (by decide) h.2.2.2.1, am_at_ne (by decide) h.2.2.2.2.1, h.2.2.2.2.2.at f⟩
theorem YI.set_od {O1 : Nat → Nat} (h : YI n k P H O ik kn KP ic fz sm w) : YF DY w (w.set 38 (am_ar 1024 O1)) ∧ YI n k P H O1 ik kn KP ic fz sm (w.set 38 (am_ar 1024 O1)) := by
  have f : YF DY w (w.set 38 (am_ar 1024 O1)) := YF.rf.put (by decide) h.2.2.2.1 rfl
  exact ⟨f, am_at_ne (by decide) h.1, am_at_ne (by decide) h.2.1, am_at_ne (by decide) h.2.2.1, am_at_eq h.2.2.2.1, am_at_ne (by decide) h.2.2.2.2.1, h.2.2.2.2.2.at f⟩
theorem YI.set_kp {KP1 : Nat → Nat} (h : YI n k P H O ik kn KP ic fz sm w) : YF DY w (w.set 39 (am_ar 8 KP1)) ∧ YI n k P H O ik kn KP1 ic fz sm (w.set 39 (am_ar 8 KP1)) := by
  have f : YF DY w (w.set 39 (am_ar 8 KP1)) := YF.rf.put (by decide) h.2.2.2.2.1 rfl
  exact ⟨f, am_at_ne (by decide) h.1, am_at_ne (by decide) h.2.1, am_at_ne (by decide) h.2.2.1, am_at_ne (by decide) h.2.2.2.1, am_at_eq h.2.2.2.2.1, h.2.2.2.2.2.at f⟩
end YSet
/-- the first i held places are free -/
def pu_hz0 (H : Nat → Int32) (i : Nat) : Nat → Int32 := pu_fl H (-1) i
