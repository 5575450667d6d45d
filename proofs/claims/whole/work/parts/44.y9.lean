/-! CONTRACTS of the reference (9) -/
set_option maxHeartbeats 4000000 in
set_option maxRecDepth 100000 in
theorem y_list_c {n k : Nat} {P : Nat → Nat} {H : Nat → Int32} {O : Nat → Nat} {ik : Bool} {kn : Nat} {KP : Nat → Nat} {ic : Bool} {fz sm : Nat} {w : am_W} (hY : YI n k P H O ik kn KP ic fz sm w) (hn : n ≤ 8) (hP : ∀ i, P i < 256) (hl : (pu_al P n n).length ≤ 10) {p : Nat} (hp : p < n) (hout : ∀ w1, YF [49, 50] w w1 → KLY (pu_al P n (p + 1)) w1 → am_Wp none m_Y_listArcs 1 0 0 54 [(0, .ref 35), (1, .int (nI (pu_al P n (p + 1)).length)), (2, .int (nI p))] [] w1 (fun v w2 => v = some (.int (nI (pu_al P n n).length)) ∧ YF [49, 50] w w2 ∧ KLY (pu_al P n n) w2)) : ∀ c, c ≤ n → ∀ w1, YF [49, 50] w w1 → KLY (pu_al P n p ++ pu_row P p c) w1 → am_Wp none m_Y_listArcs 1 0 0 14 [(0, .ref 35), (1, .int (nI (pu_al P n p ++ pu_row P p c).length)), (2, .int (nI p)), (3, .int (nI c))] [] w1 (fun v w2 => v = some (.int (nI (pu_al P n n).length)) ∧ YF [49, 50] w w2 ∧ KLY (pu_al P n n) w2) := by
  refine pu_up (P := fun c => ∀ w1, YF [49, 50] w w1 → KLY (pu_al P n p ++ pu_row P p c) w1 → am_Wp none m_Y_listArcs 1 0 0 14 [(0, .ref 35), (1, .int (nI (pu_al P n p ++ pu_row P p c).length)), (2, .int (nI p)), (3, .int (nI c))] [] w1 (fun v w2 => v = some (.int (nI (pu_al P n n).length)) ∧ YF [49, 50] w w2 ∧ KLY (pu_al P n n) w2)) ?_ ?_
  · intro w1 fr hK
    have hY1 := hY.s fr (by decide)
    refine wp_iload_n (q := 15) d_Y_listArcs_14 rfl rfl rfl ?_
    refine wp_aload_n (q := 16) d_Y_listArcs_15 rfl rfl rfl ?_
    refine wp_get (q := 19) (k := 0) d_Y_listArcs_16 rfl ok_Y (Nat.le_of_ble_eq_true rfl) fk_Y_63 hY1.1 rfl ?_
    refine wp_icmp_ge (q := 22) (tgt := 54) d_Y_listArcs_19 (by decide) rfl (fun _ => ?_) (fun c19 => absurd (nI_le (Nat.le_refl n) (by omega)) c19)
    refine wp_lo [(0, .ref 35), (1, .int (nI (pu_al P n (p + 1)).length)), (2, .int (nI p))] ⟨rfl, rfl, rfl, trivial⟩ ?_
    exact hout w1 fr hK
  · intro c hc ih w1 fr hK
    have hY1 := hY.s fr (by decide)
    have hst := Nat.le_trans (pu_stage (C := P) (p := p) (c := c + 1) hp (by omega)) hl
    obtain ⟨f1, f2, h50, h49⟩ := id hK
    refine wp_iload_n (q := 15) d_Y_listArcs_14 rfl rfl rfl ?_
    refine wp_aload_n (q := 16) d_Y_listArcs_15 rfl rfl rfl ?_
    refine wp_get (q := 19) (k := 0) d_Y_listArcs_16 rfl ok_Y (Nat.le_of_ble_eq_true rfl) fk_Y_63 hY1.1 rfl ?_
    refine wp_icmp_ge (q := 22) (tgt := 54) d_Y_listArcs_19 (by decide) rfl (fun c19 => absurd c19 (nI_ge hc (by omega))) (fun _ => ?_)
    refine wp_aload_n (q := 23) d_Y_listArcs_22 rfl rfl rfl ?_
    refine wp_iload_n (q := 24) d_Y_listArcs_23 rfl rfl rfl ?_
    refine wp_iload_n (q := 25) d_Y_listArcs_24 rfl rfl rfl ?_
    refine wp_cV2r (q := 28) d_Y_listArcs_25 rfl bd_Y_isArc lk_Y_92 im_Y_isArc se_Y_isArc rfl (Nat.le_of_ble_eq_true rfl) (Nat.le_of_ble_eq_true rfl) hY1.1 (Nat.le_of_ble_eq_true rfl) (y_isArc hY1 hP (by omega) (by omega)) ?_
    refine wp_if_eq (q := 31) (tgt := 48) d_Y_listArcs_28 (by decide) rfl (fun c28 => ?_) (fun c28 => ?_)
    · have hb : (P p).testBit c = false := pu_b0.mp c28
      have e : pu_row P p (c + 1) = pu_row P p c := by rw [pu_row, hb]; rfl
      refine wp_inc1 (q := 51) d_Y_listArcs_48 rfl rfl (nI_1 _) (Nat.le_of_ble_eq_true rfl) rfl ?_
      refine wp_goto (tgt := 14) d_Y_listArcs_51 (by decide) ?_
      rw [e] at ih
      exact ih w1 fr hK
    · have hb : (P p).testBit c = true := pu_b1 c28
      have e : pu_row P p (c + 1) = pu_row P p c ++ [(p, c)] := by rw [pu_row, hb]; rfl
      rw [e, ← List.append_assoc] at ih hst
      have hlt : (pu_al P n p ++ pu_row P p c).length < 10 := by rw [List.length_append] at hst; simp at hst ⊢; omega
      refine wp_aload_n (q := 32) d_Y_listArcs_31 rfl rfl rfl ?_
      refine wp_get (q := 35) (k := 20) d_Y_listArcs_32 rfl ok_Y (Nat.le_of_ble_eq_true rfl) fk_Y_51 hY1.1 rfl ?_
      refine wp_iload_n (q := 36) d_Y_listArcs_35 rfl rfl rfl ?_
      refine wp_iload_n (q := 37) d_Y_listArcs_36 rfl rfl rfl ?_
      refine wp_iastoreN (w' := w1.set 49 (.inl (0, 10, .inl (pu_l2 ((pu_al P n p ++ pu_row P p c) ++ [(p, c)]) f2)))) (q := 38) d_Y_listArcs_37 rfl h49 rfl hlt (by decide) (by rw [pu_l2_s (p := p)]) ?_
      have fr2 := fr.put (a := 49) (c := .inl (0, 10, .inl (pu_l2 ((pu_al P n p ++ pu_row P p c) ++ [(p, c)]) f2))) (by decide) h49 (by rfl)
      have hY2 := hY.s fr2 (by decide)
      refine wp_aload_n (q := 39) d_Y_listArcs_38 rfl rfl rfl ?_
      refine wp_get (q := 42) (k := 21) d_Y_listArcs_39 rfl ok_Y (Nat.le_of_ble_eq_true rfl) fk_Y_54 hY2.1 rfl ?_
      refine wp_iload_n (q := 43) d_Y_listArcs_42 rfl rfl rfl ?_
      refine wp_iload_n (q := 44) d_Y_listArcs_43 rfl rfl rfl ?_
      refine wp_iastoreN (w' := (w1.set 49 (.inl (0, 10, .inl (pu_l2 ((pu_al P n p ++ pu_row P p c) ++ [(p, c)]) f2)))).set 50 (.inl (0, 10, .inl (pu_l1 ((pu_al P n p ++ pu_row P p c) ++ [(p, c)]) f1)))) (q := 45) d_Y_listArcs_44 rfl (am_at_ne (by decide) h50) rfl hlt (by decide) (by rw [pu_l1_s (c := c)]) ?_
      refine wp_inc1 (q := 48) d_Y_listArcs_45 rfl rfl (nI_1 _) (Nat.le_of_ble_eq_true rfl) rfl ?_
      refine wp_inc1 (q := 51) d_Y_listArcs_48 rfl rfl (nI_1 _) (Nat.le_of_ble_eq_true rfl) rfl ?_
      refine wp_goto (tgt := 14) d_Y_listArcs_51 (by decide) ?_
      have h9 := ih _ (fr2.put (a := 50) (c := .inl (0, 10, .inl (pu_l1 ((pu_al P n p ++ pu_row P p c) ++ [(p, c)]) f1))) (by decide) (am_at_ne (by decide) h50) (by rfl)) ⟨f1, f2, am_at_eq (am_at_ne (by decide) h50), am_at_ne (by decide) (am_at_eq h49)⟩
      rw [List.length_append (as := pu_al P n p ++ pu_row P p c)] at h9
      exact h9
set_option maxHeartbeats 4000000 in
set_option maxRecDepth 100000 in
theorem y_list_p {n k : Nat} {P : Nat → Nat} {H : Nat → Int32} {O : Nat → Nat} {ik : Bool} {kn : Nat} {KP : Nat → Nat} {ic : Bool} {fz sm : Nat} {w : am_W} (hY : YI n k P H O ik kn KP ic fz sm w) (hn : n ≤ 8) (hP : ∀ i, P i < 256) (hl : (pu_al P n n).length ≤ 10) : ∀ p, p ≤ n → ∀ w1, YF [49, 50] w w1 → KLY (pu_al P n p) w1 → am_Wp none m_Y_listArcs 1 0 0 4 [(0, .ref 35), (1, .int (nI (pu_al P n p).length)), (2, .int (nI p))] [] w1 (fun v w2 => v = some (.int (nI (pu_al P n n).length)) ∧ YF [49, 50] w w2 ∧ KLY (pu_al P n n) w2) := by
  refine pu_up (P := fun p => ∀ w1, YF [49, 50] w w1 → KLY (pu_al P n p) w1 → am_Wp none m_Y_listArcs 1 0 0 4 [(0, .ref 35), (1, .int (nI (pu_al P n p).length)), (2, .int (nI p))] [] w1 (fun v w2 => v = some (.int (nI (pu_al P n n).length)) ∧ YF [49, 50] w w2 ∧ KLY (pu_al P n n) w2)) ?_ ?_
  · intro w1 fr hK
    have hY1 := hY.s fr (by decide)
    refine wp_iload_n (q := 5) d_Y_listArcs_4 rfl rfl rfl ?_
    refine wp_aload_n (q := 6) d_Y_listArcs_5 rfl rfl rfl ?_
    refine wp_get (q := 9) (k := 0) d_Y_listArcs_6 rfl ok_Y (Nat.le_of_ble_eq_true rfl) fk_Y_63 hY1.1 rfl ?_
    refine wp_icmp_ge (q := 12) (tgt := 60) d_Y_listArcs_9 (by decide) rfl (fun _ => ?_) (fun c9 => absurd (nI_le (Nat.le_refl n) (by omega)) c9)
    refine wp_iload_n (q := 61) d_Y_listArcs_60 rfl rfl rfl ?_
    exact wp_ireturn rfl d_Y_listArcs_61 ⟨rfl, fr, hK⟩
  · intro p hp ih w1 fr hK
    have hY1 := hY.s fr (by decide)
    refine wp_iload_n (q := 5) d_Y_listArcs_4 rfl rfl rfl ?_
    refine wp_aload_n (q := 6) d_Y_listArcs_5 rfl rfl rfl ?_
    refine wp_get (q := 9) (k := 0) d_Y_listArcs_6 rfl ok_Y (Nat.le_of_ble_eq_true rfl) fk_Y_63 hY1.1 rfl ?_
    refine wp_icmp_ge (q := 12) (tgt := 60) d_Y_listArcs_9 (by decide) rfl (fun c9 => absurd c9 (nI_ge hp (by omega))) (fun _ => ?_)
    refine wp_iconst (q := 13) (v := 0) d_Y_listArcs_12 rfl (by decide) ?_
    refine wp_istore_n (q := 14) d_Y_listArcs_13 rfl rfl (Nat.le_of_ble_eq_true rfl) rfl ?_
    have h9 := y_list_c hY hn hP hl hp ?_ 0 (Nat.zero_le _) w1 fr (by rw [show pu_row P p 0 = [] from rfl, List.append_nil]; exact hK)
    · rw [show pu_row P p 0 = [] from rfl, List.append_nil] at h9
      exact h9
    intro w2 fr2 hK2
    refine wp_inc1 (q := 57) d_Y_listArcs_54 rfl rfl (nI_1 _) (Nat.le_of_ble_eq_true rfl) rfl ?_
    refine wp_goto (tgt := 4) d_Y_listArcs_57 (by decide) ?_
    exact ih w2 fr2 hK2
set_option maxHeartbeats 4000000 in
set_option maxRecDepth 100000 in
theorem y_list {n k : Nat} {P : Nat → Nat} {H : Nat → Int32} {O : Nat → Nat} {ik : Bool} {kn : Nat} {KP : Nat → Nat} {ic : Bool} {fz sm : Nat} {w : am_W} (hY : YI n k P H O ik kn KP ic fz sm w) (hn : n ≤ 8) (hP : ∀ i, P i < 256) (hl : (pu_al P n n).length ≤ 10) : am_Wp none m_Y_listArcs 1 0 0 0 [(0, .ref 35)] [] w (fun v w2 => v = some (.int (nI (pu_al P n n).length)) ∧ YF [49, 50] w w2 ∧ KLY (pu_al P n n) w2) := by
  obtain ⟨f2, h49⟩ := hY.2.2.2.2.2.2.2.2.2.2.2.2.2.2.1.i
  obtain ⟨f1, h50⟩ := hY.2.2.2.2.2.2.2.2.2.2.2.2.2.2.2.1.i
  refine wp_iconst (q := 1) (v := 0) d_Y_listArcs_0 rfl (by decide) ?_
  refine wp_istore_n (q := 2) d_Y_listArcs_1 rfl rfl (Nat.le_of_ble_eq_true rfl) rfl ?_
  refine wp_iconst (q := 3) (v := 0) d_Y_listArcs_2 rfl (by decide) ?_
  refine wp_istore_n (q := 4) d_Y_listArcs_3 rfl rfl (Nat.le_of_ble_eq_true rfl) rfl ?_
  exact y_list_p hY hn hP hl 0 (Nat.zero_le _) w YF.rf ⟨f1, f2, h50, h49⟩
set_option maxHeartbeats 4000000 in
set_option maxRecDepth 100000 in
theorem y_ring_p {n k : Nat} {P : Nat → Nat} {H : Nat → Int32} {O : Nat → Nat} {ik : Bool} {kn : Nat} {KP : Nat → Nat} {ic : Bool} {fz sm : Nat} {w : am_W} (hY : YI n k P H O ik kn KP ic fz sm w) {T : Nat → Nat} (hn : n ≤ 8) (hT : ∀ i, T i < 2 ^ n) (h51 : w[51]? = some (am_ar 8 T)) {x : Nat} {z : Int32} {F : Option Value → am_W → Prop} (hout : am_Wp none m_Y_hasNoRing 0 0 0 57 [(0, .ref 35), (1, .int (nI (pu_ps T n x))), (2, .int z), (3, .int (nI n))] [] w F) : ∀ p, p ≤ n → am_Wp none m_Y_hasNoRing 0 0 0 20 [(0, .ref 35), (1, .int (nI (pu_ps T p x))), (2, .int z), (3, .int (nI p))] [] w F := by
  have hp2 := pu_p2e hn
  refine pu_up (P := fun p => am_Wp none m_Y_hasNoRing 0 0 0 20 [(0, .ref 35), (1, .int (nI (pu_ps T p x))), (2, .int z), (3, .int (nI p))] [] w F) ?_ ?_
  · show am_Wp _ _ _ _ _ _ _ _ _ _
    refine wp_iload_n (q := 21) d_Y_hasNoRing_20 rfl rfl rfl ?_
    refine wp_aload_n (q := 22) d_Y_hasNoRing_21 rfl rfl rfl ?_
    refine wp_get (q := 25) (k := 0) d_Y_hasNoRing_22 rfl ok_Y (Nat.le_of_ble_eq_true rfl) fk_Y_63 hY.1 rfl ?_
    refine wp_icmp_ge (q := 28) (tgt := 57) d_Y_hasNoRing_25 (by decide) rfl (fun _ => ?_) (fun c25 => absurd (nI_le (Nat.le_refl n) (by omega)) c25)
    exact hout
  · intro p hp ih
    have ih : am_Wp _ _ _ _ _ _ _ _ _ _ := ih
    show am_Wp _ _ _ _ _ _ _ _ _ _
    have hTp := hT p
    refine wp_iload_n (q := 21) d_Y_hasNoRing_20 rfl rfl rfl ?_
    refine wp_aload_n (q := 22) d_Y_hasNoRing_21 rfl rfl rfl ?_
    refine wp_get (q := 25) (k := 0) d_Y_hasNoRing_22 rfl ok_Y (Nat.le_of_ble_eq_true rfl) fk_Y_63 hY.1 rfl ?_
    refine wp_icmp_ge (q := 28) (tgt := 57) d_Y_hasNoRing_25 (by decide) rfl (fun c25 => absurd c25 (nI_ge hp (by omega))) (fun _ => ?_)
    refine wp_iload_n (q := 29) d_Y_hasNoRing_28 rfl rfl rfl ?_
    refine wp_aload_n (q := 30) d_Y_hasNoRing_29 rfl rfl rfl ?_
    refine wp_get (q := 33) (k := 22) d_Y_hasNoRing_30 rfl ok_Y (Nat.le_of_ble_eq_true rfl) fk_Y_57 hY.1 rfl ?_
    refine wp_iload_n (q := 34) d_Y_hasNoRing_33 rfl rfl rfl ?_
    refine wp_ialoadN (q := 35) d_Y_hasNoRing_34 rfl h51 rfl (by omega) (by decide) ?_
    refine wp_iload_n (q := 36) d_Y_hasNoRing_35 rfl rfl rfl ?_
    refine wp_iand (q := 37) d_Y_hasNoRing_36 rfl ?_
    rw [pu_and]
    refine wp_if_ne (q := 40) (tgt := 48) d_Y_hasNoRing_37 (by decide) rfl (fun c37 => ?_) (fun c37 => ?_)
    · refine wp_iconst (q := 49) (v := -1) d_Y_hasNoRing_48 rfl (by decide) ?_
      refine wp_iand (q := 50) d_Y_hasNoRing_49 rfl ?_
      rw [pu_andm1]
      refine wp_istore_n (q := 51) d_Y_hasNoRing_50 rfl rfl (Nat.le_of_ble_eq_true rfl) rfl ?_
      refine wp_inc1 (q := 54) d_Y_hasNoRing_51 rfl rfl (nI_1 _) (Nat.le_of_ble_eq_true rfl) rfl ?_
      refine wp_goto (tgt := 20) d_Y_hasNoRing_54 (by decide) ?_
      have e : pu_ps T (p + 1) x = pu_ps T p x := by rw [pu_ps, if_neg (fun h => c37 (by rw [h]; exact nI_0))]
      rw [e] at ih
      exact ih
    · have hz0 : T p &&& pu_ps T p x = 0 := pu_nI_inj (Nat.lt_of_le_of_lt Nat.and_le_left (by omega)) (by decide) (c37.trans nI_0.symm)
      refine wp_iconst (q := 41) (v := 1) d_Y_hasNoRing_40 rfl (by decide) ?_
      refine wp_iload_n (q := 42) d_Y_hasNoRing_41 rfl rfl rfl ?_
      refine wp_ishl (q := 43) d_Y_hasNoRing_42 rfl ?_
      rw [pu_bit p (by omega)]
      refine wp_iconst (q := 44) (v := -1) d_Y_hasNoRing_43 rfl (by decide) ?_
      refine wp_ixor (q := 45) d_Y_hasNoRing_44 rfl ?_
      refine wp_goto (tgt := 49) d_Y_hasNoRing_45 (by decide) ?_
      refine wp_iand (q := 50) d_Y_hasNoRing_49 rfl ?_
      rw [pu_not]
      refine wp_istore_n (q := 51) d_Y_hasNoRing_50 rfl rfl (Nat.le_of_ble_eq_true rfl) rfl ?_
      refine wp_inc1 (q := 54) d_Y_hasNoRing_51 rfl rfl (nI_1 _) (Nat.le_of_ble_eq_true rfl) rfl ?_
      refine wp_goto (tgt := 20) d_Y_hasNoRing_54 (by decide) ?_
      have e : pu_ps T (p + 1) x = pu_dif (pu_ps T p x) (2 ^ p) := by rw [pu_ps, if_pos hz0]
      rw [e] at ih
      exact ih
set_option maxHeartbeats 4000000 in
set_option maxRecDepth 100000 in
theorem y_ring_X {n k : Nat} {P : Nat → Nat} {H : Nat → Int32} {O : Nat → Nat} {ik : Bool} {kn : Nat} {KP : Nat → Nat} {ic : Bool} {fz sm : Nat} {w : am_W} (hY : YI n k P H O ik kn KP ic fz sm w) {T : Nat → Nat} (hn : n ≤ 8) (hT : ∀ i, T i < 2 ^ n) (h51 : w[51]? = some (am_ar 8 T)) {x : Nat} {z : Int32} (hx : x < 2 ^ n) (hR : RMV n T x) (hf : x = 0 ∨ pu_ps T n x = x) : am_Wp none m_Y_hasNoRing 0 0 0 60 [(0, .ref 35), (1, .int (nI x)), (2, .int z)] [] w (am_R (some (.int (pu_q (ACY n T)))) w) := by
  have hp2 := pu_p2e hn
  refine wp_iload_n (q := 61) d_Y_hasNoRing_60 rfl rfl rfl ?_
  refine wp_if_ne (q := 64) (tgt := 68) d_Y_hasNoRing_61 (by decide) rfl (fun c61 => ?_) (fun c61 => ?_)
  · have h0 : ¬ x = 0 := fun e => c61 (by rw [e]; exact nI_0)
    refine wp_iconst (q := 69) (v := 0) d_Y_hasNoRing_68 rfl (by decide) ?_
    exact wp_zreturn rfl rfl d_Y_hasNoRing_69 ⟨by rw [pu_q_f (pu_ring hx hn h0 (hf.resolve_left h0))], rfl⟩
  · have h0 : x = 0 := pu_nI_inj (by omega) (by decide) (c61.trans nI_0.symm)
    refine wp_iconst (q := 65) (v := 1) d_Y_hasNoRing_64 rfl (by decide) ?_
    refine wp_goto (tgt := 69) d_Y_hasNoRing_65 (by decide) ?_
    exact wp_zreturn rfl rfl d_Y_hasNoRing_69 ⟨by rw [pu_q_t (RMV.done (h0 ▸ hR))], rfl⟩
set_option maxHeartbeats 4000000 in
set_option maxRecDepth 100000 in
theorem y_ring_O {n k : Nat} {P : Nat → Nat} {H : Nat → Int32} {O : Nat → Nat} {ik : Bool} {kn : Nat} {KP : Nat → Nat} {ic : Bool} {fz sm : Nat} {w : am_W} (hY : YI n k P H O ik kn KP ic fz sm w) {T : Nat → Nat} (hn : n ≤ 8) (hT : ∀ i, T i < 2 ^ n) (h51 : w[51]? = some (am_ar 8 T)) : ∀ (b x : Nat) (z : Int32), x < b → x < 2 ^ n → RMV n T x → ¬ nI x = z → am_Wp none m_Y_hasNoRing 0 0 0 11 [(0, .ref 35), (1, .int (nI x)), (2, .int z)] [] w (am_R (some (.int (pu_q (ACY n T)))) w) := by
  have hp2 := pu_p2e hn
  intro b
  induction b with
  | zero => intro x z h; exact absurd h (Nat.not_lt_zero _)
  | succ b ih =>
    intro x z hb hx hR hz
    refine wp_iload_n (q := 12) d_Y_hasNoRing_11 rfl rfl rfl ?_
    refine wp_iload_n (q := 13) d_Y_hasNoRing_12 rfl rfl rfl ?_
    refine wp_icmp_eq (q := 16) (tgt := 60) d_Y_hasNoRing_13 (by decide) rfl (fun c13 => absurd c13 hz) (fun _ => ?_)
    refine wp_iload_n (q := 17) d_Y_hasNoRing_16 rfl rfl rfl ?_
    refine wp_istore_n (q := 18) d_Y_hasNoRing_17 rfl rfl (Nat.le_of_ble_eq_true rfl) rfl ?_
    refine wp_iconst (q := 19) (v := 0) d_Y_hasNoRing_18 rfl (by decide) ?_
    refine wp_istore_n (q := 20) d_Y_hasNoRing_19 rfl rfl (Nat.le_of_ble_eq_true rfl) rfl ?_
    refine y_ring_p hY hn hT h51 (x := x) ?_ 0 (Nat.zero_le _)
    refine wp_goto (tgt := 11) d_Y_hasNoRing_57 (by decide) ?_
    refine wp_lo [(0, .ref 35), (1, .int (nI (pu_ps T n x))), (2, .int (nI x))] ⟨rfl, rfl, rfl, trivial⟩ ?_
    have hle := pu_ps_le (T := T) (p := n) (x := x)
    have hR2 := hR.ps hn hT (by omega) (Nat.le_refl n)
    by_cases e : pu_ps T n x = x
    · rw [e]
      refine wp_iload_n (q := 12) d_Y_hasNoRing_11 rfl rfl rfl ?_
      refine wp_iload_n (q := 13) d_Y_hasNoRing_12 rfl rfl rfl ?_
      refine wp_icmp_eq (q := 16) (tgt := 60) d_Y_hasNoRing_13 (by decide) rfl (fun _ => ?_) (fun c13 => absurd rfl c13)
      exact y_ring_X hY hn hT h51 hx hR (Or.inr e)
    · exact ih (pu_ps T n x) (nI x) (by omega) (by omega) hR2 (fun h => e (pu_nI_inj (by omega) (by omega) h))
set_option maxHeartbeats 4000000 in
set_option maxRecDepth 100000 in
theorem y_ring {n k : Nat} {P : Nat → Nat} {H : Nat → Int32} {O : Nat → Nat} {ik : Bool} {kn : Nat} {KP : Nat → Nat} {ic : Bool} {fz sm : Nat} {w : am_W} (hY : YI n k P H O ik kn KP ic fz sm w) {T : Nat → Nat} (hn : n ≤ 8) (hT : ∀ i, T i < 2 ^ n) (h51 : w[51]? = some (am_ar 8 T)) : am_Wp none m_Y_hasNoRing 0 0 0 0 [(0, .ref 35)] [] w (am_R (some (.int (pu_q (ACY n T)))) w) := by
  have hp2 := pu_p2e hn
  have hp1 := pu_p1 n
  refine wp_iconst (q := 1) (v := 1) d_Y_hasNoRing_0 rfl (by decide) ?_
  refine wp_aload_n (q := 2) d_Y_hasNoRing_1 rfl rfl rfl ?_
  refine wp_get (q := 5) (k := 0) d_Y_hasNoRing_2 rfl ok_Y (Nat.le_of_ble_eq_true rfl) fk_Y_63 hY.1 rfl ?_
  refine wp_ishl (q := 6) d_Y_hasNoRing_5 rfl ?_
  rw [pu_bit n (by omega)]
  refine wp_iconst (q := 7) (v := 1) d_Y_hasNoRing_6 rfl (by decide) ?_
  refine wp_isub (q := 8) d_Y_hasNoRing_7 rfl ?_
  rw [pu_1, pk_sub hp1]
  refine wp_istore_n (q := 9) d_Y_hasNoRing_8 rfl rfl (Nat.le_of_ble_eq_true rfl) rfl ?_
  refine wp_iconst (q := 10) (v := 0) d_Y_hasNoRing_9 rfl (by decide) ?_
  refine wp_istore_n (q := 11) d_Y_hasNoRing_10 rfl rfl (Nat.le_of_ble_eq_true rfl) rfl ?_
  by_cases e : 2 ^ n - 1 = 0
  · rw [e]
    refine wp_iload_n (q := 12) d_Y_hasNoRing_11 rfl rfl rfl ?_
    refine wp_iload_n (q := 13) d_Y_hasNoRing_12 rfl rfl rfl ?_
    refine wp_icmp_eq (q := 16) (tgt := 60) d_Y_hasNoRing_13 (by decide) rfl (fun _ => ?_) (fun c13 => absurd nI_0 c13)
    exact y_ring_X hY hn hT h51 (Nat.two_pow_pos n) (e ▸ RMV.start) (Or.inl rfl)
  · exact y_ring_O hY hn hT h51 (2 ^ n) (2 ^ n - 1) 0 (by omega) (by omega) RMV.start (fun h => e (pu_nI_inj (by omega) (by decide) (h.trans nI_0.symm)))
