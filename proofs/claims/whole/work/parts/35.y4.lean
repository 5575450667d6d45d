/-! CONTRACTS of the reference (4) -/
theorem pu_yc_ltn {n : Nat} {P : Nat → Nat} {H : Nat → Int32} (h : ∀ i, P i < 2 ^ n) (p : Nat) : pu_yc n P H p < 2 ^ n := by
  unfold pu_yc
  by_cases e : p < n ∧ H p = -1
  · rw [if_pos e]; exact h p
  · rw [if_neg e]; exact Nat.two_pow_pos n
theorem pu_dif_ltn {n a b : Nat} (h : a < 2 ^ n) : pu_dif a b < 2 ^ n := Nat.lt_of_le_of_lt (pu_dif_le a b) h
set_option maxHeartbeats 4000000 in
set_option maxRecDepth 100000 in
theorem y_keep_L {n k : Nat} {P : Nat → Nat} {H : Nat → Int32} {O : Nat → Nat} {ik : Bool} {kn : Nat} {KP : Nat → Nat} {ic : Bool} {fz sm : Nat} {w : am_W} (hY : YI n k P H O ik kn KP ic fz sm w) : ∀ i, i ≤ 8 → ∀ w1, YF DY w w1 → YI n k P H O true n (pu_hf P KP i) ic fz sm w1 → am_Wp none m_Y_keep 0 0 0 15 [(0, .ref 35), (1, .int (nI i))] [] w1 (fun v w1 => v = some (.int (nI k)) ∧ YF DY w w1 ∧ YI n k P H O true n P ic fz sm w1) := by
  refine pu_up (P := fun i => ∀ w1, YF DY w w1 → YI n k P H O true n (pu_hf P KP i) ic fz sm w1 → am_Wp none m_Y_keep 0 0 0 15 [(0, .ref 35), (1, .int (nI i))] [] w1 (fun v w1 => v = some (.int (nI k)) ∧ YF DY w w1 ∧ YI n k P H O true n P ic fz sm w1)) ?_ ?_
  · intro w1 fr hY1
    refine wp_iload_n (q := 16) d_Y_keep_15 rfl rfl rfl ?_
    refine wp_bipush (q := 18) (v := 8) d_Y_keep_16 rfl (by decide) ?_
    refine wp_icmp_ge (q := 21) (tgt := 39) d_Y_keep_18 (by decide) rfl (fun _ => ?_) (fun c18 => absurd (by decide) c18)
    refine wp_chg (g := fun i => nI (P i)) hY1.2.2.2.2.1 (fun j hj => by show nI _ = nI _; rw [pu_hf, if_pos hj]) rfl ?_
    obtain ⟨f2, hY2⟩ := hY1.set_kp (KP1 := P)
    refine wp_aload_n (q := 40) d_Y_keep_39 rfl rfl rfl ?_
    refine wp_get (q := 43) (k := 1) d_Y_keep_40 rfl ok_Y (Nat.le_of_ble_eq_true rfl) fk_Y_67 hY2.1 rfl ?_
    exact wp_ireturn rfl d_Y_keep_43 ⟨rfl, fr.tr f2, hY2⟩
  · intro i hi ih w1 fr hY1
    refine wp_iload_n (q := 16) d_Y_keep_15 rfl rfl rfl ?_
    refine wp_bipush (q := 18) (v := 8) d_Y_keep_16 rfl (by decide) ?_
    refine wp_icmp_ge (q := 21) (tgt := 39) d_Y_keep_18 (by decide) rfl (fun c18 => absurd c18 (by rw [show (8 : Int32) = nI 8 from rfl]; exact nI_ge hi (by decide))) (fun _ => ?_)
    refine wp_aload_n (q := 22) d_Y_keep_21 rfl rfl rfl ?_
    refine wp_get (q := 25) (k := 7) d_Y_keep_22 rfl ok_Y (Nat.le_of_ble_eq_true rfl) fk_Y_19 hY1.1 rfl ?_
    refine wp_iload_n (q := 26) d_Y_keep_25 rfl rfl rfl ?_
    refine wp_aload_n (q := 27) d_Y_keep_26 rfl rfl rfl ?_
    refine wp_get (q := 30) (k := 2) d_Y_keep_27 rfl ok_Y (Nat.le_of_ble_eq_true rfl) fk_Y_7 hY1.1 rfl ?_
    refine wp_iload_n (q := 31) d_Y_keep_30 rfl rfl rfl ?_
    refine wp_ialoadN (q := 32) d_Y_keep_31 rfl hY1.2.1 rfl hi (by decide) ?_
    refine wp_iastoreN (w' := w1.set 39 (am_ar 8 (pu_hf P KP (i + 1)))) (q := 33) d_Y_keep_32 rfl hY1.2.2.2.2.1 rfl hi (by decide) (by rw [pu_upd, pu_hf_s]) ?_
    obtain ⟨f2, hY2⟩ := hY1.set_kp (KP1 := pu_hf P KP (i + 1))
    refine wp_inc1 (q := 36) d_Y_keep_33 rfl rfl (nI_1 _) (Nat.le_of_ble_eq_true rfl) rfl ?_
    refine wp_goto (tgt := 15) d_Y_keep_36 (by decide) ?_
    exact ih _ (fr.tr f2) hY2
set_option maxHeartbeats 4000000 in
set_option maxRecDepth 100000 in
theorem y_keep {n k : Nat} {P : Nat → Nat} {H : Nat → Int32} {O : Nat → Nat} {ik : Bool} {kn : Nat} {KP : Nat → Nat} {ic : Bool} {fz sm : Nat} {w : am_W} (hY : YI n k P H O ik kn KP ic fz sm w) : am_Wp none m_Y_keep 0 0 0 0 [(0, .ref 35)] [] w (fun v w1 => v = some (.int (nI k)) ∧ YF DY w w1 ∧ YI n k P H O true n P ic fz sm w1) := by
  refine wp_aload_n (q := 1) d_Y_keep_0 rfl rfl rfl ?_
  refine wp_iconst (q := 2) (v := 1) d_Y_keep_1 rfl (by decide) ?_
  refine wp_put (q := 5) (k := 5) d_Y_keep_2 rfl ok_Y (Nat.le_of_ble_eq_true rfl) fk_Y_70 rfl (am_fit_b (b := true)) hY.1 (Nat.le_of_ble_eq_true rfl) rfl ?_
  refine wp_aload_n (q := 6) d_Y_keep_5 rfl rfl rfl ?_
  refine wp_aload_n (q := 7) d_Y_keep_6 rfl rfl rfl ?_
  refine wp_get (q := 10) (k := 0) d_Y_keep_7 rfl ok_Y (Nat.le_of_ble_eq_true rfl) fk_Y_63 (am_at_eq hY.1) rfl ?_
  refine wp_put (q := 13) (k := 6) d_Y_keep_10 rfl ok_Y (Nat.le_of_ble_eq_true rfl) fk_Y_132 rfl am_fit_i (am_at_eq hY.1) (Nat.le_of_ble_eq_true rfl) rfl ?_
  obtain ⟨f1, hY1⟩ := hY.set_ob (n1 := n) (k1 := k) (ik1 := true) (kn1 := n) (ic1 := ic) (fz1 := fz) (sm1 := sm)
  show am_Wp _ _ _ _ _ _ _ _ ((w.set 35 (yob n k true kn ic fz sm)).set 35 (yob n k true n ic fz sm)) _
  rw [List.set_set]
  refine wp_iconst (q := 14) (v := 0) d_Y_keep_13 rfl (by decide) ?_
  refine wp_istore_n (q := 15) d_Y_keep_14 rfl rfl (Nat.le_of_ble_eq_true rfl) rfl ?_
  exact y_keep_L hY 0 (by decide) _ f1 (by rw [pu_hf_0]; exact hY1)
set_option maxHeartbeats 4000000 in
set_option maxRecDepth 100000 in
theorem y_of_bad {n k : Nat} {P : Nat → Nat} {H : Nat → Int32} {O : Nat → Nat} {ik : Bool} {kn : Nat} {KP : Nat → Nat} {ic : Bool} {fz sm : Nat} {w : am_W} (hY : YI n k P H O ik kn KP ic fz sm w) (hW : YW n k P H O kn KP) {x z : Int32} (hb : ¬ (PL n x ∧ ∃ e, e ≤ 4 ∧ z = nI e)) : am_Wp none m_Y_of 1 0 0 0 [(0, .ref 35), (1, .int x), (2, .int z)] [] w (am_R (some (.int (-2))) w) := by
  obtain ⟨hn, hk, hP, hO, hkn, hKP, hpop⟩ := id hW
  refine wp_aload_n (q := 1) d_Y_of_0 rfl rfl rfl ?_
  refine wp_iload_n (q := 2) d_Y_of_1 rfl rfl rfl ?_
  refine wp_cV1r (q := 5) d_Y_of_2 rfl bd_Y_isPlace lk_Y_77 im_Y_isPlace se_Y_isPlace rfl (Nat.le_of_ble_eq_true rfl) (Nat.le_of_ble_eq_true rfl) hY.1 (Nat.le_of_ble_eq_true rfl) (y_isPlace hY hn) ?_
  refine wp_if_eq (q := 8) (tgt := 17) d_Y_of_5 (by decide) rfl (fun c5 => ?_) (fun c5 => ?_)
  · refine wp_bipush (q := 19) (v := -2) d_Y_of_17 rfl (by decide) ?_
    exact wp_ireturn rfl d_Y_of_19 ⟨rfl, rfl⟩
  · refine wp_iload_n (q := 9) d_Y_of_8 rfl rfl rfl ?_
    refine wp_if_lt (q := 12) (tgt := 17) d_Y_of_9 (by decide) rfl (fun c9 => ?_) (fun c9 => ?_)
    · refine wp_bipush (q := 19) (v := -2) d_Y_of_17 rfl (by decide) ?_
      exact wp_ireturn rfl d_Y_of_19 ⟨rfl, rfl⟩
    · refine wp_iload_n (q := 13) d_Y_of_12 rfl rfl rfl ?_
      refine wp_iconst (q := 14) (v := 4) d_Y_of_13 rfl (by decide) ?_
      refine wp_icmp_le (q := 17) (tgt := 20) d_Y_of_14 (by decide) rfl (fun c14 => absurd c14 (fun c14 => hb ⟨pu_q1 c5, by rcases pk_ix z (n := 5) (by decide) with h | h | ⟨e, he, rfl⟩; exact absurd h c9; exact absurd (Int32.lt_of_lt_of_le (show (4 : Int32) < nI 5 by decide) h) (Int32.not_lt.mpr c14); exact ⟨e, by omega, rfl⟩⟩)) (fun _ => ?_)
      refine wp_bipush (q := 19) (v := -2) d_Y_of_17 rfl (by decide) ?_
      exact wp_ireturn rfl d_Y_of_19 ⟨rfl, rfl⟩
set_option maxHeartbeats 4000000 in
set_option maxRecDepth 100000 in
theorem y_of0 {n k : Nat} {P : Nat → Nat} {H : Nat → Int32} {O : Nat → Nat} {ik : Bool} {kn : Nat} {KP : Nat → Nat} {ic : Bool} {fz sm : Nat} {w : am_W} (hY : YI n k P H O ik kn KP ic fz sm w) (hW : YW n k P H O kn KP) {i : Nat} (hi : i < n) : am_Wp none m_Y_of 1 0 0 0 [(0, .ref 35), (1, .int (nI i)), (2, .int 0)] [] w (am_R (some (.int (nI (P i)))) w) := by
  obtain ⟨hn, hk, hP, hO, hkn, hKP, hpop⟩ := id hW
  refine wp_aload_n (q := 1) d_Y_of_0 rfl rfl rfl ?_
  refine wp_iload_n (q := 2) d_Y_of_1 rfl rfl rfl ?_
  refine wp_cV1r (q := 5) d_Y_of_2 rfl bd_Y_isPlace lk_Y_77 im_Y_isPlace se_Y_isPlace rfl (Nat.le_of_ble_eq_true rfl) (Nat.le_of_ble_eq_true rfl) hY.1 (Nat.le_of_ble_eq_true rfl) (y_isPlace hY hn) ?_
  refine wp_if_eq (q := 8) (tgt := 17) d_Y_of_5 (by decide) rfl (fun c5 => absurd c5 (by rw [pu_q_t ⟨i, hi, rfl⟩]; decide)) (fun _ => ?_)
  refine wp_iload_n (q := 9) d_Y_of_8 rfl rfl rfl ?_
  refine wp_if_lt (q := 12) (tgt := 17) d_Y_of_9 (by decide) rfl (fun c9 => absurd c9 (by decide)) (fun _ => ?_)
  refine wp_iload_n (q := 13) d_Y_of_12 rfl rfl rfl ?_
  refine wp_iconst (q := 14) (v := 4) d_Y_of_13 rfl (by decide) ?_
  refine wp_icmp_le (q := 17) (tgt := 20) d_Y_of_14 (by decide) rfl (fun _ => ?_) (fun c14 => absurd (by decide) c14)
  refine wp_iload_n (q := 21) d_Y_of_20 rfl rfl rfl ?_
  refine wp_if_ne (q := 24) (tgt := 31) d_Y_of_21 (by decide) rfl (fun c21 => absurd rfl c21) (fun _ => ?_)
  refine wp_aload_n (q := 25) d_Y_of_24 rfl rfl rfl ?_
  refine wp_get (q := 28) (k := 2) d_Y_of_25 rfl ok_Y (Nat.le_of_ble_eq_true rfl) fk_Y_7 hY.1 rfl ?_
  refine wp_iload_n (q := 29) d_Y_of_28 rfl rfl rfl ?_
  refine wp_ialoadN (q := 30) d_Y_of_29 rfl hY.2.1 rfl (by omega) (by decide) ?_
  exact wp_ireturn rfl d_Y_of_30 ⟨rfl, rfl⟩
set_option maxHeartbeats 4000000 in
set_option maxRecDepth 100000 in
theorem y_of1_L {n k : Nat} {P : Nat → Nat} {H : Nat → Int32} {O : Nat → Nat} {ik : Bool} {kn : Nat} {KP : Nat → Nat} {ic : Bool} {fz sm : Nat} {w : am_W} (hY : YI n k P H O ik kn KP ic fz sm w) (hW : YW n k P H O kn KP) {i : Nat} (hi : i < n) : ∀ p, p ≤ n → am_Wp none m_Y_of 1 0 0 41 [(0, .ref 35), (1, .int (nI i)), (2, .int 1), (3, .int (nI (pu_ych P p i))), (4, .int (nI p))] [] w (am_R (some (.int (nI (pu_ych P n i)))) w) := by
  obtain ⟨hn, hk, hP, hO, hkn, hKP, hpop⟩ := id hW
  refine pu_up (P := fun p => am_Wp none m_Y_of 1 0 0 41 [(0, .ref 35), (1, .int (nI i)), (2, .int 1), (3, .int (nI (pu_ych P p i))), (4, .int (nI p))] [] w (am_R (some (.int (nI (pu_ych P n i)))) w)) ?_ ?_
  · show am_Wp _ _ _ _ _ _ _ _ _ _
    refine wp_iload (q := 43) d_Y_of_41 rfl rfl ?_
    refine wp_aload_n (q := 44) d_Y_of_43 rfl rfl rfl ?_
    refine wp_get (q := 47) (k := 0) d_Y_of_44 rfl ok_Y (Nat.le_of_ble_eq_true rfl) fk_Y_63 hY.1 rfl ?_
    refine wp_icmp_ge (q := 50) (tgt := 77) d_Y_of_47 (by decide) rfl (fun _ => ?_) (fun c47 => absurd (nI_le (Nat.le_refl n) (by omega)) c47)
    refine wp_iload_n (q := 78) d_Y_of_77 rfl rfl rfl ?_
    exact wp_ireturn rfl d_Y_of_78 ⟨rfl, rfl⟩
  · intro p hp ih
    have ih : am_Wp _ _ _ _ _ _ _ _ _ _ := ih
    show am_Wp _ _ _ _ _ _ _ _ _ _
    refine wp_iload (q := 43) d_Y_of_41 rfl rfl ?_
    refine wp_aload_n (q := 44) d_Y_of_43 rfl rfl rfl ?_
    refine wp_get (q := 47) (k := 0) d_Y_of_44 rfl ok_Y (Nat.le_of_ble_eq_true rfl) fk_Y_63 hY.1 rfl ?_
    refine wp_icmp_ge (q := 50) (tgt := 77) d_Y_of_47 (by decide) rfl (fun c47 => absurd c47 (nI_ge hp (by omega))) (fun _ => ?_)
    refine wp_iload_n (q := 51) d_Y_of_50 rfl rfl rfl ?_
    refine wp_aload_n (q := 52) d_Y_of_51 rfl rfl rfl ?_
    refine wp_iload_n (q := 53) d_Y_of_52 rfl rfl rfl ?_
    refine wp_iload (q := 55) d_Y_of_53 rfl rfl ?_
    refine wp_cV2r (q := 58) d_Y_of_55 rfl bd_Y_isArc lk_Y_92 im_Y_isArc se_Y_isArc rfl (Nat.le_of_ble_eq_true rfl) (Nat.le_of_ble_eq_true rfl) hY.1 (Nat.le_of_ble_eq_true rfl) (y_isArc hY hP (by omega) (by omega)) ?_
    refine wp_if_eq (q := 61) (tgt := 68) d_Y_of_58 (by decide) rfl (fun c58 => ?_) (fun c58 => ?_)
    · have hb : (P p).testBit i = false := pu_b0.mp c58
      refine wp_iconst (q := 69) (v := 0) d_Y_of_68 rfl (by decide) ?_
      refine wp_ior (q := 70) d_Y_of_69 rfl ?_
      rw [show (0 : Int32) = nI 0 from rfl, pu_or]
      refine wp_istore_n (q := 71) d_Y_of_70 rfl rfl (Nat.le_of_ble_eq_true rfl) rfl ?_
      refine wp_inc1 (q := 74) d_Y_of_71 rfl rfl (nI_1 _) (Nat.le_of_ble_eq_true rfl) rfl ?_
      refine wp_goto (tgt := 41) d_Y_of_74 (by decide) ?_
      have e : pu_ych P (p + 1) i = pu_ych P p i ||| 0 := by rw [pu_ych, hb]; rfl
      rw [e] at ih
      exact ih
    · have hb : (P p).testBit i = true := pu_b1 c58
      refine wp_iconst (q := 62) (v := 1) d_Y_of_61 rfl (by decide) ?_
      refine wp_iload (q := 64) d_Y_of_62 rfl rfl ?_
      refine wp_ishl (q := 65) d_Y_of_64 rfl ?_
      rw [pu_bit p (by omega)]
      refine wp_goto (tgt := 69) d_Y_of_65 (by decide) ?_
      refine wp_ior (q := 70) d_Y_of_69 rfl ?_
      rw [pu_or]
      refine wp_istore_n (q := 71) d_Y_of_70 rfl rfl (Nat.le_of_ble_eq_true rfl) rfl ?_
      refine wp_inc1 (q := 74) d_Y_of_71 rfl rfl (nI_1 _) (Nat.le_of_ble_eq_true rfl) rfl ?_
      refine wp_goto (tgt := 41) d_Y_of_74 (by decide) ?_
      have e : pu_ych P (p + 1) i = pu_ych P p i ||| 2 ^ p := by rw [pu_ych, hb]; rfl
      rw [e] at ih
      exact ih
set_option maxHeartbeats 4000000 in
set_option maxRecDepth 100000 in
theorem y_of1 {n k : Nat} {P : Nat → Nat} {H : Nat → Int32} {O : Nat → Nat} {ik : Bool} {kn : Nat} {KP : Nat → Nat} {ic : Bool} {fz sm : Nat} {w : am_W} (hY : YI n k P H O ik kn KP ic fz sm w) (hW : YW n k P H O kn KP) {i : Nat} (hi : i < n) : am_Wp none m_Y_of 1 0 0 0 [(0, .ref 35), (1, .int (nI i)), (2, .int 1)] [] w (am_R (some (.int (nI (pu_ych P n i)))) w) := by
  obtain ⟨hn, hk, hP, hO, hkn, hKP, hpop⟩ := id hW
  refine wp_aload_n (q := 1) d_Y_of_0 rfl rfl rfl ?_
  refine wp_iload_n (q := 2) d_Y_of_1 rfl rfl rfl ?_
  refine wp_cV1r (q := 5) d_Y_of_2 rfl bd_Y_isPlace lk_Y_77 im_Y_isPlace se_Y_isPlace rfl (Nat.le_of_ble_eq_true rfl) (Nat.le_of_ble_eq_true rfl) hY.1 (Nat.le_of_ble_eq_true rfl) (y_isPlace hY hn) ?_
  refine wp_if_eq (q := 8) (tgt := 17) d_Y_of_5 (by decide) rfl (fun c5 => absurd c5 (by rw [pu_q_t ⟨i, hi, rfl⟩]; decide)) (fun _ => ?_)
  refine wp_iload_n (q := 9) d_Y_of_8 rfl rfl rfl ?_
  refine wp_if_lt (q := 12) (tgt := 17) d_Y_of_9 (by decide) rfl (fun c9 => absurd c9 (by decide)) (fun _ => ?_)
  refine wp_iload_n (q := 13) d_Y_of_12 rfl rfl rfl ?_
  refine wp_iconst (q := 14) (v := 4) d_Y_of_13 rfl (by decide) ?_
  refine wp_icmp_le (q := 17) (tgt := 20) d_Y_of_14 (by decide) rfl (fun _ => ?_) (fun c14 => absurd (by decide) c14)
  refine wp_iload_n (q := 21) d_Y_of_20 rfl rfl rfl ?_
  refine wp_if_ne (q := 24) (tgt := 31) d_Y_of_21 (by decide) rfl (fun _ => ?_) (fun c21 => absurd c21 (by decide))
  refine wp_iload_n (q := 32) d_Y_of_31 rfl rfl rfl ?_
  refine wp_iconst (q := 33) (v := 1) d_Y_of_32 rfl (by decide) ?_
  refine wp_icmp_ne (q := 36) (tgt := 79) d_Y_of_33 (by decide) rfl (fun c33 => absurd rfl c33) (fun _ => ?_)
  refine wp_iconst (q := 37) (v := 0) d_Y_of_36 rfl (by decide) ?_
  refine wp_istore_n (q := 38) d_Y_of_37 rfl rfl (Nat.le_of_ble_eq_true rfl) rfl ?_
  refine wp_iconst (q := 39) (v := 0) d_Y_of_38 rfl (by decide) ?_
  refine wp_istore (q := 41) d_Y_of_39 rfl (Nat.le_of_ble_eq_true rfl) rfl ?_
  exact y_of1_L hY hW hi 0 (Nat.zero_le _)
set_option maxHeartbeats 4000000 in
set_option maxRecDepth 100000 in
theorem y_of2 {n k : Nat} {P : Nat → Nat} {H : Nat → Int32} {O : Nat → Nat} {ik : Bool} {kn : Nat} {KP : Nat → Nat} {ic : Bool} {fz sm : Nat} {w : am_W} (hY : YI n k P H O ik kn KP ic fz sm w) (hW : YW n k P H O kn KP) {i : Nat} (hi : i < n) : am_Wp none m_Y_of 2 0 0 0 [(0, .ref 35), (1, .int (nI i)), (2, .int 2)] [] w (fun v w1 => v = some (.int (nI (pu_cl (pu_ych (pu_yc n P H) 8) 8 8 (pu_ych (pu_yc n P H) 8 i)))) ∧ YF DY w w1 ∧ YI n k P H O ik kn KP ic fz sm w1) := by
  obtain ⟨hn, hk, hP, hO, hkn, hKP, hpop⟩ := id hW
  refine wp_aload_n (q := 1) d_Y_of_0 rfl rfl rfl ?_
  refine wp_iload_n (q := 2) d_Y_of_1 rfl rfl rfl ?_
  refine wp_cV1r (q := 5) d_Y_of_2 rfl bd_Y_isPlace lk_Y_77 im_Y_isPlace se_Y_isPlace rfl (Nat.le_of_ble_eq_true rfl) (Nat.le_of_ble_eq_true rfl) hY.1 (Nat.le_of_ble_eq_true rfl) (y_isPlace hY hn) ?_
  refine wp_if_eq (q := 8) (tgt := 17) d_Y_of_5 (by decide) rfl (fun c5 => absurd c5 (by rw [pu_q_t ⟨i, hi, rfl⟩]; decide)) (fun _ => ?_)
  refine wp_iload_n (q := 9) d_Y_of_8 rfl rfl rfl ?_
  refine wp_if_lt (q := 12) (tgt := 17) d_Y_of_9 (by decide) rfl (fun c9 => absurd c9 (by decide)) (fun _ => ?_)
  refine wp_iload_n (q := 13) d_Y_of_12 rfl rfl rfl ?_
  refine wp_iconst (q := 14) (v := 4) d_Y_of_13 rfl (by decide) ?_
  refine wp_icmp_le (q := 17) (tgt := 20) d_Y_of_14 (by decide) rfl (fun _ => ?_) (fun c14 => absurd (by decide) c14)
  refine wp_iload_n (q := 21) d_Y_of_20 rfl rfl rfl ?_
  refine wp_if_ne (q := 24) (tgt := 31) d_Y_of_21 (by decide) rfl (fun _ => ?_) (fun c21 => absurd c21 (by decide))
  refine wp_iload_n (q := 32) d_Y_of_31 rfl rfl rfl ?_
  refine wp_iconst (q := 33) (v := 1) d_Y_of_32 rfl (by decide) ?_
  refine wp_icmp_ne (q := 36) (tgt := 79) d_Y_of_33 (by decide) rfl (fun _ => ?_) (fun c33 => absurd c33 (by decide))
  refine wp_iload_n (q := 80) d_Y_of_79 rfl rfl rfl ?_
  refine wp_iconst (q := 81) (v := 2) d_Y_of_80 rfl (by decide) ?_
  refine wp_icmp_ne (q := 84) (tgt := 95) d_Y_of_81 (by decide) rfl (fun c81 => absurd rfl c81) (fun _ => ?_)
  refine wp_aload_n (q := 85) d_Y_of_84 rfl rfl rfl ?_
  refine wp_iconst (q := 86) (v := -1) d_Y_of_85 rfl (by decide) ?_
  refine wp_cV1g (q := 89) (bc1 := 0) (bs1 := 0) d_Y_of_86 rfl bd_Y_countArcs lk_Y_103 im_Y_countArcs se_Y_countArcs rfl (Nat.le_of_ble_eq_true rfl) (Nat.le_of_ble_eq_true rfl) hY.1 (Nat.le_of_ble_eq_true rfl) (y_countN hY hn (pu_yc_lt hP) (fun _ => rfl)) (fun v w1 hF => ?_)
  obtain ⟨rfl, f1, hT⟩ := hF
  have hY1 := hY.s f1 (by decide)
  refine wp_aload_n (q := 90) d_Y_of_89 rfl rfl rfl ?_
  refine wp_iload_n (q := 91) d_Y_of_90 rfl rfl rfl ?_
  refine wp_cV1r (q := 94) d_Y_of_91 rfl bd_Y_belowOf lk_Y_106 im_Y_belowOf se_Y_belowOf rfl (Nat.le_of_ble_eq_true rfl) (Nat.le_of_ble_eq_true rfl) hY1.1 (Nat.le_of_ble_eq_true rfl) (y_below hY1 hT (by omega)) ?_
  exact wp_ireturn rfl d_Y_of_94 ⟨rfl, f1.up (by decide), hY1⟩
set_option maxHeartbeats 4000000 in
set_option maxRecDepth 100000 in
theorem y_of3 {n k : Nat} {P : Nat → Nat} {H : Nat → Int32} {O : Nat → Nat} {ik : Bool} {kn : Nat} {KP : Nat → Nat} {ic : Bool} {fz sm : Nat} {w : am_W} (hY : YI n k P H O ik kn KP ic fz sm w) (hW : YW n k P H O kn KP) {i : Nat} (hi : i < n) : am_Wp none m_Y_of 1 0 0 0 [(0, .ref 35), (1, .int (nI i)), (2, .int 3)] [] w (am_R (some (.int (H i))) w) := by
  obtain ⟨hn, hk, hP, hO, hkn, hKP, hpop⟩ := id hW
  refine wp_aload_n (q := 1) d_Y_of_0 rfl rfl rfl ?_
  refine wp_iload_n (q := 2) d_Y_of_1 rfl rfl rfl ?_
  refine wp_cV1r (q := 5) d_Y_of_2 rfl bd_Y_isPlace lk_Y_77 im_Y_isPlace se_Y_isPlace rfl (Nat.le_of_ble_eq_true rfl) (Nat.le_of_ble_eq_true rfl) hY.1 (Nat.le_of_ble_eq_true rfl) (y_isPlace hY hn) ?_
  refine wp_if_eq (q := 8) (tgt := 17) d_Y_of_5 (by decide) rfl (fun c5 => absurd c5 (by rw [pu_q_t ⟨i, hi, rfl⟩]; decide)) (fun _ => ?_)
  refine wp_iload_n (q := 9) d_Y_of_8 rfl rfl rfl ?_
  refine wp_if_lt (q := 12) (tgt := 17) d_Y_of_9 (by decide) rfl (fun c9 => absurd c9 (by decide)) (fun _ => ?_)
  refine wp_iload_n (q := 13) d_Y_of_12 rfl rfl rfl ?_
  refine wp_iconst (q := 14) (v := 4) d_Y_of_13 rfl (by decide) ?_
  refine wp_icmp_le (q := 17) (tgt := 20) d_Y_of_14 (by decide) rfl (fun _ => ?_) (fun c14 => absurd (by decide) c14)
  refine wp_iload_n (q := 21) d_Y_of_20 rfl rfl rfl ?_
  refine wp_if_ne (q := 24) (tgt := 31) d_Y_of_21 (by decide) rfl (fun _ => ?_) (fun c21 => absurd c21 (by decide))
  refine wp_iload_n (q := 32) d_Y_of_31 rfl rfl rfl ?_
  refine wp_iconst (q := 33) (v := 1) d_Y_of_32 rfl (by decide) ?_
  refine wp_icmp_ne (q := 36) (tgt := 79) d_Y_of_33 (by decide) rfl (fun _ => ?_) (fun c33 => absurd c33 (by decide))
  refine wp_iload_n (q := 80) d_Y_of_79 rfl rfl rfl ?_
  refine wp_iconst (q := 81) (v := 2) d_Y_of_80 rfl (by decide) ?_
  refine wp_icmp_ne (q := 84) (tgt := 95) d_Y_of_81 (by decide) rfl (fun _ => ?_) (fun c81 => absurd c81 (by decide))
  refine wp_iload_n (q := 96) d_Y_of_95 rfl rfl rfl ?_
  refine wp_iconst (q := 97) (v := 3) d_Y_of_96 rfl (by decide) ?_
  refine wp_icmp_ne (q := 100) (tgt := 109) d_Y_of_97 (by decide) rfl (fun c97 => absurd rfl c97) (fun _ => ?_)
  refine wp_aload_n (q := 101) d_Y_of_100 rfl rfl rfl ?_
  refine wp_get (q := 104) (k := 3) d_Y_of_101 rfl ok_Y (Nat.le_of_ble_eq_true rfl) fk_Y_13 hY.1 rfl ?_
  refine wp_iload_n (q := 105) d_Y_of_104 rfl rfl rfl ?_
  refine wp_ialoadN (q := 106) d_Y_of_105 rfl hY.2.2.1 rfl (by omega) (by decide) ?_
  refine wp_goto (tgt := 120) d_Y_of_106 (by decide) ?_
  exact wp_ireturn rfl d_Y_of_120 ⟨rfl, rfl⟩
set_option maxHeartbeats 4000000 in
set_option maxRecDepth 100000 in
theorem y_of4 {n k : Nat} {P : Nat → Nat} {H : Nat → Int32} {O : Nat → Nat} {ik : Bool} {kn : Nat} {KP : Nat → Nat} {ic : Bool} {fz sm : Nat} {w : am_W} (hY : YI n k P H O ik kn KP ic fz sm w) (hW : YW n k P H O kn KP) {i : Nat} (hi : i < n) : am_Wp none m_Y_of 1 0 0 0 [(0, .ref 35), (1, .int (nI i)), (2, .int 4)] [] w (am_R (some (.int (nI (2 ^ pu_pop 8 (P i))))) w) := by
  obtain ⟨hn, hk, hP, hO, hkn, hKP, hpop⟩ := id hW
  refine wp_aload_n (q := 1) d_Y_of_0 rfl rfl rfl ?_
  refine wp_iload_n (q := 2) d_Y_of_1 rfl rfl rfl ?_
  refine wp_cV1r (q := 5) d_Y_of_2 rfl bd_Y_isPlace lk_Y_77 im_Y_isPlace se_Y_isPlace rfl (Nat.le_of_ble_eq_true rfl) (Nat.le_of_ble_eq_true rfl) hY.1 (Nat.le_of_ble_eq_true rfl) (y_isPlace hY hn) ?_
  refine wp_if_eq (q := 8) (tgt := 17) d_Y_of_5 (by decide) rfl (fun c5 => absurd c5 (by rw [pu_q_t ⟨i, hi, rfl⟩]; decide)) (fun _ => ?_)
  refine wp_iload_n (q := 9) d_Y_of_8 rfl rfl rfl ?_
  refine wp_if_lt (q := 12) (tgt := 17) d_Y_of_9 (by decide) rfl (fun c9 => absurd c9 (by decide)) (fun _ => ?_)
  refine wp_iload_n (q := 13) d_Y_of_12 rfl rfl rfl ?_
  refine wp_iconst (q := 14) (v := 4) d_Y_of_13 rfl (by decide) ?_
  refine wp_icmp_le (q := 17) (tgt := 20) d_Y_of_14 (by decide) rfl (fun _ => ?_) (fun c14 => absurd (by decide) c14)
  refine wp_iload_n (q := 21) d_Y_of_20 rfl rfl rfl ?_
  refine wp_if_ne (q := 24) (tgt := 31) d_Y_of_21 (by decide) rfl (fun _ => ?_) (fun c21 => absurd c21 (by decide))
  refine wp_iload_n (q := 32) d_Y_of_31 rfl rfl rfl ?_
  refine wp_iconst (q := 33) (v := 1) d_Y_of_32 rfl (by decide) ?_
  refine wp_icmp_ne (q := 36) (tgt := 79) d_Y_of_33 (by decide) rfl (fun _ => ?_) (fun c33 => absurd c33 (by decide))
  refine wp_iload_n (q := 80) d_Y_of_79 rfl rfl rfl ?_
  refine wp_iconst (q := 81) (v := 2) d_Y_of_80 rfl (by decide) ?_
  refine wp_icmp_ne (q := 84) (tgt := 95) d_Y_of_81 (by decide) rfl (fun _ => ?_) (fun c81 => absurd c81 (by decide))
  refine wp_iload_n (q := 96) d_Y_of_95 rfl rfl rfl ?_
  refine wp_iconst (q := 97) (v := 3) d_Y_of_96 rfl (by decide) ?_
  refine wp_icmp_ne (q := 100) (tgt := 109) d_Y_of_97 (by decide) rfl (fun _ => ?_) (fun c97 => absurd c97 (by decide))
  refine wp_iconst (q := 110) (v := 1) d_Y_of_109 rfl (by decide) ?_
  refine wp_aload_n (q := 111) d_Y_of_110 rfl rfl rfl ?_
  refine wp_get (q := 114) (k := 2) d_Y_of_111 rfl ok_Y (Nat.le_of_ble_eq_true rfl) fk_Y_7 hY.1 rfl ?_
  refine wp_iload_n (q := 115) d_Y_of_114 rfl rfl rfl ?_
  refine wp_ialoadN (q := 116) d_Y_of_115 rfl hY.2.1 rfl (by omega) (by decide) ?_
  refine wp_cS1r (q := 119) d_Y_of_116 rfl bd_Y_many lk_Y_96 sm_Y_many (Nat.le_of_ble_eq_true rfl) (Nat.le_of_ble_eq_true rfl) (Nat.le_of_ble_eq_true rfl) (y_many (Nat.lt_trans (hP i) (by decide))) ?_
  refine wp_ishl (q := 120) d_Y_of_119 rfl ?_
  rw [pu_pop8 (hP i), pu_bit _ (Nat.lt_of_le_of_lt (pu_pop_le 8 (P i)) (by decide))]
  exact wp_ireturn rfl d_Y_of_120 ⟨rfl, rfl⟩
set_option maxHeartbeats 4000000 in
set_option maxRecDepth 100000 in
theorem y_separated_bad {n k : Nat} {P : Nat → Nat} {H : Nat → Int32} {O : Nat → Nat} {ik : Bool} {kn : Nat} {KP : Nat → Nat} {ic : Bool} {fz sm : Nat} {w : am_W} (hY : YI n k P H O ik kn KP ic fz sm w) (hW : YW n k P H O kn KP) {x y s : Int32} (hb : ¬ QU n x y s) : am_Wp none m_Y_separated 2 0 0 0 [(0, .ref 35), (1, .int x), (2, .int y), (3, .int s)] [] w (am_R (some (.int (-2))) w) := by
  obtain ⟨hn, hk, hP, hO, hkn, hKP, hpop⟩ := id hW
  refine wp_aload_n (q := 1) d_Y_separated_0 rfl rfl rfl ?_
  refine wp_iload_n (q := 2) d_Y_separated_1 rfl rfl rfl ?_
  refine wp_iload_n (q := 3) d_Y_separated_2 rfl rfl rfl ?_
  refine wp_iload_n (q := 4) d_Y_separated_3 rfl rfl rfl ?_
  refine wp_cV3r (q := 7) d_Y_separated_4 rfl bd_Y_isAsked lk_Y_109 im_Y_isAsked se_Y_isAsked rfl (Nat.le_of_ble_eq_true rfl) (Nat.le_of_ble_eq_true rfl) hY.1 (Nat.le_of_ble_eq_true rfl) (y_isAsked hY hn) ?_
  refine wp_if_ne (q := 10) (tgt := 13) d_Y_separated_7 (by decide) rfl (fun c7 => absurd (pu_q_f hb) c7) (fun _ => ?_)
  refine wp_bipush (q := 12) (v := -2) d_Y_separated_10 rfl (by decide) ?_
  exact wp_ireturn rfl d_Y_separated_12 ⟨rfl, rfl⟩
set_option maxHeartbeats 4000000 in
set_option maxRecDepth 100000 in
theorem y_separated {n k : Nat} {P : Nat → Nat} {H : Nat → Int32} {O : Nat → Nat} {ik : Bool} {kn : Nat} {KP : Nat → Nat} {ic : Bool} {fz sm : Nat} {w : am_W} (hY : YI n k P H O ik kn KP ic fz sm w) (hW : YW n k P H O kn KP) (hPn : ∀ i, P i < 2 ^ n) {i j t : Nat} (hi : i < n) (hj : j < n) (hij : i ≠ j) (ht : t < 2 ^ n) (hti : t.testBit i = false) (htj : t.testBit j = false) : am_Wp none m_Y_separated 2 0 0 0 [(0, .ref 35), (1, .int (nI i)), (2, .int (nI j)), (3, .int (nI t))] [] w (fun v w1 => v = some (.int (pu_b (pu_sp (pu_yc n P H) n i j t))) ∧ YF DY w w1 ∧ YI n k P H O ik kn KP ic fz sm w1) := by
  obtain ⟨hn, hk, hP, hO, hkn, hKP, hpop⟩ := id hW
  refine wp_aload_n (q := 1) d_Y_separated_0 rfl rfl rfl ?_
  refine wp_iload_n (q := 2) d_Y_separated_1 rfl rfl rfl ?_
  refine wp_iload_n (q := 3) d_Y_separated_2 rfl rfl rfl ?_
  refine wp_iload_n (q := 4) d_Y_separated_3 rfl rfl rfl ?_
  refine wp_cV3r (q := 7) d_Y_separated_4 rfl bd_Y_isAsked lk_Y_109 im_Y_isAsked se_Y_isAsked rfl (Nat.le_of_ble_eq_true rfl) (Nat.le_of_ble_eq_true rfl) hY.1 (Nat.le_of_ble_eq_true rfl) (y_isAsked hY hn) ?_
  refine wp_if_ne (q := 10) (tgt := 13) d_Y_separated_7 (by decide) rfl (fun _ => ?_) (fun c7 => absurd c7 (by rw [pu_q_t ⟨i, j, t, hi, hj, hij, ht, rfl, rfl, rfl, hti, htj⟩]; decide))
  refine wp_aload_n (q := 14) d_Y_separated_13 rfl rfl rfl ?_
  refine wp_iconst (q := 15) (v := -1) d_Y_separated_14 rfl (by decide) ?_
  refine wp_cV1g (q := 18) (bc1 := 0) (bs1 := 0) d_Y_separated_15 rfl bd_Y_countArcs lk_Y_103 im_Y_countArcs se_Y_countArcs rfl (Nat.le_of_ble_eq_true rfl) (Nat.le_of_ble_eq_true rfl) hY.1 (Nat.le_of_ble_eq_true rfl) (y_countN hY hn (pu_yc_lt hP) (fun _ => rfl)) (fun v w1 hF => ?_)
  obtain ⟨rfl, f1, hT⟩ := hF
  have hY1 := hY.s f1 (by decide)
  refine wp_aload_n (q := 19) d_Y_separated_18 rfl rfl rfl ?_
  refine wp_aload_n (q := 20) d_Y_separated_19 rfl rfl rfl ?_
  refine wp_get (q := 23) (k := 11) d_Y_separated_20 rfl ok_Y (Nat.le_of_ble_eq_true rfl) fk_Y_22 hY1.1 rfl ?_
  refine wp_iload_n (q := 24) d_Y_separated_23 rfl rfl rfl ?_
  refine wp_iload_n (q := 25) d_Y_separated_24 rfl rfl rfl ?_
  refine wp_iload_n (q := 26) d_Y_separated_25 rfl rfl rfl ?_
  refine wp_cV4g (q := 29) (bc1 := 0) (bs1 := 0) d_Y_separated_26 rfl bd_Y_isSeparated lk_Y_113 im_Y_isSeparated se_Y_isSeparated rfl (Nat.le_of_ble_eq_true rfl) (Nat.le_of_ble_eq_true rfl) hY1.1 (Nat.le_of_ble_eq_true rfl) (y_sep hY1 hn (pu_yc_ltn hPn) hi hj ht hT.1 (by decide)) (fun v w9 hF => ?_)
  obtain ⟨rfl, f9⟩ := hF
  have hY9 := hY1.s1 f9
  show am_Wp _ _ _ _ _ _ _ [.int (pu_b (pu_sp (pu_yc n P H) n i j t))] _ _
  refine wp_if_eq (q := 32) (tgt := 36) d_Y_separated_29 (by decide) rfl (fun c29 => ?_) (fun c29 => ?_)
  · refine wp_iconst (q := 37) (v := 0) d_Y_separated_36 rfl (by decide) ?_
    exact wp_ireturn rfl d_Y_separated_37 ⟨by rw [pu_b0.mp c29]; rfl, (f1.up (by decide)).tr (f9.up (by decide)), hY9⟩
  · refine wp_iconst (q := 33) (v := 1) d_Y_separated_32 rfl (by decide) ?_
    refine wp_goto (tgt := 37) d_Y_separated_33 (by decide) ?_
    exact wp_ireturn rfl d_Y_separated_37 ⟨by rw [pu_b1 c29]; rfl, (f1.up (by decide)).tr (f9.up (by decide)), hY9⟩
set_option maxHeartbeats 4000000 in
set_option maxRecDepth 100000 in
theorem y_enough_bad {n k : Nat} {P : Nat → Nat} {H : Nat → Int32} {O : Nat → Nat} {ik : Bool} {kn : Nat} {KP : Nat → Nat} {ic : Bool} {fz sm : Nat} {w : am_W} (hY : YI n k P H O ik kn KP ic fz sm w) (hW : YW n k P H O kn KP) {x y s : Int32} (hb : ¬ QU n x y s) : am_Wp none m_Y_enough 2 0 0 0 [(0, .ref 35), (1, .int x), (2, .int y), (3, .int s)] [] w (am_R (some (.int (-2))) w) := by
  obtain ⟨hn, hk, hP, hO, hkn, hKP, hpop⟩ := id hW
  refine wp_aload_n (q := 1) d_Y_enough_0 rfl rfl rfl ?_
  refine wp_iload_n (q := 2) d_Y_enough_1 rfl rfl rfl ?_
  refine wp_iload_n (q := 3) d_Y_enough_2 rfl rfl rfl ?_
  refine wp_iload_n (q := 4) d_Y_enough_3 rfl rfl rfl ?_
  refine wp_cV3r (q := 7) d_Y_enough_4 rfl bd_Y_isAsked lk_Y_109 im_Y_isAsked se_Y_isAsked rfl (Nat.le_of_ble_eq_true rfl) (Nat.le_of_ble_eq_true rfl) hY.1 (Nat.le_of_ble_eq_true rfl) (y_isAsked hY hn) ?_
  refine wp_if_ne (q := 10) (tgt := 13) d_Y_enough_7 (by decide) rfl (fun c7 => absurd (pu_q_f hb) c7) (fun _ => ?_)
  refine wp_bipush (q := 12) (v := -2) d_Y_enough_10 rfl (by decide) ?_
  exact wp_ireturn rfl d_Y_enough_12 ⟨rfl, rfl⟩
set_option maxHeartbeats 4000000 in
set_option maxRecDepth 100000 in
theorem y_enough0 {n k : Nat} {P : Nat → Nat} {H : Nat → Int32} {O : Nat → Nat} {ik : Bool} {kn : Nat} {KP : Nat → Nat} {ic : Bool} {fz sm : Nat} {w : am_W} (hY : YI n k P H O ik kn KP ic fz sm w) (hW : YW n k P H O kn KP) {i j t : Nat} (hi : i < n) (hj : j < n) (hij : i ≠ j) (ht : t < 2 ^ n) (hti : t.testBit i = false) (htj : t.testBit j = false) (h0 : ¬ (pu_cl (pu_ych (pu_yc n P H) 8) 8 8 (pu_ych (pu_yc n P H) 8 i)) &&& t = 0) : am_Wp none m_Y_enough 2 0 0 0 [(0, .ref 35), (1, .int (nI i)), (2, .int (nI j)), (3, .int (nI t))] [] w (fun v w1 => v = some (.int (0)) ∧ YF DY w w1 ∧ YI n k P H O ik kn KP ic fz sm w1) := by
  obtain ⟨hn, hk, hP, hO, hkn, hKP, hpop⟩ := id hW
  have hbel : (pu_cl (pu_ych (pu_yc n P H) 8) 8 8 (pu_ych (pu_yc n P H) 8 i)) < 256 := pu_cl_lt (pu_ych_lt (by decide)) (pu_ych_lt (by decide) i)
  refine wp_aload_n (q := 1) d_Y_enough_0 rfl rfl rfl ?_
  refine wp_iload_n (q := 2) d_Y_enough_1 rfl rfl rfl ?_
  refine wp_iload_n (q := 3) d_Y_enough_2 rfl rfl rfl ?_
  refine wp_iload_n (q := 4) d_Y_enough_3 rfl rfl rfl ?_
  refine wp_cV3r (q := 7) d_Y_enough_4 rfl bd_Y_isAsked lk_Y_109 im_Y_isAsked se_Y_isAsked rfl (Nat.le_of_ble_eq_true rfl) (Nat.le_of_ble_eq_true rfl) hY.1 (Nat.le_of_ble_eq_true rfl) (y_isAsked hY hn) ?_
  refine wp_if_ne (q := 10) (tgt := 13) d_Y_enough_7 (by decide) rfl (fun _ => ?_) (fun c7 => absurd c7 (by rw [pu_q_t ⟨i, j, t, hi, hj, hij, ht, rfl, rfl, rfl, hti, htj⟩]; decide))
  refine wp_aload_n (q := 14) d_Y_enough_13 rfl rfl rfl ?_
  refine wp_iconst (q := 15) (v := -1) d_Y_enough_14 rfl (by decide) ?_
  refine wp_cV1g (q := 18) (bc1 := 0) (bs1 := 0) d_Y_enough_15 rfl bd_Y_countArcs lk_Y_103 im_Y_countArcs se_Y_countArcs rfl (Nat.le_of_ble_eq_true rfl) (Nat.le_of_ble_eq_true rfl) hY.1 (Nat.le_of_ble_eq_true rfl) (y_countN hY hn (pu_yc_lt hP) (fun _ => rfl)) (fun v w1 hF => ?_)
  obtain ⟨rfl, f1, hT⟩ := hF
  have hY1 := hY.s f1 (by decide)
  refine wp_aload_n (q := 19) d_Y_enough_18 rfl rfl rfl ?_
  refine wp_iload_n (q := 20) d_Y_enough_19 rfl rfl rfl ?_
  refine wp_cV1r (q := 23) d_Y_enough_20 rfl bd_Y_belowOf lk_Y_106 im_Y_belowOf se_Y_belowOf rfl (Nat.le_of_ble_eq_true rfl) (Nat.le_of_ble_eq_true rfl) hY1.1 (Nat.le_of_ble_eq_true rfl) (y_below hY1 hT (by omega)) ?_
  refine wp_iload_n (q := 24) d_Y_enough_23 rfl rfl rfl ?_
  refine wp_iand (q := 25) d_Y_enough_24 rfl ?_
  rw [pu_and]
  refine wp_if_eq (q := 28) (tgt := 30) d_Y_enough_25 (by decide) rfl (fun c25 => absurd c25 (fun e => h0 (pu_nI_inj (Nat.lt_trans (pu_and_lt hbel) (by decide)) (by decide) (e.trans nI_0.symm)))) (fun _ => ?_)
  refine wp_iconst (q := 29) (v := 0) d_Y_enough_28 rfl (by decide) ?_
  exact wp_ireturn rfl d_Y_enough_29 ⟨rfl, f1.up (by decide), hY1⟩
set_option maxHeartbeats 4000000 in
set_option maxRecDepth 100000 in
theorem y_enough1 {n k : Nat} {P : Nat → Nat} {H : Nat → Int32} {O : Nat → Nat} {ik : Bool} {kn : Nat} {KP : Nat → Nat} {ic : Bool} {fz sm : Nat} {w : am_W} (hY : YI n k P H O ik kn KP ic fz sm w) (hW : YW n k P H O kn KP) (hPn : ∀ i, P i < 2 ^ n) {i j t : Nat} (hi : i < n) (hj : j < n) (hij : i ≠ j) (ht : t < 2 ^ n) (hti : t.testBit i = false) (htj : t.testBit j = false) (h0 : (pu_cl (pu_ych (pu_yc n P H) 8) 8 8 (pu_ych (pu_yc n P H) 8 i)) &&& t = 0) : am_Wp none m_Y_enough 2 0 0 0 [(0, .ref 35), (1, .int (nI i)), (2, .int (nI j)), (3, .int (nI t))] [] w (fun v w1 => v = some (.int (pu_b (pu_sp (fun p => pu_dif (pu_yc n P H p) (2 ^ i)) n i j t))) ∧ YF DY w w1 ∧ YI n k P H O ik kn KP ic fz sm w1) := by
  obtain ⟨hn, hk, hP, hO, hkn, hKP, hpop⟩ := id hW
  have hbel : (pu_cl (pu_ych (pu_yc n P H) 8) 8 8 (pu_ych (pu_yc n P H) 8 i)) < 256 := pu_cl_lt (pu_ych_lt (by decide)) (pu_ych_lt (by decide) i)
  refine wp_aload_n (q := 1) d_Y_enough_0 rfl rfl rfl ?_
  refine wp_iload_n (q := 2) d_Y_enough_1 rfl rfl rfl ?_
  refine wp_iload_n (q := 3) d_Y_enough_2 rfl rfl rfl ?_
  refine wp_iload_n (q := 4) d_Y_enough_3 rfl rfl rfl ?_
  refine wp_cV3r (q := 7) d_Y_enough_4 rfl bd_Y_isAsked lk_Y_109 im_Y_isAsked se_Y_isAsked rfl (Nat.le_of_ble_eq_true rfl) (Nat.le_of_ble_eq_true rfl) hY.1 (Nat.le_of_ble_eq_true rfl) (y_isAsked hY hn) ?_
  refine wp_if_ne (q := 10) (tgt := 13) d_Y_enough_7 (by decide) rfl (fun _ => ?_) (fun c7 => absurd c7 (by rw [pu_q_t ⟨i, j, t, hi, hj, hij, ht, rfl, rfl, rfl, hti, htj⟩]; decide))
  refine wp_aload_n (q := 14) d_Y_enough_13 rfl rfl rfl ?_
  refine wp_iconst (q := 15) (v := -1) d_Y_enough_14 rfl (by decide) ?_
  refine wp_cV1g (q := 18) (bc1 := 0) (bs1 := 0) d_Y_enough_15 rfl bd_Y_countArcs lk_Y_103 im_Y_countArcs se_Y_countArcs rfl (Nat.le_of_ble_eq_true rfl) (Nat.le_of_ble_eq_true rfl) hY.1 (Nat.le_of_ble_eq_true rfl) (y_countN hY hn (pu_yc_lt hP) (fun _ => rfl)) (fun v w1 hF => ?_)
  obtain ⟨rfl, f1, hT⟩ := hF
  have hY1 := hY.s f1 (by decide)
  refine wp_aload_n (q := 19) d_Y_enough_18 rfl rfl rfl ?_
  refine wp_iload_n (q := 20) d_Y_enough_19 rfl rfl rfl ?_
  refine wp_cV1r (q := 23) d_Y_enough_20 rfl bd_Y_belowOf lk_Y_106 im_Y_belowOf se_Y_belowOf rfl (Nat.le_of_ble_eq_true rfl) (Nat.le_of_ble_eq_true rfl) hY1.1 (Nat.le_of_ble_eq_true rfl) (y_below hY1 hT (by omega)) ?_
  refine wp_iload_n (q := 24) d_Y_enough_23 rfl rfl rfl ?_
  refine wp_iand (q := 25) d_Y_enough_24 rfl ?_
  rw [pu_and]
  refine wp_if_eq (q := 28) (tgt := 30) d_Y_enough_25 (by decide) rfl (fun _ => ?_) (fun c25 => absurd (by rw [h0]; exact nI_0) c25)
  refine wp_aload_n (q := 31) d_Y_enough_30 rfl rfl rfl ?_
  refine wp_iload_n (q := 32) d_Y_enough_31 rfl rfl rfl ?_
  refine wp_cV1g (q := 35) (bc1 := 0) (bs1 := 0) d_Y_enough_32 rfl bd_Y_countArcs lk_Y_103 im_Y_countArcs se_Y_countArcs rfl (Nat.le_of_ble_eq_true rfl) (Nat.le_of_ble_eq_true rfl) hY1.1 (Nat.le_of_ble_eq_true rfl) (y_countW hY1 hn (g := (fun p => pu_dif (pu_yc n P H p) (2 ^ i))) (fun p => pu_dif_lt (pu_yc_lt hP p)) (y := i) (by omega) (fun _ => rfl)) (fun v w2 hF => ?_)
  obtain ⟨rfl, f2, hT2⟩ := hF
  have hY2 := hY1.s f2 (by decide)
  refine wp_aload_n (q := 36) d_Y_enough_35 rfl rfl rfl ?_
  refine wp_aload_n (q := 37) d_Y_enough_36 rfl rfl rfl ?_
  refine wp_get (q := 40) (k := 11) d_Y_enough_37 rfl ok_Y (Nat.le_of_ble_eq_true rfl) fk_Y_22 hY2.1 rfl ?_
  refine wp_iload_n (q := 41) d_Y_enough_40 rfl rfl rfl ?_
  refine wp_iload_n (q := 42) d_Y_enough_41 rfl rfl rfl ?_
  refine wp_iload_n (q := 43) d_Y_enough_42 rfl rfl rfl ?_
  refine wp_cV4g (q := 46) (bc1 := 0) (bs1 := 0) d_Y_enough_43 rfl bd_Y_isSeparated lk_Y_113 im_Y_isSeparated se_Y_isSeparated rfl (Nat.le_of_ble_eq_true rfl) (Nat.le_of_ble_eq_true rfl) hY2.1 (Nat.le_of_ble_eq_true rfl) (y_sep hY2 hn (fun p => pu_dif_ltn (pu_yc_ltn hPn p)) hi hj ht hT2.1 (by decide)) (fun v w9 hF => ?_)
  obtain ⟨rfl, f9⟩ := hF
  have hY9 := hY2.s1 f9
  show am_Wp _ _ _ _ _ _ _ [.int (pu_b (pu_sp (fun p => pu_dif (pu_yc n P H p) (2 ^ i)) n i j t))] _ _
  refine wp_if_eq (q := 49) (tgt := 53) d_Y_enough_46 (by decide) rfl (fun c46 => ?_) (fun c46 => ?_)
  · refine wp_iconst (q := 54) (v := 0) d_Y_enough_53 rfl (by decide) ?_
    exact wp_ireturn rfl d_Y_enough_54 ⟨by rw [pu_b0.mp c46]; rfl, (f1.up (by decide)).tr ((f2.up (by decide)).tr (f9.up (by decide))), hY9⟩
  · refine wp_iconst (q := 50) (v := 1) d_Y_enough_49 rfl (by decide) ?_
    refine wp_goto (tgt := 54) d_Y_enough_50 (by decide) ?_
    exact wp_ireturn rfl d_Y_enough_54 ⟨by rw [pu_b1 c46]; rfl, (f1.up (by decide)).tr ((f2.up (by decide)).tr (f9.up (by decide))), hY9⟩
