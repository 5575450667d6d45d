/-! CONTRACTS of Tables (2), Walks, Margin -/
set_option maxHeartbeats 4000000 in
set_option maxRecDepth 100000 in
theorem c_T_factor {w : am_W} {hd hv : Nat} {E : Nat → Nat → Nat} (hT : TI hd hv E w) {a p c n k : Nat} {P C : Nat → Nat} (hG : GI a p c n k P C w) (hP : ∀ i, P i < 256) (hE : ∀ i j, E i j ≤ 8) {i v : Nat} (hi : i < 8) (hv0 : v < 256) (hrow : pu_rv (P i) v 8 < 128) : am_Wp none m_T_factor 2 0 0 0 [(0, .ref 7), (1, .ref a), (2, .int (nI i)), (3, .int (nI v))] [] w (am_R (some (.int (nI (pu_fac P E i v)))) w) := by
  refine wp_aload_n (q := 1) d_T_factor_0 rfl rfl rfl ?_
  refine wp_get (q := 4) (k := 0) d_T_factor_1 rfl ok_T (Nat.le_of_ble_eq_true rfl) fk_T_11 hT.1 rfl ?_
  refine wp_iload_n (q := 5) d_T_factor_4 rfl rfl rfl ?_
  refine wp_aaloadN (q := 6) d_T_factor_5 rfl hT.2.1 rfl hi (by decide) (if_pos hi) ?_
  refine wp_aload_n (q := 7) d_T_factor_6 rfl rfl rfl ?_
  refine wp_getN (q := 10) (k := 2) d_T_factor_7 rfl ok_G (Nat.le_of_ble_eq_true rfl) fk_T_48 hG.1 rfl ?_
  refine wp_iload_n (q := 11) d_T_factor_10 rfl rfl rfl ?_
  refine wp_ialoadN (q := 12) d_T_factor_11 rfl hG.2.1 rfl hi (by decide) ?_
  refine wp_iload_n (q := 13) d_T_factor_12 rfl rfl rfl ?_
  refine wp_cS2r (q := 16) d_T_factor_13 rfl bd_T_rowIn lk_T_52 sm_T_rowIn (Nat.le_of_ble_eq_true rfl) (Nat.le_of_ble_eq_true rfl) (Nat.le_of_ble_eq_true rfl) (c_T_rowIn (hP i) hv0) ?_
  refine wp_ialoadN (q := 17) d_T_factor_16 rfl (hT.2.2 i hi) rfl hrow (by decide) ?_
  refine wp_istore (q := 19) d_T_factor_17 rfl (Nat.le_of_ble_eq_true rfl) rfl ?_
  refine wp_iload_n (q := 20) d_T_factor_19 rfl rfl rfl ?_
  refine wp_iload_n (q := 21) d_T_factor_20 rfl rfl rfl ?_
  refine wp_cSN2r (q := 24) d_T_factor_21 rfl bd_X_has lk_T_33 sm_X_has (Nat.le_of_ble_eq_true rfl) (Nat.le_of_ble_eq_true rfl) (Nat.le_of_ble_eq_true rfl) (c_has (by omega) (by omega)) ?_
  refine wp_if_eq (q := 27) (tgt := 32) d_T_factor_24 (by decide) rfl (fun c24 => ?_) (fun c24 => ?_)
  · refine wp_bipush (q := 34) (v := 8) d_T_factor_32 rfl (by decide) ?_
    refine wp_iload (q := 36) d_T_factor_34 rfl rfl ?_
    refine wp_isub (q := 37) d_T_factor_36 rfl ?_
    exact wp_ireturn rfl d_T_factor_37 ⟨by rw [show (8 : Int32) = nI 8 from rfl, pk_sub (hE _ _)]; unfold pu_fac; rw [if_neg (by rw [pu_b0.mp c24]; decide)], rfl⟩
  · refine wp_iload (q := 29) d_T_factor_27 rfl rfl ?_
    refine wp_goto (tgt := 37) d_T_factor_29 (by decide) ?_
    exact wp_ireturn rfl d_T_factor_37 ⟨by unfold pu_fac; rw [if_pos (pu_b1 c24)], rfl⟩
set_option maxHeartbeats 4000000 in
set_option maxRecDepth 100000 in
theorem c_T_product_L {w : am_W} {hd hv : Nat} {E : Nat → Nat → Nat} (hT : TI hd hv E w) {a p c n k : Nat} {P C : Nat → Nat} (hG : GI a p c n k P C w) (hn : n ≤ 8) (h1 : hd < 256) (h2 : hv < 256) (hP : ∀ i, P i < 256) (hE : ∀ i j, E i j ≤ 8) {v : Nat} (hv0 : v < 256) (hrow : ∀ i, i < n → pu_rv (P i) v 8 < 128) (h0 : (v ^^^ hv) &&& hd = 0) : ∀ i, i ≤ n → am_Wp none m_T_product 3 0 0 21 [(0, .ref 7), (1, .ref a), (2, .int (nI v)), (3, .long (lN (pu_pd P E hd v i))), (5, .int (nI i))] [] w (am_R (some (.long (lN (pu_wt P E n hd hv v)))) w) := by
  refine pu_up (P := fun i => am_Wp none m_T_product 3 0 0 21 [(0, .ref 7), (1, .ref a), (2, .int (nI v)), (3, .long (lN (pu_pd P E hd v i))), (5, .int (nI i))] [] w (am_R (some (.long (lN (pu_wt P E n hd hv v)))) w)) ?_ ?_
  · show am_Wp _ _ _ _ _ _ _ _ _ _
    refine wp_iload (q := 23) d_T_product_21 rfl rfl ?_
    refine wp_aload_n (q := 24) d_T_product_23 rfl rfl rfl ?_
    refine wp_getN (q := 27) (k := 0) d_T_product_24 rfl ok_G (Nat.le_of_ble_eq_true rfl) fk_T_37 hG.1 rfl ?_
    refine wp_icmp_ge (q := 30) (tgt := 72) d_T_product_27 (by decide) rfl (fun _ => ?_) (fun c27 => absurd (nI_le (Nat.le_refl n) (by omega)) c27)
    refine wp_lload_n (q := 73) d_T_product_72 rfl rfl rfl ?_
    exact wp_lreturn rfl d_T_product_73 ⟨by unfold pu_wt; rw [if_pos h0], rfl⟩
  · intro i hi ih
    have ih : am_Wp _ _ _ _ _ _ _ _ _ _ := ih
    show am_Wp _ _ _ _ _ _ _ _ _ _
    refine wp_iload (q := 23) d_T_product_21 rfl rfl ?_
    refine wp_aload_n (q := 24) d_T_product_23 rfl rfl rfl ?_
    refine wp_getN (q := 27) (k := 0) d_T_product_24 rfl ok_G (Nat.le_of_ble_eq_true rfl) fk_T_37 hG.1 rfl ?_
    refine wp_icmp_ge (q := 30) (tgt := 72) d_T_product_27 (by decide) rfl (fun c27 => absurd c27 (nI_ge hi (by omega))) (fun _ => ?_)
    refine wp_lload_n (q := 31) d_T_product_30 rfl rfl rfl ?_
    refine wp_lconst (q := 32) (v := 0) d_T_product_31 rfl (by decide) ?_
    refine wp_lcmp (q := 33) d_T_product_32 rfl ?_
    refine wp_if_eq (q := 36) (tgt := 72) d_T_product_33 (by decide) rfl (fun c33 => ?_) (fun c33 => ?_)
    · have hb := pu_pd_le (P := P) hE hd v i
      have hb2 : 8 ^ i ≤ 8 ^ 8 := Nat.pow_le_pow_right (by decide) (by omega)
      have hz : pu_pd P E hd v i = 0 := (pk_lEQ (by omega) (by decide)).mp ((lg_cmp0.mp c33).trans (show (0 : Int64) = lN 0 from rfl))
      have hz2 : pu_pd P E hd v n = 0 := by rw [show n = i + (n - i) by omega]; exact pu_pd_0 hz _
      refine wp_lload_n (q := 73) d_T_product_72 rfl rfl rfl ?_
      exact wp_lreturn rfl d_T_product_73 ⟨by unfold pu_wt; rw [if_pos h0, hz, hz2], rfl⟩
    · refine wp_lload_n (q := 37) d_T_product_36 rfl rfl rfl ?_
      refine wp_aload_n (q := 38) d_T_product_37 rfl rfl rfl ?_
      refine wp_get (q := 41) (k := 1) d_T_product_38 rfl ok_T (Nat.le_of_ble_eq_true rfl) fk_T_16 hT.1 rfl ?_
      refine wp_iload (q := 43) d_T_product_41 rfl rfl ?_
      refine wp_cSN2r (q := 46) d_T_product_43 rfl bd_X_has lk_T_33 sm_X_has (Nat.le_of_ble_eq_true rfl) (Nat.le_of_ble_eq_true rfl) (Nat.le_of_ble_eq_true rfl) (c_has (by omega) (by omega)) ?_
      refine wp_if_eq (q := 49) (tgt := 55) d_T_product_46 (by decide) rfl (fun c46 => ?_) (fun c46 => ?_)
      · refine wp_aload_n (q := 56) d_T_product_55 rfl rfl rfl ?_
        refine wp_aload_n (q := 57) d_T_product_56 rfl rfl rfl ?_
        refine wp_iload (q := 59) d_T_product_57 rfl rfl ?_
        refine wp_iload_n (q := 60) d_T_product_59 rfl rfl rfl ?_
        refine wp_cV3r (q := 63) d_T_product_60 rfl bd_T_factor lk_T_44 im_T_factor se_T_factor rfl (Nat.le_of_ble_eq_true rfl) (Nat.le_of_ble_eq_true rfl) hT.1 (Nat.le_of_ble_eq_true rfl) (c_T_factor hT hG hP hE (by omega) hv0 (hrow i hi)) ?_
        refine wp_i2l (q := 64) d_T_product_63 rfl ?_
        refine wp_lmul (q := 65) d_T_product_64 rfl ?_
        rw [nI_l (by have := pu_fac_le (P := P) hE i v; omega), lN_mul]
        refine wp_lstore_n (q := 66) d_T_product_65 rfl rfl (Nat.le_of_ble_eq_true rfl) rfl ?_
        refine wp_inc1 (q := 69) d_T_product_66 rfl rfl (nI_1 _) (Nat.le_of_ble_eq_true rfl) rfl ?_
        refine wp_goto (tgt := 21) d_T_product_69 (by decide) ?_
        have e : pu_pd P E hd v (i + 1) = pu_pd P E hd v i * pu_fac P E i v := by simp [pu_pd, pu_b0.mp c46]
        rw [e] at ih
        exact ih
      · refine wp_ldc2 (q := 52) d_T_product_49 rfl kk_T_42 ?_
        refine wp_goto (tgt := 64) d_T_product_52 (by decide) ?_
        refine wp_lmul (q := 65) d_T_product_64 rfl ?_
        rw [show (8 : Int64) = lN 8 from rfl, lN_mul]
        refine wp_lstore_n (q := 66) d_T_product_65 rfl rfl (Nat.le_of_ble_eq_true rfl) rfl ?_
        refine wp_inc1 (q := 69) d_T_product_66 rfl rfl (nI_1 _) (Nat.le_of_ble_eq_true rfl) rfl ?_
        refine wp_goto (tgt := 21) d_T_product_69 (by decide) ?_
        have e : pu_pd P E hd v (i + 1) = pu_pd P E hd v i * 8 := by simp [pu_pd, pu_b1 c46]
        rw [e] at ih
        exact ih
set_option maxHeartbeats 4000000 in
set_option maxRecDepth 100000 in
theorem c_T_product {w : am_W} {hd hv : Nat} {E : Nat → Nat → Nat} (hT : TI hd hv E w) {a p c n k : Nat} {P C : Nat → Nat} (hG : GI a p c n k P C w) (hn : n ≤ 8) (h1 : hd < 256) (h2 : hv < 256) (hP : ∀ i, P i < 256) (hE : ∀ i j, E i j ≤ 8) {v : Nat} (hv0 : v < 256) (hrow : ∀ i, i < n → pu_rv (P i) v 8 < 128) : am_Wp none m_T_product 3 0 0 0 [(0, .ref 7), (1, .ref a), (2, .int (nI v))] [] w (am_R (some (.long (lN (pu_wt P E n hd hv v)))) w) := by
  refine wp_iload_n (q := 1) d_T_product_0 rfl rfl rfl ?_
  refine wp_aload_n (q := 2) d_T_product_1 rfl rfl rfl ?_
  refine wp_get (q := 5) (k := 2) d_T_product_2 rfl ok_T (Nat.le_of_ble_eq_true rfl) fk_T_20 hT.1 rfl ?_
  refine wp_ixor (q := 6) d_T_product_5 rfl ?_
  refine wp_aload_n (q := 7) d_T_product_6 rfl rfl rfl ?_
  refine wp_get (q := 10) (k := 1) d_T_product_7 rfl ok_T (Nat.le_of_ble_eq_true rfl) fk_T_16 hT.1 rfl ?_
  refine wp_iand (q := 11) d_T_product_10 rfl ?_
  refine wp_if_eq (q := 14) (tgt := 16) d_T_product_11 (by decide) rfl (fun c11 => ?_) (fun c11 => ?_)
  · rw [pu_xor, pu_and] at c11
    have h0 : (v ^^^ hv) &&& hd = 0 := pu_nI_inj (Nat.lt_of_le_of_lt Nat.and_le_right (by omega)) (by decide) (c11.trans nI_0.symm)
    refine wp_lconst (q := 17) (v := 1) d_T_product_16 rfl (by decide) ?_
    refine wp_lstore_n (q := 18) d_T_product_17 rfl rfl (Nat.le_of_ble_eq_true rfl) rfl ?_
    refine wp_iconst (q := 19) (v := 0) d_T_product_18 rfl (by decide) ?_
    refine wp_istore (q := 21) d_T_product_19 rfl (Nat.le_of_ble_eq_true rfl) rfl ?_
    exact c_T_product_L hT hG hn h1 h2 hP hE hv0 hrow h0 0 (Nat.zero_le _)
  · rw [pu_xor, pu_and] at c11
    have h0 : ¬ (v ^^^ hv) &&& hd = 0 := fun e => c11 (by rw [e]; exact nI_0)
    refine wp_lconst (q := 15) (v := 0) d_T_product_14 rfl (by decide) ?_
    exact wp_lreturn rfl d_T_product_15 ⟨by unfold pu_wt; rw [if_neg h0]; rfl, rfl⟩
set_option maxHeartbeats 4000000 in
set_option maxRecDepth 100000 in
theorem c_V_lookAt_L {w : am_W} {x1 x2 x3 x4 x5 x6 : Int32} (hV : w[17]? = some (.inr (5, [.ref 18, .ref 19, .int x1, .int x2, .int x3, .int x4, .int x5, .int x6]))) {a p c n k : Nat} {P C : Nat → Nat} (hG : GI a p c n k P C w) (ha : a < 17) (hp : p < 17) (hc0 : c < 17) {ni no : Nat} (h1 : ni < 256) (h2 : no < 256) {f1 f2 : Nat → Int32} : ∀ i, i ≤ 8 → ∀ w1, am_fr [18, 19] w w1 → w1[18]? = some (.inl (0, 8, .inl (pu_mx (pu_gi P ni no) f1 i))) → w1[19]? = some (.inl (0, 8, .inl (pu_mx (pu_go C ni no) f2 i))) → am_Wp none m_V_lookAt 1 0 0 3 [(0, .ref 17), (1, .ref a), (2, .int (nI ni)), (3, .int (nI no)), (4, .int (nI i))] [] w1 (fun v w1 => v = none ∧ am_fr [18, 19] w w1 ∧ VI (pu_gi P ni no) (pu_go C ni no) w1) := by
  refine pu_up (P := fun i => ∀ w1, am_fr [18, 19] w w1 → w1[18]? = some (.inl (0, 8, .inl (pu_mx (pu_gi P ni no) f1 i))) → w1[19]? = some (.inl (0, 8, .inl (pu_mx (pu_go C ni no) f2 i))) → am_Wp none m_V_lookAt 1 0 0 3 [(0, .ref 17), (1, .ref a), (2, .int (nI ni)), (3, .int (nI no)), (4, .int (nI i))] [] w1 (fun v w1 => v = none ∧ am_fr [18, 19] w w1 ∧ VI (pu_gi P ni no) (pu_go C ni no) w1)) ?_ ?_
  · intro w1 fr h18 h19
    have hG1 : GI a p c n k P C w1 := hG.at fr (by simp; omega) (by simp; omega) (by simp; omega)
    have hV1 := fr.at (by decide) hV
    refine wp_iload (q := 5) d_V_lookAt_3 rfl rfl ?_
    refine wp_bipush (q := 7) (v := 8) d_V_lookAt_5 rfl (by decide) ?_
    refine wp_icmp_ge (q := 10) (tgt := 78) d_V_lookAt_7 (by decide) rfl (fun _ => ?_) (fun c7 => absurd (nI_le (a := 8) (b := 8) (by decide) (by decide)) c7)
    refine wp_chg (g := fun j => nI (pu_gi P ni no j)) h18 (fun j hj => by simp [pu_mx, hj]) rfl ?_
    refine wp_chg (g := fun j => nI (pu_go C ni no j)) (am_at_ne (by decide) h19) (fun j hj => by simp [pu_mx, hj]) rfl ?_
    exact wp_return rfl d_V_lookAt_78 ⟨rfl, (fr.put (by simp)).put (by simp), am_at_ne (by decide) (am_at_eq h18), am_at_eq (am_at_ne (by decide) h19)⟩
  · intro i hi ih w1 fr h18 h19
    have hG1 : GI a p c n k P C w1 := hG.at fr (by simp; omega) (by simp; omega) (by simp; omega)
    have hV1 := fr.at (by decide) hV
    refine wp_iload (q := 5) d_V_lookAt_3 rfl rfl ?_
    refine wp_bipush (q := 7) (v := 8) d_V_lookAt_5 rfl (by decide) ?_
    refine wp_icmp_ge (q := 10) (tgt := 78) d_V_lookAt_7 (by decide) rfl (fun c7 => absurd c7 (nI_ge (b := 8) hi (by decide))) (fun _ => ?_)
    refine wp_aload_n (q := 11) d_V_lookAt_10 rfl rfl rfl ?_
    refine wp_get (q := 14) (k := 0) d_V_lookAt_11 rfl ok_V (Nat.le_of_ble_eq_true rfl) fk_V_9 hV1 rfl ?_
    refine wp_iload (q := 16) d_V_lookAt_14 rfl rfl ?_
    refine wp_iload_n (q := 17) d_V_lookAt_16 rfl rfl rfl ?_
    refine wp_iload (q := 19) d_V_lookAt_17 rfl rfl ?_
    refine wp_cSN2r (q := 22) d_V_lookAt_19 rfl bd_X_has lk_V_37 sm_X_has (Nat.le_of_ble_eq_true rfl) (Nat.le_of_ble_eq_true rfl) (Nat.le_of_ble_eq_true rfl) (c_has (by omega) (by omega)) ?_
    refine wp_if_eq (q := 25) (tgt := 29) d_V_lookAt_22 (by decide) rfl (fun c22 => ?_) (fun c22 => ?_)
    · refine wp_aload_n (q := 30) d_V_lookAt_29 rfl rfl rfl ?_
      refine wp_getN (q := 33) (k := 2) d_V_lookAt_30 rfl ok_G (Nat.le_of_ble_eq_true rfl) fk_V_41 hG1.1 rfl ?_
      refine wp_iload (q := 35) d_V_lookAt_33 rfl rfl ?_
      refine wp_ialoadN (q := 36) d_V_lookAt_35 rfl hG1.2.1 rfl hi (by decide) ?_
      refine wp_iload_n (q := 37) d_V_lookAt_36 rfl rfl rfl ?_
      refine wp_iconst (q := 38) (v := -1) d_V_lookAt_37 rfl (by decide) ?_
      refine wp_ixor (q := 39) d_V_lookAt_38 rfl ?_
      refine wp_iand (q := 40) d_V_lookAt_39 rfl ?_
      have e18 : nI (P i) &&& (nI no ^^^ (-1)) = nI (pu_gi P ni no i) := by unfold pu_gi; rw [if_neg (by rw [pu_b0.mp c22]; decide), pu_not]
      rw [e18]
      refine wp_iastoreN (q := 41) d_V_lookAt_40 rfl h18 rfl hi (by decide) rfl ?_
      refine wp_aload_n (q := 42) d_V_lookAt_41 rfl rfl rfl ?_
      refine wp_get (q := 45) (k := 1) d_V_lookAt_42 rfl ok_V (Nat.le_of_ble_eq_true rfl) fk_V_15 (am_at_ne (by decide) hV1) rfl ?_
      refine wp_iload (q := 47) d_V_lookAt_45 rfl rfl ?_
      refine wp_iload_n (q := 48) d_V_lookAt_47 rfl rfl rfl ?_
      refine wp_iload (q := 50) d_V_lookAt_48 rfl rfl ?_
      refine wp_cSN2r (q := 53) d_V_lookAt_50 rfl bd_X_has lk_V_37 sm_X_has (Nat.le_of_ble_eq_true rfl) (Nat.le_of_ble_eq_true rfl) (Nat.le_of_ble_eq_true rfl) (c_has (by omega) (by omega)) ?_
      refine wp_if_eq (q := 56) (tgt := 60) d_V_lookAt_53 (by decide) rfl (fun c53 => ?_) (fun c53 => ?_)
      · refine wp_aload_n (q := 61) d_V_lookAt_60 rfl rfl rfl ?_
        refine wp_getN (q := 64) (k := 3) d_V_lookAt_61 rfl ok_G (Nat.le_of_ble_eq_true rfl) fk_V_46 (am_at_ne (by omega) hG1.1) rfl ?_
        refine wp_iload (q := 66) d_V_lookAt_64 rfl rfl ?_
        refine wp_ialoadN (q := 67) d_V_lookAt_66 rfl (am_at_ne (by omega) hG1.2.2) rfl hi (by decide) ?_
        refine wp_iload_n (q := 68) d_V_lookAt_67 rfl rfl rfl ?_
        refine wp_iconst (q := 69) (v := -1) d_V_lookAt_68 rfl (by decide) ?_
        refine wp_ixor (q := 70) d_V_lookAt_69 rfl ?_
        refine wp_iand (q := 71) d_V_lookAt_70 rfl ?_
        have e19 : nI (C i) &&& (nI ni ^^^ (-1)) = nI (pu_go C ni no i) := by unfold pu_go; rw [if_neg (by rw [pu_b0.mp c53]; decide), pu_not]
        rw [e19]
        refine wp_iastoreN (q := 72) d_V_lookAt_71 rfl (am_at_ne (by decide) h19) rfl hi (by decide) rfl ?_
        refine wp_inc1 (q := 75) d_V_lookAt_72 rfl rfl (nI_1 _) (Nat.le_of_ble_eq_true rfl) rfl ?_
        refine wp_goto (tgt := 3) d_V_lookAt_75 (by decide) ?_
        rw [pu_mx_s, pu_mx_s]
        exact ih _ ((fr.put (by simp)).put (by simp)) (am_at_ne (by decide) (am_at_eq h18)) (am_at_eq (am_at_ne (by decide) h19))
      · refine wp_iconst (q := 57) (v := 0) d_V_lookAt_56 rfl (by decide) ?_
        refine wp_goto (tgt := 71) d_V_lookAt_57 (by decide) ?_
        have e19 : (0 : Int32) = nI (pu_go C ni no i) := by unfold pu_go; rw [if_pos (pu_b1 c53)]; rfl
        rw [e19]
        refine wp_iastoreN (q := 72) d_V_lookAt_71 rfl (am_at_ne (by decide) h19) rfl hi (by decide) rfl ?_
        refine wp_inc1 (q := 75) d_V_lookAt_72 rfl rfl (nI_1 _) (Nat.le_of_ble_eq_true rfl) rfl ?_
        refine wp_goto (tgt := 3) d_V_lookAt_75 (by decide) ?_
        rw [pu_mx_s, pu_mx_s]
        exact ih _ ((fr.put (by simp)).put (by simp)) (am_at_ne (by decide) (am_at_eq h18)) (am_at_eq (am_at_ne (by decide) h19))
    · refine wp_iconst (q := 26) (v := 0) d_V_lookAt_25 rfl (by decide) ?_
      refine wp_goto (tgt := 40) d_V_lookAt_26 (by decide) ?_
      have e18 : (0 : Int32) = nI (pu_gi P ni no i) := by unfold pu_gi; rw [if_pos (pu_b1 c22)]; rfl
      rw [e18]
      refine wp_iastoreN (q := 41) d_V_lookAt_40 rfl h18 rfl hi (by decide) rfl ?_
      refine wp_aload_n (q := 42) d_V_lookAt_41 rfl rfl rfl ?_
      refine wp_get (q := 45) (k := 1) d_V_lookAt_42 rfl ok_V (Nat.le_of_ble_eq_true rfl) fk_V_15 (am_at_ne (by decide) hV1) rfl ?_
      refine wp_iload (q := 47) d_V_lookAt_45 rfl rfl ?_
      refine wp_iload_n (q := 48) d_V_lookAt_47 rfl rfl rfl ?_
      refine wp_iload (q := 50) d_V_lookAt_48 rfl rfl ?_
      refine wp_cSN2r (q := 53) d_V_lookAt_50 rfl bd_X_has lk_V_37 sm_X_has (Nat.le_of_ble_eq_true rfl) (Nat.le_of_ble_eq_true rfl) (Nat.le_of_ble_eq_true rfl) (c_has (by omega) (by omega)) ?_
      refine wp_if_eq (q := 56) (tgt := 60) d_V_lookAt_53 (by decide) rfl (fun c53 => ?_) (fun c53 => ?_)
      · refine wp_aload_n (q := 61) d_V_lookAt_60 rfl rfl rfl ?_
        refine wp_getN (q := 64) (k := 3) d_V_lookAt_61 rfl ok_G (Nat.le_of_ble_eq_true rfl) fk_V_46 (am_at_ne (by omega) hG1.1) rfl ?_
        refine wp_iload (q := 66) d_V_lookAt_64 rfl rfl ?_
        refine wp_ialoadN (q := 67) d_V_lookAt_66 rfl (am_at_ne (by omega) hG1.2.2) rfl hi (by decide) ?_
        refine wp_iload_n (q := 68) d_V_lookAt_67 rfl rfl rfl ?_
        refine wp_iconst (q := 69) (v := -1) d_V_lookAt_68 rfl (by decide) ?_
        refine wp_ixor (q := 70) d_V_lookAt_69 rfl ?_
        refine wp_iand (q := 71) d_V_lookAt_70 rfl ?_
        have e19 : nI (C i) &&& (nI ni ^^^ (-1)) = nI (pu_go C ni no i) := by unfold pu_go; rw [if_neg (by rw [pu_b0.mp c53]; decide), pu_not]
        rw [e19]
        refine wp_iastoreN (q := 72) d_V_lookAt_71 rfl (am_at_ne (by decide) h19) rfl hi (by decide) rfl ?_
        refine wp_inc1 (q := 75) d_V_lookAt_72 rfl rfl (nI_1 _) (Nat.le_of_ble_eq_true rfl) rfl ?_
        refine wp_goto (tgt := 3) d_V_lookAt_75 (by decide) ?_
        rw [pu_mx_s, pu_mx_s]
        exact ih _ ((fr.put (by simp)).put (by simp)) (am_at_ne (by decide) (am_at_eq h18)) (am_at_eq (am_at_ne (by decide) h19))
      · refine wp_iconst (q := 57) (v := 0) d_V_lookAt_56 rfl (by decide) ?_
        refine wp_goto (tgt := 71) d_V_lookAt_57 (by decide) ?_
        have e19 : (0 : Int32) = nI (pu_go C ni no i) := by unfold pu_go; rw [if_pos (pu_b1 c53)]; rfl
        rw [e19]
        refine wp_iastoreN (q := 72) d_V_lookAt_71 rfl (am_at_ne (by decide) h19) rfl hi (by decide) rfl ?_
        refine wp_inc1 (q := 75) d_V_lookAt_72 rfl rfl (nI_1 _) (Nat.le_of_ble_eq_true rfl) rfl ?_
        refine wp_goto (tgt := 3) d_V_lookAt_75 (by decide) ?_
        rw [pu_mx_s, pu_mx_s]
        exact ih _ ((fr.put (by simp)).put (by simp)) (am_at_ne (by decide) (am_at_eq h18)) (am_at_eq (am_at_ne (by decide) h19))
set_option maxHeartbeats 4000000 in
set_option maxRecDepth 100000 in
theorem c_V_lookAt {w : am_W} {x1 x2 x3 x4 x5 x6 : Int32} (hV : w[17]? = some (.inr (5, [.ref 18, .ref 19, .int x1, .int x2, .int x3, .int x4, .int x5, .int x6]))) {a p c n k : Nat} {P C : Nat → Nat} (hG : GI a p c n k P C w) (ha : a < 17) (hp : p < 17) (hc0 : c < 17) {ni no : Nat} (h1 : ni < 256) (h2 : no < 256) {f1 f2 : Nat → Int32} (h18 : w[18]? = some (.inl (0, 8, .inl f1))) (h19 : w[19]? = some (.inl (0, 8, .inl f2))) : am_Wp none m_V_lookAt 1 0 0 0 [(0, .ref 17), (1, .ref a), (2, .int (nI ni)), (3, .int (nI no))] [] w (fun v w1 => v = none ∧ am_fr [18, 19] w w1 ∧ VI (pu_gi P ni no) (pu_go C ni no) w1) := by
  refine wp_iconst (q := 1) (v := 0) d_V_lookAt_0 rfl (by decide) ?_
  refine wp_istore (q := 3) d_V_lookAt_1 rfl (Nat.le_of_ble_eq_true rfl) rfl ?_
  exact c_V_lookAt_L hV hG ha hp hc0 h1 h2 0 (Nat.zero_le _) w am_fr.rf (by rw [pu_mx_0]; exact h18) (by rw [pu_mx_0]; exact h19)
set_option maxHeartbeats 4000000 in
set_option maxRecDepth 100000 in
theorem c_V_below {w : am_W} {x1 x2 x3 x4 x5 x6 : Int32} (hV : w[17]? = some (.inr (5, [.ref 18, .ref 19, .int x1, .int x2, .int x3, .int x4, .int x5, .int x6]))) {gi go : Nat → Nat} (hI : VI gi go w) (hgi : ∀ i, gi i < 256) (hgo : ∀ i, go i < 256) {i : Nat} (hi : i < 8) : am_Wp none m_V_below 3 0 0 0 [(0, .ref 17), (1, .int (nI i))] [] w (am_R (some (.int (nI (pu_cl go 8 8 (go i))))) w) := by
  refine wp_aload_n (q := 1) d_V_below_0 rfl rfl rfl ?_
  refine wp_get (q := 4) (k := 1) d_V_below_1 rfl ok_V (Nat.le_of_ble_eq_true rfl) fk_V_15 hV rfl ?_
  refine wp_aload_n (q := 5) d_V_below_4 rfl rfl rfl ?_
  refine wp_get (q := 8) (k := 1) d_V_below_5 rfl ok_V (Nat.le_of_ble_eq_true rfl) fk_V_15 hV rfl ?_
  refine wp_iload_n (q := 9) d_V_below_8 rfl rfl rfl ?_
  refine wp_ialoadN (q := 10) d_V_below_9 rfl hI.2 rfl hi (by decide) ?_
  refine wp_cSN2r (q := 13) d_V_below_10 rfl bd_X_closure lk_V_49 sm_X_closure (Nat.le_of_ble_eq_true rfl) (Nat.le_of_ble_eq_true rfl) (Nat.le_of_ble_eq_true rfl) (c_closure hI.2 (by decide) hgo (hgo i)) ?_
  exact wp_ireturn rfl d_V_below_13 ⟨rfl, rfl⟩
set_option maxHeartbeats 4000000 in
set_option maxRecDepth 100000 in
theorem c_V_start {w : am_W} {x1 x2 x3 x4 x5 x6 : Int32} (hV : w[17]? = some (.inr (5, [.ref 18, .ref 19, .int x1, .int x2, .int x3, .int x4, .int x5, .int x6]))) {gi go : Nat → Nat} (hI : VI gi go w) (hgi : ∀ i, gi i < 256) (hgo : ∀ i, go i < 256) {i s : Nat} (hi : i < 8) (hs : s < 256) : am_Wp none m_V_start 3 0 0 0 [(0, .ref 17), (1, .int (nI i)), (2, .int (nI s))] [] w (am_R none (w.set 17 (.inr (5, [.ref 18, .ref 19, .int (nI (s)), .int (nI (pu_cl gi 8 8 s)), .int (nI (go i)), .int (nI (gi i)), .int (nI (go i)), .int (nI (gi i))])))) := by
  refine wp_aload_n (q := 1) d_V_start_0 rfl rfl rfl ?_
  refine wp_iload_n (q := 2) d_V_start_1 rfl rfl rfl ?_
  refine wp_put (q := 5) (k := 2) d_V_start_2 rfl ok_V (Nat.le_of_ble_eq_true rfl) fk_V_18 rfl am_fit_i hV (Nat.le_of_ble_eq_true rfl) rfl ?_
  refine wp_aload_n (q := 6) d_V_start_5 rfl rfl rfl ?_
  refine wp_aload_n (q := 7) d_V_start_6 rfl rfl rfl ?_
  refine wp_get (q := 10) (k := 0) d_V_start_7 rfl ok_V (Nat.le_of_ble_eq_true rfl) fk_V_9 (am_at_eq hV) rfl ?_
  refine wp_iload_n (q := 11) d_V_start_10 rfl rfl rfl ?_
  refine wp_cSN2r (q := 14) d_V_start_11 rfl bd_X_closure lk_V_49 sm_X_closure (Nat.le_of_ble_eq_true rfl) (Nat.le_of_ble_eq_true rfl) (Nat.le_of_ble_eq_true rfl) (c_closure (am_at_ne (by decide) hI.1) (by decide) hgi hs) ?_
  refine wp_put (q := 17) (k := 3) d_V_start_14 rfl ok_V (Nat.le_of_ble_eq_true rfl) fk_V_22 rfl am_fit_i (am_at_eq hV) (Nat.le_of_ble_eq_true rfl) rfl ?_
  refine wp_aload_n (q := 18) d_V_start_17 rfl rfl rfl ?_
  refine wp_aload_n (q := 19) d_V_start_18 rfl rfl rfl ?_
  refine wp_get (q := 22) (k := 1) d_V_start_19 rfl ok_V (Nat.le_of_ble_eq_true rfl) fk_V_15 (am_at_eq (am_at_eq hV)) rfl ?_
  refine wp_iload_n (q := 23) d_V_start_22 rfl rfl rfl ?_
  refine wp_ialoadN (q := 24) d_V_start_23 rfl (am_at_ne (by decide) (am_at_ne (by decide) hI.2)) rfl hi (by decide) ?_
  refine wp_put (q := 27) (k := 4) d_V_start_24 rfl ok_V (Nat.le_of_ble_eq_true rfl) fk_V_25 rfl am_fit_i (am_at_eq (am_at_eq hV)) (Nat.le_of_ble_eq_true rfl) rfl ?_
  refine wp_aload_n (q := 28) d_V_start_27 rfl rfl rfl ?_
  refine wp_aload_n (q := 29) d_V_start_28 rfl rfl rfl ?_
  refine wp_get (q := 32) (k := 0) d_V_start_29 rfl ok_V (Nat.le_of_ble_eq_true rfl) fk_V_9 (am_at_eq (am_at_eq (am_at_eq hV))) rfl ?_
  refine wp_iload_n (q := 33) d_V_start_32 rfl rfl rfl ?_
  refine wp_ialoadN (q := 34) d_V_start_33 rfl (am_at_ne (by decide) (am_at_ne (by decide) (am_at_ne (by decide) hI.1))) rfl hi (by decide) ?_
  refine wp_put (q := 37) (k := 5) d_V_start_34 rfl ok_V (Nat.le_of_ble_eq_true rfl) fk_V_28 rfl am_fit_i (am_at_eq (am_at_eq (am_at_eq hV))) (Nat.le_of_ble_eq_true rfl) rfl ?_
  refine wp_aload_n (q := 38) d_V_start_37 rfl rfl rfl ?_
  refine wp_aload_n (q := 39) d_V_start_38 rfl rfl rfl ?_
  refine wp_get (q := 42) (k := 4) d_V_start_39 rfl ok_V (Nat.le_of_ble_eq_true rfl) fk_V_25 (am_at_eq (am_at_eq (am_at_eq (am_at_eq hV)))) rfl ?_
  refine wp_put (q := 45) (k := 6) d_V_start_42 rfl ok_V (Nat.le_of_ble_eq_true rfl) fk_V_31 rfl am_fit_i (am_at_eq (am_at_eq (am_at_eq (am_at_eq hV)))) (Nat.le_of_ble_eq_true rfl) rfl ?_
  refine wp_aload_n (q := 46) d_V_start_45 rfl rfl rfl ?_
  refine wp_aload_n (q := 47) d_V_start_46 rfl rfl rfl ?_
  refine wp_get (q := 50) (k := 5) d_V_start_47 rfl ok_V (Nat.le_of_ble_eq_true rfl) fk_V_28 (am_at_eq (am_at_eq (am_at_eq (am_at_eq (am_at_eq hV))))) rfl ?_
  refine wp_put (q := 53) (k := 7) d_V_start_50 rfl ok_V (Nat.le_of_ble_eq_true rfl) fk_V_34 rfl am_fit_i (am_at_eq (am_at_eq (am_at_eq (am_at_eq (am_at_eq hV))))) (Nat.le_of_ble_eq_true rfl) rfl ?_
  exact wp_return rfl d_V_start_53 ⟨rfl, by rw [List.set_set, List.set_set, List.set_set, List.set_set, List.set_set]; rfl⟩
set_option maxHeartbeats 4000000 in
set_option maxRecDepth 100000 in
theorem c_V_step {w : am_W} {g m0 na ng sa sg : Nat} (hV : VO g m0 na ng sa sg w) {gi go : Nat → Nat} (hI : VI gi go w) (hgi : ∀ i, gi i < 256) (hgo : ∀ i, go i < 256) (b1 : g < 256) (b2 : m0 < 256) (b3 : na < 256) (b4 : ng < 256) (b5 : sa < 256) (b6 : sg < 256) : am_Wp none m_V_step 2 0 0 0 [(0, .ref 17)] [] w (am_R none (w.set 17 (.inr (5, [.ref 18, .ref 19, .int (nI (g)), .int (nI (m0)), .int (nI (pu_na gi go g m0 na ng sa)), .int (nI (pu_ng gi go g m0 na ng sg)), .int (nI (sa ||| pu_na gi go g m0 na ng sa)), .int (nI (sg ||| pu_ng gi go g m0 na ng sg))])))) := by
  refine wp_aload_n (q := 1) d_V_step_0 rfl rfl rfl ?_
  refine wp_get (q := 4) (k := 5) d_V_step_1 rfl ok_V (Nat.le_of_ble_eq_true rfl) fk_V_28 hV rfl ?_
  refine wp_aload_n (q := 5) d_V_step_4 rfl rfl rfl ?_
  refine wp_get (q := 8) (k := 2) d_V_step_5 rfl ok_V (Nat.le_of_ble_eq_true rfl) fk_V_18 hV rfl ?_
  refine wp_iconst (q := 9) (v := -1) d_V_step_8 rfl (by decide) ?_
  refine wp_ixor (q := 10) d_V_step_9 rfl ?_
  refine wp_iand (q := 11) d_V_step_10 rfl ?_
  rw [pu_not]
  refine wp_istore_n (q := 12) d_V_step_11 rfl rfl (Nat.le_of_ble_eq_true rfl) rfl ?_
  refine wp_aload_n (q := 13) d_V_step_12 rfl rfl rfl ?_
  refine wp_get (q := 16) (k := 1) d_V_step_13 rfl ok_V (Nat.le_of_ble_eq_true rfl) fk_V_15 hV rfl ?_
  refine wp_iload_n (q := 17) d_V_step_16 rfl rfl rfl ?_
  refine wp_aload_n (q := 18) d_V_step_17 rfl rfl rfl ?_
  refine wp_get (q := 21) (k := 4) d_V_step_18 rfl ok_V (Nat.le_of_ble_eq_true rfl) fk_V_25 hV rfl ?_
  refine wp_aload_n (q := 22) d_V_step_21 rfl rfl rfl ?_
  refine wp_get (q := 25) (k := 2) d_V_step_22 rfl ok_V (Nat.le_of_ble_eq_true rfl) fk_V_18 hV rfl ?_
  refine wp_iconst (q := 26) (v := -1) d_V_step_25 rfl (by decide) ?_
  refine wp_ixor (q := 27) d_V_step_26 rfl ?_
  refine wp_iand (q := 28) d_V_step_27 rfl ?_
  rw [pu_not]
  refine wp_ior (q := 29) d_V_step_28 rfl ?_
  rw [pu_or]
  refine wp_cSN2r (q := 32) d_V_step_29 rfl bd_X_union lk_V_60 sm_X_union (Nat.le_of_ble_eq_true rfl) (Nat.le_of_ble_eq_true rfl) (Nat.le_of_ble_eq_true rfl) (c_union hI.2 (by decide) (Nat.lt_trans (pu_or_lt (pu_dif_lt b4) (pu_dif_lt b3)) (by decide))) ?_
  refine wp_aload_n (q := 33) d_V_step_32 rfl rfl rfl ?_
  refine wp_get (q := 36) (k := 6) d_V_step_33 rfl ok_V (Nat.le_of_ble_eq_true rfl) fk_V_31 hV rfl ?_
  refine wp_iconst (q := 37) (v := -1) d_V_step_36 rfl (by decide) ?_
  refine wp_ixor (q := 38) d_V_step_37 rfl ?_
  refine wp_iand (q := 39) d_V_step_38 rfl ?_
  rw [pu_not]
  refine wp_istore_n (q := 40) d_V_step_39 rfl rfl (Nat.le_of_ble_eq_true rfl) rfl ?_
  refine wp_aload_n (q := 41) d_V_step_40 rfl rfl rfl ?_
  refine wp_get (q := 44) (k := 0) d_V_step_41 rfl ok_V (Nat.le_of_ble_eq_true rfl) fk_V_9 hV rfl ?_
  refine wp_iload_n (q := 45) d_V_step_44 rfl rfl rfl ?_
  refine wp_aload_n (q := 46) d_V_step_45 rfl rfl rfl ?_
  refine wp_get (q := 49) (k := 4) d_V_step_46 rfl ok_V (Nat.le_of_ble_eq_true rfl) fk_V_25 hV rfl ?_
  refine wp_aload_n (q := 50) d_V_step_49 rfl rfl rfl ?_
  refine wp_get (q := 53) (k := 3) d_V_step_50 rfl ok_V (Nat.le_of_ble_eq_true rfl) fk_V_22 hV rfl ?_
  refine wp_iand (q := 54) d_V_step_53 rfl ?_
  rw [pu_and]
  refine wp_ior (q := 55) d_V_step_54 rfl ?_
  rw [pu_or]
  refine wp_cSN2r (q := 58) d_V_step_55 rfl bd_X_union lk_V_60 sm_X_union (Nat.le_of_ble_eq_true rfl) (Nat.le_of_ble_eq_true rfl) (Nat.le_of_ble_eq_true rfl) (c_union hI.1 (by decide) (Nat.lt_trans (pu_or_lt (pu_dif_lt b4) (pu_and_lt b3)) (by decide))) ?_
  refine wp_aload_n (q := 59) d_V_step_58 rfl rfl rfl ?_
  refine wp_get (q := 62) (k := 7) d_V_step_59 rfl ok_V (Nat.le_of_ble_eq_true rfl) fk_V_34 hV rfl ?_
  refine wp_iconst (q := 63) (v := -1) d_V_step_62 rfl (by decide) ?_
  refine wp_ixor (q := 64) d_V_step_63 rfl ?_
  refine wp_iand (q := 65) d_V_step_64 rfl ?_
  rw [pu_not]
  refine wp_istore_n (q := 66) d_V_step_65 rfl rfl (Nat.le_of_ble_eq_true rfl) rfl ?_
  refine wp_aload_n (q := 67) d_V_step_66 rfl rfl rfl ?_
  refine wp_iload_n (q := 68) d_V_step_67 rfl rfl rfl ?_
  refine wp_put (q := 71) (k := 4) d_V_step_68 rfl ok_V (Nat.le_of_ble_eq_true rfl) fk_V_25 rfl am_fit_i hV (Nat.le_of_ble_eq_true rfl) rfl ?_
  refine wp_aload_n (q := 72) d_V_step_71 rfl rfl rfl ?_
  refine wp_iload_n (q := 73) d_V_step_72 rfl rfl rfl ?_
  refine wp_put (q := 76) (k := 5) d_V_step_73 rfl ok_V (Nat.le_of_ble_eq_true rfl) fk_V_28 rfl am_fit_i (am_at_eq hV) (Nat.le_of_ble_eq_true rfl) rfl ?_
  refine wp_aload_n (q := 77) d_V_step_76 rfl rfl rfl ?_
  refine wp_dup (q := 78) d_V_step_77 rfl rfl ?_
  refine wp_get (q := 81) (k := 6) d_V_step_78 rfl ok_V (Nat.le_of_ble_eq_true rfl) fk_V_31 (am_at_eq (am_at_eq hV)) rfl ?_
  refine wp_iload_n (q := 82) d_V_step_81 rfl rfl rfl ?_
  refine wp_ior (q := 83) d_V_step_82 rfl ?_
  rw [pu_or]
  refine wp_put (q := 86) (k := 6) d_V_step_83 rfl ok_V (Nat.le_of_ble_eq_true rfl) fk_V_31 rfl am_fit_i (am_at_eq (am_at_eq hV)) (Nat.le_of_ble_eq_true rfl) rfl ?_
  refine wp_aload_n (q := 87) d_V_step_86 rfl rfl rfl ?_
  refine wp_dup (q := 88) d_V_step_87 rfl rfl ?_
  refine wp_get (q := 91) (k := 7) d_V_step_88 rfl ok_V (Nat.le_of_ble_eq_true rfl) fk_V_34 (am_at_eq (am_at_eq (am_at_eq hV))) rfl ?_
  refine wp_iload_n (q := 92) d_V_step_91 rfl rfl rfl ?_
  refine wp_ior (q := 93) d_V_step_92 rfl ?_
  rw [pu_or]
  refine wp_put (q := 96) (k := 7) d_V_step_93 rfl ok_V (Nat.le_of_ble_eq_true rfl) fk_V_34 rfl am_fit_i (am_at_eq (am_at_eq (am_at_eq hV))) (Nat.le_of_ble_eq_true rfl) rfl ?_
  exact wp_return rfl d_V_step_96 ⟨rfl, by rw [List.set_set, List.set_set, List.set_set]; rfl⟩
set_option maxHeartbeats 4000000 in
set_option maxRecDepth 100000 in
theorem c_V_shortest_L {gi go : Nat → Nat} (hgi : ∀ i, gi i < 256) (hgo : ∀ i, go i < 256) {y1 y3 : Int32} {g m0 b : Nat} (hb : b < 8) : ∀ (k j na ng sa sg : Nat) {w : am_W}, j + k = 17 → VO g m0 na ng sa sg w → VI gi go w → g < 256 → m0 < 256 → na < 256 → ng < 256 → sa < 256 → sg < 256 → am_Wp none m_V_shortest 3 0 0 9 [(0, .ref 17), (1, .int y1), (2, .int (nI b)), (3, .int y3), (4, .int (nI j))] [] w (fun v w1 => v = some (.int (pu_sw gi go g m0 b k j na ng sa sg)) ∧ am_fr [17] w w1 ∧ VS w1) := by
  intro k
  induction k with
  | zero =>
    intro j na ng sa sg w hj hV hI b1 b2 b3 b4 b5 b6
    refine wp_iload (q := 11) d_V_shortest_9 rfl rfl ?_
    refine wp_bipush (q := 13) (v := 16) d_V_shortest_11 rfl (by decide) ?_
    refine wp_icmp_gt (q := 16) (tgt := 45) d_V_shortest_13 (by decide) rfl (fun _ => ?_) (fun c13 => absurd (by rw [show j = 17 by omega]; decide) c13)
    refine wp_iconst (q := 46) (v := -1) d_V_shortest_45 rfl (by decide) ?_
    exact wp_ireturn rfl d_V_shortest_46 ⟨rfl, am_fr.rf, ⟨⟨_, _, _, _, _, _, hV⟩, ⟨_, hI.1⟩, _, hI.2⟩⟩
  | succ k ih =>
    intro j na ng sa sg w hj hV hI b1 b2 b3 b4 b5 b6
    refine wp_iload (q := 11) d_V_shortest_9 rfl rfl ?_
    refine wp_bipush (q := 13) (v := 16) d_V_shortest_11 rfl (by decide) ?_
    refine wp_icmp_gt (q := 16) (tgt := 45) d_V_shortest_13 (by decide) rfl (fun c13 => absurd c13 (by rw [show (16 : Int32) = nI 16 from rfl]; exact nI_nlt (by omega) (by decide))) (fun _ => ?_)
    refine wp_aload_n (q := 17) d_V_shortest_16 rfl rfl rfl ?_
    refine wp_get (q := 20) (k := 4) d_V_shortest_17 rfl ok_V (Nat.le_of_ble_eq_true rfl) fk_V_25 hV rfl ?_
    refine wp_aload_n (q := 21) d_V_shortest_20 rfl rfl rfl ?_
    refine wp_get (q := 24) (k := 5) d_V_shortest_21 rfl ok_V (Nat.le_of_ble_eq_true rfl) fk_V_28 hV rfl ?_
    refine wp_ior (q := 25) d_V_shortest_24 rfl ?_
    rw [pu_or]
    refine wp_iload_n (q := 26) d_V_shortest_25 rfl rfl rfl ?_
    refine wp_cSN2r (q := 29) d_V_shortest_26 rfl bd_X_has lk_V_37 sm_X_has (Nat.le_of_ble_eq_true rfl) (Nat.le_of_ble_eq_true rfl) (Nat.le_of_ble_eq_true rfl) (c_has (Nat.lt_trans (pu_or_lt b3 b4) (by decide)) (by omega)) ?_
    refine wp_if_eq (q := 32) (tgt := 35) d_V_shortest_29 (by decide) rfl (fun c29 => ?_) (fun c29 => ?_)
    · refine wp_aload_n (q := 36) d_V_shortest_35 rfl rfl rfl ?_
      refine wp_cV0v (q := 39) d_V_shortest_36 rfl bd_V_step lk_V_57 im_V_step se_V_step rfl (Nat.le_of_ble_eq_true rfl) (Nat.le_of_ble_eq_true rfl) hV (Nat.le_of_ble_eq_true rfl) (c_V_step hV hI hgi hgo b1 b2 b3 b4 b5 b6) ?_
      refine wp_inc1 (q := 42) d_V_shortest_39 rfl rfl (nI_1 _) (Nat.le_of_ble_eq_true rfl) rfl ?_
      refine wp_goto (tgt := 9) d_V_shortest_42 (by decide) ?_
      have e : pu_sw gi go g m0 b (k + 1) j na ng sa sg = pu_sw gi go g m0 b k (j + 1) (pu_na gi go g m0 na ng sa) (pu_ng gi go g m0 na ng sg) (sa ||| pu_na gi go g m0 na ng sa) (sg ||| pu_ng gi go g m0 na ng sg) := by simp [pu_sw, pu_b0.mp c29]
      rw [e]
      refine wp_post (fun v w1 h => ⟨h.1, (am_fr.rf.put (by simp)).tr h.2.1, h.2.2⟩) (ih (j + 1) _ _ _ _ (by omega) (am_at_eq hV) (hI.at (am_fr.rf.put (D := [17]) (by simp)) (by decide) (by decide)) b1 b2 (pu_na_lt hgo _ _ _ _ _) (pu_ng_lt hgi _ _ _ _ _) (pu_or_lt b5 (pu_na_lt hgo _ _ _ _ _)) (pu_or_lt b6 (pu_ng_lt hgi _ _ _ _ _)))
    · refine wp_iload (q := 34) d_V_shortest_32 rfl rfl ?_
      exact wp_ireturn rfl d_V_shortest_34 ⟨by simp [pu_sw, pu_b1 c29], am_fr.rf, ⟨⟨_, _, _, _, _, _, hV⟩, ⟨_, hI.1⟩, _, hI.2⟩⟩
set_option maxHeartbeats 4000000 in
set_option maxRecDepth 100000 in
theorem c_V_shortest {w : am_W} {x1 x2 x3 x4 x5 x6 : Int32} (hV : w[17]? = some (.inr (5, [.ref 18, .ref 19, .int x1, .int x2, .int x3, .int x4, .int x5, .int x6]))) {gi go : Nat → Nat} (hI : VI gi go w) (hgi : ∀ i, gi i < 256) (hgo : ∀ i, go i < 256) {i b s : Nat} (hi : i < 8) (hb : b < 8) (hs : s < 256) : am_Wp none m_V_shortest 4 0 0 0 [(0, .ref 17), (1, .int (nI i)), (2, .int (nI b)), (3, .int (nI s))] [] w (fun v w1 => v = some (.int (pu_sw gi go s (pu_cl gi 8 8 s) b 16 1 (go i) (gi i) (go i) (gi i))) ∧ am_fr [17] w w1 ∧ VS w1) := by
  refine wp_aload_n (q := 1) d_V_shortest_0 rfl rfl rfl ?_
  refine wp_iload_n (q := 2) d_V_shortest_1 rfl rfl rfl ?_
  refine wp_iload_n (q := 3) d_V_shortest_2 rfl rfl rfl ?_
  refine wp_cV2v (q := 6) d_V_shortest_3 rfl bd_V_start lk_V_53 im_V_start se_V_start rfl (Nat.le_of_ble_eq_true rfl) (Nat.le_of_ble_eq_true rfl) hV (Nat.le_of_ble_eq_true rfl) (c_V_start hV hI hgi hgo hi hs) ?_
  refine wp_iconst (q := 7) (v := 1) d_V_shortest_6 rfl (by decide) ?_
  refine wp_istore (q := 9) d_V_shortest_7 rfl (Nat.le_of_ble_eq_true rfl) rfl ?_
  refine wp_post (fun v w1 h => ⟨h.1, (am_fr.rf.put (by simp)).tr h.2.1, h.2.2⟩) (wp_deep (by decide) (c_V_shortest_L hgi hgo hb 16 1 (go i) (gi i) (go i) (gi i) rfl (am_at_eq hV) (hI.at (am_fr.rf.put (D := [17]) (by simp)) (by decide) (by decide)) hs (pu_cl_lt hgi hs) (hgo i) (hgi i) (hgo i) (hgi i)))
set_option maxHeartbeats 4000000 in
set_option maxRecDepth 100000 in
theorem c_V_reached_L {gi go : Nat → Nat} (hgi : ∀ i, gi i < 256) (hgo : ∀ i, go i < 256) {y1 y2 : Int32} {g m0 : Nat} : ∀ (k j na ng sa sg : Nat) {w : am_W}, j + k = 17 → VO g m0 na ng sa sg w → VI gi go w → g < 256 → m0 < 256 → na < 256 → ng < 256 → sa < 256 → sg < 256 → am_Wp none m_V_reached 3 0 0 8 [(0, .ref 17), (1, .int y1), (2, .int y2), (3, .int (nI j))] [] w (fun v w1 => v = some (.int (nI (pu_re gi go g m0 k na ng sa sg))) ∧ am_fr [17] w w1 ∧ VS w1) := by
  intro k
  induction k with
  | zero =>
    intro j na ng sa sg w hj hV hI b1 b2 b3 b4 b5 b6
    refine wp_iload_n (q := 9) d_V_reached_8 rfl rfl rfl ?_
    refine wp_bipush (q := 11) (v := 16) d_V_reached_9 rfl (by decide) ?_
    refine wp_icmp_gt (q := 14) (tgt := 36) d_V_reached_11 (by decide) rfl (fun _ => ?_) (fun c11 => absurd (by rw [show j = 17 by omega]; decide) c11)
    refine wp_aload_n (q := 37) d_V_reached_36 rfl rfl rfl ?_
    refine wp_get (q := 40) (k := 6) d_V_reached_37 rfl ok_V (Nat.le_of_ble_eq_true rfl) fk_V_31 hV rfl ?_
    refine wp_aload_n (q := 41) d_V_reached_40 rfl rfl rfl ?_
    refine wp_get (q := 44) (k := 7) d_V_reached_41 rfl ok_V (Nat.le_of_ble_eq_true rfl) fk_V_34 hV rfl ?_
    refine wp_ior (q := 45) d_V_reached_44 rfl ?_
    exact wp_ireturn rfl d_V_reached_45 ⟨by rw [pu_or]; rfl, am_fr.rf, ⟨⟨_, _, _, _, _, _, hV⟩, ⟨_, hI.1⟩, _, hI.2⟩⟩
  | succ k ih =>
    intro j na ng sa sg w hj hV hI b1 b2 b3 b4 b5 b6
    refine wp_iload_n (q := 9) d_V_reached_8 rfl rfl rfl ?_
    refine wp_bipush (q := 11) (v := 16) d_V_reached_9 rfl (by decide) ?_
    refine wp_icmp_gt (q := 14) (tgt := 36) d_V_reached_11 (by decide) rfl (fun c11 => absurd c11 (by rw [show (16 : Int32) = nI 16 from rfl]; exact nI_nlt (by omega) (by decide))) (fun _ => ?_)
    refine wp_aload_n (q := 15) d_V_reached_14 rfl rfl rfl ?_
    refine wp_get (q := 18) (k := 4) d_V_reached_15 rfl ok_V (Nat.le_of_ble_eq_true rfl) fk_V_25 hV rfl ?_
    refine wp_aload_n (q := 19) d_V_reached_18 rfl rfl rfl ?_
    refine wp_get (q := 22) (k := 5) d_V_reached_19 rfl ok_V (Nat.le_of_ble_eq_true rfl) fk_V_28 hV rfl ?_
    refine wp_ior (q := 23) d_V_reached_22 rfl ?_
    rw [pu_or]
    refine wp_if_eq (q := 26) (tgt := 36) d_V_reached_23 (by decide) rfl (fun c23 => ?_) (fun c23 => ?_)
    · have hz : na ||| ng = 0 := pu_nI_inj (Nat.lt_trans (pu_or_lt b3 b4) (by decide)) (by decide) (c23.trans nI_0.symm)
      refine wp_aload_n (q := 37) d_V_reached_36 rfl rfl rfl ?_
      refine wp_get (q := 40) (k := 6) d_V_reached_37 rfl ok_V (Nat.le_of_ble_eq_true rfl) fk_V_31 hV rfl ?_
      refine wp_aload_n (q := 41) d_V_reached_40 rfl rfl rfl ?_
      refine wp_get (q := 44) (k := 7) d_V_reached_41 rfl ok_V (Nat.le_of_ble_eq_true rfl) fk_V_34 hV rfl ?_
      refine wp_ior (q := 45) d_V_reached_44 rfl ?_
      exact wp_ireturn rfl d_V_reached_45 ⟨by rw [pu_or]; simp [pu_re, hz], am_fr.rf, ⟨⟨_, _, _, _, _, _, hV⟩, ⟨_, hI.1⟩, _, hI.2⟩⟩
    · have hz : ¬ na ||| ng = 0 := fun e => c23 (by rw [e]; exact nI_0)
      refine wp_aload_n (q := 27) d_V_reached_26 rfl rfl rfl ?_
      refine wp_cV0v (q := 30) d_V_reached_27 rfl bd_V_step lk_V_57 im_V_step se_V_step rfl (Nat.le_of_ble_eq_true rfl) (Nat.le_of_ble_eq_true rfl) hV (Nat.le_of_ble_eq_true rfl) (c_V_step hV hI hgi hgo b1 b2 b3 b4 b5 b6) ?_
      refine wp_inc1 (q := 33) d_V_reached_30 rfl rfl (nI_1 _) (Nat.le_of_ble_eq_true rfl) rfl ?_
      refine wp_goto (tgt := 8) d_V_reached_33 (by decide) ?_
      have e : pu_re gi go g m0 (k + 1) na ng sa sg = pu_re gi go g m0 k (pu_na gi go g m0 na ng sa) (pu_ng gi go g m0 na ng sg) (sa ||| pu_na gi go g m0 na ng sa) (sg ||| pu_ng gi go g m0 na ng sg) := by simp [pu_re, hz]
      rw [e]
      refine wp_post (fun v w1 h => ⟨h.1, (am_fr.rf.put (by simp)).tr h.2.1, h.2.2⟩) (ih (j + 1) _ _ _ _ (by omega) (am_at_eq hV) (hI.at (am_fr.rf.put (D := [17]) (by simp)) (by decide) (by decide)) b1 b2 (pu_na_lt hgo _ _ _ _ _) (pu_ng_lt hgi _ _ _ _ _) (pu_or_lt b5 (pu_na_lt hgo _ _ _ _ _)) (pu_or_lt b6 (pu_ng_lt hgi _ _ _ _ _)))
set_option maxHeartbeats 4000000 in
set_option maxRecDepth 100000 in
theorem c_V_reached {w : am_W} {x1 x2 x3 x4 x5 x6 : Int32} (hV : w[17]? = some (.inr (5, [.ref 18, .ref 19, .int x1, .int x2, .int x3, .int x4, .int x5, .int x6]))) {gi go : Nat → Nat} (hI : VI gi go w) (hgi : ∀ i, gi i < 256) (hgo : ∀ i, go i < 256) {i s : Nat} (hi : i < 8) (hs : s < 256) : am_Wp none m_V_reached 4 0 0 0 [(0, .ref 17), (1, .int (nI i)), (2, .int (nI s))] [] w (fun v w1 => v = some (.int (nI (pu_re gi go s (pu_cl gi 8 8 s) 16 (go i) (gi i) (go i) (gi i)))) ∧ am_fr [17] w w1 ∧ VS w1) := by
  refine wp_aload_n (q := 1) d_V_reached_0 rfl rfl rfl ?_
  refine wp_iload_n (q := 2) d_V_reached_1 rfl rfl rfl ?_
  refine wp_iload_n (q := 3) d_V_reached_2 rfl rfl rfl ?_
  refine wp_cV2v (q := 6) d_V_reached_3 rfl bd_V_start lk_V_53 im_V_start se_V_start rfl (Nat.le_of_ble_eq_true rfl) (Nat.le_of_ble_eq_true rfl) hV (Nat.le_of_ble_eq_true rfl) (c_V_start hV hI hgi hgo hi hs) ?_
  refine wp_iconst (q := 7) (v := 1) d_V_reached_6 rfl (by decide) ?_
  refine wp_istore_n (q := 8) d_V_reached_7 rfl rfl (Nat.le_of_ble_eq_true rfl) rfl ?_
  refine wp_post (fun v w1 h => ⟨h.1, (am_fr.rf.put (by simp)).tr h.2.1, h.2.2⟩) (wp_deep (by decide) (c_V_reached_L hgi hgo 16 1 (go i) (gi i) (go i) (gi i) rfl (am_at_eq hV) (hI.at (am_fr.rf.put (D := [17]) (by simp)) (by decide) (by decide)) hs (pu_cl_lt hgi hs) (hgo i) (hgi i) (hgo i) (hgi i)))
set_option maxHeartbeats 4000000 in
set_option maxRecDepth 100000 in
theorem c_N_start {w : am_W} {a b : Nat} (hM : MS a b w) (hab : a ≠ b) {s : Nat} : am_Wp none m_N_start 1 0 0 0 [(0, .ref a), (1, .int (nI s))] [] w (fun v w1 => v = none ∧ am_fr [a, b] w w1 ∧ MI a b s (fun _ => 0) w1) := by
  obtain ⟨⟨s0, e1⟩, f0, e2⟩ := hM
  refine wp_aload_n (q := 1) d_N_start_0 rfl rfl rfl ?_
  refine wp_iload_n (q := 2) d_N_start_1 rfl rfl rfl ?_
  refine wp_put (q := 5) (k := 0) d_N_start_2 rfl ok_N (Nat.le_of_ble_eq_true rfl) fk_N_9 rfl am_fit_i e1 (Nat.le_of_ble_eq_true rfl) rfl ?_
  refine wp_aload_n (q := 6) d_N_start_5 rfl rfl rfl ?_
  refine wp_get (q := 9) (k := 1) d_N_start_6 rfl ok_N (Nat.le_of_ble_eq_true rfl) fk_N_15 (am_at_eq e1) rfl ?_
  refine wp_lconst (q := 10) (v := 0) d_N_start_9 rfl (by decide) ?_
  refine wp_cS2v (q := 13) d_N_start_10 rfl bd_A_fillJ lk_N_19 sm_A_fillJ (Nat.le_of_ble_eq_true rfl) (Nat.le_of_ble_eq_true rfl) (Nat.le_of_ble_eq_true rfl) (c_fillJ (am_at_ne hab e2) (by decide)) ?_
  exact wp_return rfl d_N_start_13 ⟨rfl, (am_fr.rf.put (by simp)).put (by simp), am_at_ne (Ne.symm hab) (am_at_eq e1), am_at_eq (am_at_ne hab e2)⟩
set_option maxHeartbeats 4000000 in
set_option maxRecDepth 100000 in
theorem c_N_add {w : am_W} {a b s : Nat} {S : Nat → Nat} (hM : MI a b s S w) (hs : s < 256) (hab : a ≠ b) {v x : Nat} : am_Wp none m_N_add 0 0 0 0 [(0, .ref a), (1, .int (nI v)), (2, .long (lN x))] [] w (fun v1 w1 => v1 = none ∧ am_fr [b] w w1 ∧ MI a b s (pu_ad S (v &&& s) x) w1) := by
  refine wp_aload_n (q := 1) d_N_add_0 rfl rfl rfl ?_
  refine wp_get (q := 4) (k := 1) d_N_add_1 rfl ok_N (Nat.le_of_ble_eq_true rfl) fk_N_15 hM.1 rfl ?_
  refine wp_iload_n (q := 5) d_N_add_4 rfl rfl rfl ?_
  refine wp_aload_n (q := 6) d_N_add_5 rfl rfl rfl ?_
  refine wp_get (q := 9) (k := 0) d_N_add_6 rfl ok_N (Nat.le_of_ble_eq_true rfl) fk_N_9 hM.1 rfl ?_
  refine wp_iand (q := 10) d_N_add_9 rfl ?_
  rw [pu_and]
  refine wp_dup2 (q := 11) d_N_add_10 rfl rfl rfl ?_
  refine wp_laloadN (q := 12) d_N_add_11 rfl hM.2 rfl (Nat.lt_of_le_of_lt Nat.and_le_right hs) (by decide) ?_
  refine wp_lload_n (q := 13) d_N_add_12 rfl rfl rfl ?_
  refine wp_ladd (q := 14) d_N_add_13 rfl ?_
  refine wp_lastoreN (q := 15) d_N_add_14 rfl hM.2 rfl (Nat.lt_of_le_of_lt Nat.and_le_right hs) (by decide) rfl ?_
  rw [pu_ad_u]
  exact wp_return rfl d_N_add_15 ⟨rfl, am_fr.rf.put (by simp), am_at_ne (Ne.symm hab) hM.1, am_at_eq hM.2⟩
set_option maxHeartbeats 4000000 in
set_option maxRecDepth 100000 in
theorem c_N_sum {w : am_W} {a b s : Nat} {S : Nat → Nat} (hM : MI a b s S w) (hs : s < 256) {v : Nat} : am_Wp none m_N_sum 0 0 0 0 [(0, .ref a), (1, .int (nI v))] [] w (am_R (some (.long (lN (S (v &&& s))))) w) := by
  refine wp_aload_n (q := 1) d_N_sum_0 rfl rfl rfl ?_
  refine wp_get (q := 4) (k := 1) d_N_sum_1 rfl ok_N (Nat.le_of_ble_eq_true rfl) fk_N_15 hM.1 rfl ?_
  refine wp_iload_n (q := 5) d_N_sum_4 rfl rfl rfl ?_
  refine wp_aload_n (q := 6) d_N_sum_5 rfl rfl rfl ?_
  refine wp_get (q := 9) (k := 0) d_N_sum_6 rfl ok_N (Nat.le_of_ble_eq_true rfl) fk_N_9 hM.1 rfl ?_
  refine wp_iand (q := 10) d_N_sum_9 rfl ?_
  rw [pu_and]
  refine wp_laloadN (q := 11) d_N_sum_10 rfl hM.2 rfl (Nat.lt_of_le_of_lt Nat.and_le_right hs) (by decide) ?_
  exact wp_lreturn rfl d_N_sum_11 ⟨rfl, rfl⟩
