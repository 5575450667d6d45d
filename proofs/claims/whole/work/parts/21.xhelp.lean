/-! CONTRACTS of X's helpers -/
set_option maxHeartbeats 4000000 in
set_option maxRecDepth 100000 in
theorem c_isPlace {n k : Nat} {P C : Nat → Nat} {kn kk : Nat} {KP KC : Nat → Nat} {ak : Bool} {E : Nat → Nat → Nat} {hd hv : Nat} {w : am_W} (hX : XI n k P C kn kk KP KC ak E hd hv w) (hn : n ≤ 8) {x : Int32} : am_Wp none m_X_isPlace 0 0 0 0 [(0, .ref 0), (1, .int x)] [] w (am_R (some (.int (pu_q (PL n x)))) w) := by
  refine wp_iload_n (q := 1) d_X_isPlace_0 rfl rfl rfl ?_
  refine wp_if_lt (q := 4) (tgt := 19) d_X_isPlace_1 (by decide) rfl (fun c1 => ?_) (fun c1 => ?_)
  · refine wp_iconst (q := 20) (v := 0) d_X_isPlace_19 rfl (by decide) ?_
    exact wp_zreturn rfl rfl d_X_isPlace_20 ⟨by rw [pu_q_f (fun ⟨i, hi, e⟩ => by rw [e] at c1; exact nI_pos (by omega) c1)], rfl⟩
  · refine wp_iload_n (q := 5) d_X_isPlace_4 rfl rfl rfl ?_
    refine wp_aload_n (q := 6) d_X_isPlace_5 rfl rfl rfl ?_
    refine wp_get (q := 9) (k := 0) d_X_isPlace_6 rfl ok_X (Nat.le_of_ble_eq_true rfl) fk_X_12 hX.1 rfl ?_
    refine wp_getN (q := 12) (k := 0) d_X_isPlace_9 rfl ok_G (Nat.le_of_ble_eq_true rfl) fk_X_60 hX.2.1.1 rfl ?_
    refine wp_icmp_ge (q := 15) (tgt := 19) d_X_isPlace_12 (by decide) rfl (fun c12 => ?_) (fun c12 => ?_)
    · refine wp_iconst (q := 20) (v := 0) d_X_isPlace_19 rfl (by decide) ?_
      exact wp_zreturn rfl rfl d_X_isPlace_20 ⟨by rw [pu_q_f (fun ⟨i, hi, e⟩ => by rw [e] at c12; exact nI_ge hi (by omega) c12)], rfl⟩
    · refine wp_iconst (q := 16) (v := 1) d_X_isPlace_15 rfl (by decide) ?_
      refine wp_goto (tgt := 20) d_X_isPlace_16 (by decide) ?_
      exact wp_zreturn rfl rfl d_X_isPlace_20 ⟨by rw [pu_q_t (by rcases pk_ix x (n := n) (by omega) with h | h | h; exact absurd h c1; exact absurd h c12; exact h)], rfl⟩
set_option maxHeartbeats 4000000 in
set_option maxRecDepth 100000 in
theorem c_isPair {n k : Nat} {P C : Nat → Nat} {kn kk : Nat} {KP KC : Nat → Nat} {ak : Bool} {E : Nat → Nat → Nat} {hd hv : Nat} {w : am_W} (hX : XI n k P C kn kk KP KC ak E hd hv w) (hn : n ≤ 8) {x y : Int32} : am_Wp none m_X_isPair 1 0 0 0 [(0, .ref 0), (1, .int x), (2, .int y)] [] w (am_R (some (.int (pu_q (PR n x y)))) w) := by
  refine wp_aload_n (q := 1) d_X_isPair_0 rfl rfl rfl ?_
  refine wp_iload_n (q := 2) d_X_isPair_1 rfl rfl rfl ?_
  refine wp_cV1r (q := 5) d_X_isPair_2 rfl bd_X_isPlace lk_X_113 im_X_isPlace se_X_isPlace rfl (Nat.le_of_ble_eq_true rfl) (Nat.le_of_ble_eq_true rfl) hX.1 (Nat.le_of_ble_eq_true rfl) (c_isPlace hX hn) ?_
  refine wp_if_eq (q := 8) (tgt := 25) d_X_isPair_5 (by decide) rfl (fun c5 => ?_) (fun c5 => ?_)
  · refine wp_iconst (q := 26) (v := 0) d_X_isPair_25 rfl (by decide) ?_
    exact wp_zreturn rfl rfl d_X_isPair_26 ⟨by rw [pu_q_f (fun ⟨i, j, hi, hj, hij, e1, e2⟩ => pu_q0 c5 ⟨i, hi, e1⟩)], rfl⟩
  · refine wp_aload_n (q := 9) d_X_isPair_8 rfl rfl rfl ?_
    refine wp_iload_n (q := 10) d_X_isPair_9 rfl rfl rfl ?_
    refine wp_cV1r (q := 13) d_X_isPair_10 rfl bd_X_isPlace lk_X_113 im_X_isPlace se_X_isPlace rfl (Nat.le_of_ble_eq_true rfl) (Nat.le_of_ble_eq_true rfl) hX.1 (Nat.le_of_ble_eq_true rfl) (c_isPlace hX hn) ?_
    refine wp_if_eq (q := 16) (tgt := 25) d_X_isPair_13 (by decide) rfl (fun c13 => ?_) (fun c13 => ?_)
    · refine wp_iconst (q := 26) (v := 0) d_X_isPair_25 rfl (by decide) ?_
      exact wp_zreturn rfl rfl d_X_isPair_26 ⟨by rw [pu_q_f (fun ⟨i, j, hi, hj, hij, e1, e2⟩ => pu_q0 c13 ⟨j, hj, e2⟩)], rfl⟩
    · refine wp_iload_n (q := 17) d_X_isPair_16 rfl rfl rfl ?_
      refine wp_iload_n (q := 18) d_X_isPair_17 rfl rfl rfl ?_
      refine wp_icmp_eq (q := 21) (tgt := 25) d_X_isPair_18 (by decide) rfl (fun c18 => ?_) (fun c18 => ?_)
      · refine wp_iconst (q := 26) (v := 0) d_X_isPair_25 rfl (by decide) ?_
        exact wp_zreturn rfl rfl d_X_isPair_26 ⟨by rw [pu_q_f (fun ⟨i, j, hi, hj, hij, e1, e2⟩ => hij (pu_nI_inj (by omega) (by omega) (e1.symm.trans (c18.trans e2))))], rfl⟩
      · refine wp_iconst (q := 22) (v := 1) d_X_isPair_21 rfl (by decide) ?_
        refine wp_goto (tgt := 26) d_X_isPair_22 (by decide) ?_
        exact wp_zreturn rfl rfl d_X_isPair_26 ⟨by rw [pu_q_t (by obtain ⟨i, hi, e1⟩ := pu_q1 c5; obtain ⟨j, hj, e2⟩ := pu_q1 c13; exact ⟨i, j, hi, hj, fun e => c18 (by rw [e1, e2, e]), e1, e2⟩)], rfl⟩
set_option maxHeartbeats 4000000 in
set_option maxRecDepth 100000 in
theorem c_isSet {n k : Nat} {P C : Nat → Nat} {kn kk : Nat} {KP KC : Nat → Nat} {ak : Bool} {E : Nat → Nat → Nat} {hd hv : Nat} {w : am_W} (hX : XI n k P C kn kk KP KC ak E hd hv w) (hn : n ≤ 8) {x : Int32} : am_Wp none m_X_isSet 2 0 0 0 [(0, .ref 0), (1, .int x)] [] w (am_R (some (.int (pu_q (SE n x)))) w) := by
  have hp := pu_p2e hn
  have hp1 := pu_p1 n
  refine wp_iload_n (q := 1) d_X_isSet_0 rfl rfl rfl ?_
  refine wp_if_lt (q := 4) (tgt := 19) d_X_isSet_1 (by decide) rfl (fun c1 => ?_) (fun c1 => ?_)
  · refine wp_iconst (q := 20) (v := 0) d_X_isSet_19 rfl (by decide) ?_
    exact wp_zreturn rfl rfl d_X_isSet_20 ⟨by rw [pu_q_f (fun ⟨i, hi, e⟩ => by rw [e] at c1; exact nI_pos (by omega) c1)], rfl⟩
  · refine wp_iload_n (q := 5) d_X_isSet_4 rfl rfl rfl ?_
    refine wp_aload_n (q := 6) d_X_isSet_5 rfl rfl rfl ?_
    refine wp_get (q := 9) (k := 0) d_X_isSet_6 rfl ok_X (Nat.le_of_ble_eq_true rfl) fk_X_12 hX.1 rfl ?_
    refine wp_cVN0r (q := 12) d_X_isSet_9 rfl bd_G_everyPlace lk_X_156 im_G_everyPlace se_G_everyPlace rfl (Nat.le_of_ble_eq_true rfl) (Nat.le_of_ble_eq_true rfl) hX.2.1.1 (Nat.le_of_ble_eq_true rfl) (c_G_everyPlace hX.2.1 hn) ?_
    refine wp_icmp_gt (q := 15) (tgt := 19) d_X_isSet_12 (by decide) rfl (fun c12 => ?_) (fun c12 => ?_)
    · refine wp_iconst (q := 20) (v := 0) d_X_isSet_19 rfl (by decide) ?_
      exact wp_zreturn rfl rfl d_X_isSet_20 ⟨by rw [pu_q_f (fun ⟨i, hi, e⟩ => by rw [e] at c12; exact nI_nlt (by omega) (by omega) c12)], rfl⟩
    · refine wp_iconst (q := 16) (v := 1) d_X_isSet_15 rfl (by decide) ?_
      refine wp_goto (tgt := 20) d_X_isSet_16 (by decide) ?_
      exact wp_zreturn rfl rfl d_X_isSet_20 ⟨by rw [pu_q_t (by rcases pk_ix x (n := 2 ^ n) (by omega) with h | h | h; exact absurd h c1; exact absurd (by have h2 : nI (2 ^ n - 1) < nI (2 ^ n) := nI_lt (by omega) (by omega); exact Int32.lt_of_lt_of_le h2 h) c12; exact h)], rfl⟩
set_option maxHeartbeats 4000000 in
set_option maxRecDepth 100000 in
theorem c_isQuestion {n k : Nat} {P C : Nat → Nat} {kn kk : Nat} {KP KC : Nat → Nat} {ak : Bool} {E : Nat → Nat → Nat} {hd hv : Nat} {w : am_W} (hX : XI n k P C kn kk KP KC ak E hd hv w) (hn : n ≤ 8) {x y s : Int32} : am_Wp none m_X_isQuestion 3 0 0 0 [(0, .ref 0), (1, .int x), (2, .int y), (3, .int s)] [] w (am_R (some (.int (pu_q (QU n x y s)))) w) := by
  refine wp_aload_n (q := 1) d_X_isQuestion_0 rfl rfl rfl ?_
  refine wp_iload_n (q := 2) d_X_isQuestion_1 rfl rfl rfl ?_
  refine wp_iload_n (q := 3) d_X_isQuestion_2 rfl rfl rfl ?_
  refine wp_cV2r (q := 6) d_X_isQuestion_3 rfl bd_X_isPair lk_X_74 im_X_isPair se_X_isPair rfl (Nat.le_of_ble_eq_true rfl) (Nat.le_of_ble_eq_true rfl) hX.1 (Nat.le_of_ble_eq_true rfl) (c_isPair hX hn) ?_
  refine wp_if_eq (q := 9) (tgt := 37) d_X_isQuestion_6 (by decide) rfl (fun c6 => ?_) (fun c6 => ?_)
  · refine wp_iconst (q := 38) (v := 0) d_X_isQuestion_37 rfl (by decide) ?_
    exact wp_zreturn rfl rfl d_X_isQuestion_38 ⟨by rw [pu_q_f (fun ⟨i, j, t, hi, hj, hij, ht, e1, e2, e3, e4, e5⟩ => pu_q0 c6 ⟨i, j, hi, hj, hij, e1, e2⟩)], rfl⟩
  · refine wp_aload_n (q := 10) d_X_isQuestion_9 rfl rfl rfl ?_
    refine wp_iload_n (q := 11) d_X_isQuestion_10 rfl rfl rfl ?_
    refine wp_cV1r (q := 14) d_X_isQuestion_11 rfl bd_X_isSet lk_X_151 im_X_isSet se_X_isSet rfl (Nat.le_of_ble_eq_true rfl) (Nat.le_of_ble_eq_true rfl) hX.1 (Nat.le_of_ble_eq_true rfl) (c_isSet hX hn) ?_
    refine wp_if_eq (q := 17) (tgt := 37) d_X_isQuestion_14 (by decide) rfl (fun c14 => ?_) (fun c14 => ?_)
    · refine wp_iconst (q := 38) (v := 0) d_X_isQuestion_37 rfl (by decide) ?_
      exact wp_zreturn rfl rfl d_X_isQuestion_38 ⟨by rw [pu_q_f (fun ⟨i, j, t, hi, hj, hij, ht, e1, e2, e3, e4, e5⟩ => pu_q0 c14 ⟨t, ht, e3⟩)], rfl⟩
    · obtain ⟨i, j, hi, hj, hij, rfl, rfl⟩ := pu_q1 c6
      obtain ⟨t, ht, rfl⟩ := pu_q1 c14
      have hp := pu_p2e hn
      refine wp_iload_n (q := 18) d_X_isQuestion_17 rfl rfl rfl ?_
      refine wp_iload_n (q := 19) d_X_isQuestion_18 rfl rfl rfl ?_
      refine wp_cS2r (q := 22) d_X_isQuestion_19 rfl bd_X_has lk_X_82 sm_X_has (Nat.le_of_ble_eq_true rfl) (Nat.le_of_ble_eq_true rfl) (Nat.le_of_ble_eq_true rfl) (c_has (by omega) (by omega)) ?_
      refine wp_if_ne (q := 25) (tgt := 37) d_X_isQuestion_22 (by decide) rfl (fun c22 => ?_) (fun c22 => ?_)
      · refine wp_iconst (q := 38) (v := 0) d_X_isQuestion_37 rfl (by decide) ?_
        exact wp_zreturn rfl rfl d_X_isQuestion_38 ⟨by rw [pu_q_f (fun ⟨i', j', t', hi', hj', hij', ht', e1, e2, e3, e4, e5⟩ => by rw [pu_nI_inj (by omega) (by omega) e1, pu_nI_inj (by omega) (by omega) e3, e4] at c22; exact c22 rfl)], rfl⟩
      · refine wp_iload_n (q := 26) d_X_isQuestion_25 rfl rfl rfl ?_
        refine wp_iload_n (q := 27) d_X_isQuestion_26 rfl rfl rfl ?_
        refine wp_cS2r (q := 30) d_X_isQuestion_27 rfl bd_X_has lk_X_82 sm_X_has (Nat.le_of_ble_eq_true rfl) (Nat.le_of_ble_eq_true rfl) (Nat.le_of_ble_eq_true rfl) (c_has (by omega) (by omega)) ?_
        refine wp_if_ne (q := 33) (tgt := 37) d_X_isQuestion_30 (by decide) rfl (fun c30 => ?_) (fun c30 => ?_)
        · refine wp_iconst (q := 38) (v := 0) d_X_isQuestion_37 rfl (by decide) ?_
          exact wp_zreturn rfl rfl d_X_isQuestion_38 ⟨by rw [pu_q_f (fun ⟨i', j', t', hi', hj', hij', ht', e1, e2, e3, e4, e5⟩ => by rw [pu_nI_inj (by omega) (by omega) e2, pu_nI_inj (by omega) (by omega) e3, e5] at c30; exact c30 rfl)], rfl⟩
        · refine wp_iconst (q := 34) (v := 1) d_X_isQuestion_33 rfl (by decide) ?_
          refine wp_goto (tgt := 38) d_X_isQuestion_34 (by decide) ?_
          exact wp_zreturn rfl rfl d_X_isQuestion_38 ⟨by rw [pu_q_t (⟨i, j, t, hi, hj, hij, ht, rfl, rfl, rfl, pu_b0.mp c22, pu_b0.mp c30⟩)], rfl⟩
set_option maxHeartbeats 4000000 in
set_option maxRecDepth 100000 in
theorem c_isRow {n k : Nat} {P C : Nat → Nat} {kn kk : Nat} {KP KC : Nat → Nat} {ak : Bool} {E : Nat → Nat → Nat} {hd hv : Nat} {w : am_W} (hX : XI n k P C kn kk KP KC ak E hd hv w) (hn : n ≤ 8) (hP : ∀ i, P i < 256) {x r : Int32} : am_Wp none m_X_isRow 2 0 0 0 [(0, .ref 0), (1, .int x), (2, .int r)] [] w (am_R (some (.int (pu_q (RO n P x r)))) w) := by
  refine wp_aload_n (q := 1) d_X_isRow_0 rfl rfl rfl ?_
  refine wp_iload_n (q := 2) d_X_isRow_1 rfl rfl rfl ?_
  refine wp_cV1r (q := 5) d_X_isRow_2 rfl bd_X_isPlace lk_X_113 im_X_isPlace se_X_isPlace rfl (Nat.le_of_ble_eq_true rfl) (Nat.le_of_ble_eq_true rfl) hX.1 (Nat.le_of_ble_eq_true rfl) (c_isPlace hX hn) ?_
  refine wp_if_eq (q := 8) (tgt := 28) d_X_isRow_5 (by decide) rfl (fun c5 => ?_) (fun c5 => ?_)
  · refine wp_iconst (q := 29) (v := 0) d_X_isRow_28 rfl (by decide) ?_
    exact wp_zreturn rfl rfl d_X_isRow_29 ⟨by rw [pu_q_f (fun ⟨i, j, hi, hj, e1, e2⟩ => pu_q0 c5 ⟨i, hi, e1⟩)], rfl⟩
  · obtain ⟨i, hi, rfl⟩ := pu_q1 c5
    have hp := pu_p2e (Nat.le_trans (pu_pop_le 8 (P i)) (Nat.le_refl 8))
    refine wp_iload_n (q := 9) d_X_isRow_8 rfl rfl rfl ?_
    refine wp_if_lt (q := 12) (tgt := 28) d_X_isRow_9 (by decide) rfl (fun c9 => ?_) (fun c9 => ?_)
    · refine wp_iconst (q := 29) (v := 0) d_X_isRow_28 rfl (by decide) ?_
      exact wp_zreturn rfl rfl d_X_isRow_29 ⟨by rw [pu_q_f (fun ⟨i, j, hi, hj, e1, e2⟩ => by have hp := pu_p2e (Nat.le_trans (pu_pop_le 8 (P i)) (Nat.le_refl 8)); rw [e2] at c9; exact nI_pos (by omega) c9)], rfl⟩
    · refine wp_iload_n (q := 13) d_X_isRow_12 rfl rfl rfl ?_
      refine wp_aload_n (q := 14) d_X_isRow_13 rfl rfl rfl ?_
      refine wp_get (q := 17) (k := 0) d_X_isRow_14 rfl ok_X (Nat.le_of_ble_eq_true rfl) fk_X_12 hX.1 rfl ?_
      refine wp_iload_n (q := 18) d_X_isRow_17 rfl rfl rfl ?_
      refine wp_cVN1r (q := 21) d_X_isRow_18 rfl bd_G_rows lk_X_136 im_G_rows se_G_rows rfl (Nat.le_of_ble_eq_true rfl) (Nat.le_of_ble_eq_true rfl) hX.2.1.1 (Nat.le_of_ble_eq_true rfl) (c_G_rows hX.2.1 hP (by omega)) ?_
      refine wp_icmp_ge (q := 24) (tgt := 28) d_X_isRow_21 (by decide) rfl (fun c21 => ?_) (fun c21 => ?_)
      · refine wp_iconst (q := 29) (v := 0) d_X_isRow_28 rfl (by decide) ?_
        exact wp_zreturn rfl rfl d_X_isRow_29 ⟨by rw [pu_q_f (fun ⟨i', j, hi', hj, e1, e2⟩ => by rw [← pu_nI_inj (by omega) (by omega) e1] at hj; rw [e2] at c21; exact nI_ge hj (by omega) c21)], rfl⟩
      · refine wp_iconst (q := 25) (v := 1) d_X_isRow_24 rfl (by decide) ?_
        refine wp_goto (tgt := 29) d_X_isRow_25 (by decide) ?_
        exact wp_zreturn rfl rfl d_X_isRow_29 ⟨by rw [pu_q_t (by rcases pk_ix r (n := 2 ^ pu_pop 8 (P i)) (by omega) with h | h | ⟨j, hj, e⟩; exact absurd h c9; exact absurd h c21; exact ⟨i, j, hi, hj, rfl, e⟩)], rfl⟩
