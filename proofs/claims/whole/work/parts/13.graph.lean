/-! CONTRACTS of Graph -/
set_option maxHeartbeats 4000000 in
set_option maxRecDepth 100000 in
theorem c_G_everyPlace {w : am_W} {a p c n k : Nat} {P C : Nat → Nat} (hG : GI a p c n k P C w) (hn : n ≤ 8) : am_Wp none m_G_everyPlace 1 0 0 0 [(0, .ref a)] [] w (am_R (some (.int (nI (2 ^ n - 1)))) w) := by
  refine wp_aload_n (q := 1) d_G_everyPlace_0 rfl rfl rfl ?_
  refine wp_get (q := 4) (k := 0) d_G_everyPlace_1 rfl ok_G (Nat.le_of_ble_eq_true rfl) fk_G_9 hG.1 rfl ?_
  refine wp_cSN1r (q := 7) d_G_everyPlace_4 rfl bd_X_bit lk_G_37 sm_X_bit (Nat.le_of_ble_eq_true rfl) (Nat.le_of_ble_eq_true rfl) (Nat.le_of_ble_eq_true rfl) (c_bit (by omega)) ?_
  refine wp_iconst (q := 8) (v := 1) d_G_everyPlace_7 rfl (by decide) ?_
  refine wp_isub (q := 9) d_G_everyPlace_8 rfl ?_
  exact wp_ireturn rfl d_G_everyPlace_9 ⟨by rw [show (1 : Int32) = nI 1 from rfl, pk_sub (pu_p1 n)], rfl⟩
set_option maxHeartbeats 4000000 in
set_option maxRecDepth 100000 in
theorem c_G_neighbours {w : am_W} {a p c n k : Nat} {P C : Nat → Nat} (hG : GI a p c n k P C w) {i : Nat} (hi : i < 8) : am_Wp none m_G_neighbours 0 0 0 0 [(0, .ref a), (1, .int (nI i))] [] w (am_R (some (.int (nI (P i ||| C i)))) w) := by
  refine wp_aload_n (q := 1) d_G_neighbours_0 rfl rfl rfl ?_
  refine wp_get (q := 4) (k := 2) d_G_neighbours_1 rfl ok_G (Nat.le_of_ble_eq_true rfl) fk_G_18 hG.1 rfl ?_
  refine wp_iload_n (q := 5) d_G_neighbours_4 rfl rfl rfl ?_
  refine wp_ialoadN (q := 6) d_G_neighbours_5 rfl hG.2.1 rfl hi (by decide) ?_
  refine wp_aload_n (q := 7) d_G_neighbours_6 rfl rfl rfl ?_
  refine wp_get (q := 10) (k := 3) d_G_neighbours_7 rfl ok_G (Nat.le_of_ble_eq_true rfl) fk_G_22 hG.1 rfl ?_
  refine wp_iload_n (q := 11) d_G_neighbours_10 rfl rfl rfl ?_
  refine wp_ialoadN (q := 12) d_G_neighbours_11 rfl hG.2.2 rfl hi (by decide) ?_
  refine wp_ior (q := 13) d_G_neighbours_12 rfl ?_
  exact wp_ireturn rfl d_G_neighbours_13 ⟨by rw [pu_or], rfl⟩
set_option maxHeartbeats 4000000 in
set_option maxRecDepth 100000 in
theorem c_G_rows {w : am_W} {a p c n k : Nat} {P C : Nat → Nat} (hG : GI a p c n k P C w) (hP : ∀ i, P i < 256) {i : Nat} (hi : i < 8) : am_Wp none m_G_rows 1 0 0 0 [(0, .ref a), (1, .int (nI i))] [] w (am_R (some (.int (nI (2 ^ pu_pop 8 (P i))))) w) := by
  refine wp_iconst (q := 1) (v := 1) d_G_rows_0 rfl (by decide) ?_
  refine wp_aload_n (q := 2) d_G_rows_1 rfl rfl rfl ?_
  refine wp_get (q := 5) (k := 2) d_G_rows_2 rfl ok_G (Nat.le_of_ble_eq_true rfl) fk_G_18 hG.1 rfl ?_
  refine wp_iload_n (q := 6) d_G_rows_5 rfl rfl rfl ?_
  refine wp_ialoadN (q := 7) d_G_rows_6 rfl hG.2.1 rfl hi (by decide) ?_
  refine wp_cS1r (q := 10) d_G_rows_7 rfl bd_I_bitCount lk_G_41 sm_I_bitCount (Nat.le_of_ble_eq_true rfl) (Nat.le_of_ble_eq_true rfl) (Nat.le_of_ble_eq_true rfl) (c_bitCount (Nat.lt_trans (hP i) (by decide))) ?_
  refine wp_ishl (q := 11) d_G_rows_10 rfl ?_
  exact wp_ireturn rfl d_G_rows_11 ⟨by rw [pu_pop8 (hP i), pu_bit _ (Nat.lt_of_le_of_lt (pu_pop_le _ _) (by decide))], rfl⟩
set_option maxHeartbeats 4000000 in
set_option maxRecDepth 100000 in
theorem c_G_strangers {w : am_W} {a p c n k : Nat} {P C : Nat → Nat} (hG : GI a p c n k P C w) (hP : ∀ i, P i < 256) {i j : Nat} (hi : i < 8) (hj : j < 8) : am_Wp none m_G_strangers 1 0 0 0 [(0, .ref a), (1, .int (nI i)), (2, .int (nI j))] [] w (am_R (some (.int (nI (pu_st P C i j)))) w) := by
  refine wp_aload_n (q := 1) d_G_strangers_0 rfl rfl rfl ?_
  refine wp_get (q := 4) (k := 2) d_G_strangers_1 rfl ok_G (Nat.le_of_ble_eq_true rfl) fk_G_18 hG.1 rfl ?_
  refine wp_iload_n (q := 5) d_G_strangers_4 rfl rfl rfl ?_
  refine wp_ialoadN (q := 6) d_G_strangers_5 rfl hG.2.1 rfl hj (by decide) ?_
  refine wp_iload_n (q := 7) d_G_strangers_6 rfl rfl rfl ?_
  refine wp_cSN2r (q := 10) d_G_strangers_7 rfl bd_X_has lk_G_46 sm_X_has (Nat.le_of_ble_eq_true rfl) (Nat.le_of_ble_eq_true rfl) (Nat.le_of_ble_eq_true rfl) (c_has (Nat.lt_trans (hP j) (by decide)) (by omega)) ?_
  refine wp_if_ne (q := 13) (tgt := 15) d_G_strangers_10 (by decide) rfl (fun c10 => ?_) (fun c10 => ?_)
  · refine wp_aload_n (q := 16) d_G_strangers_15 rfl rfl rfl ?_
    refine wp_get (q := 19) (k := 2) d_G_strangers_16 rfl ok_G (Nat.le_of_ble_eq_true rfl) fk_G_18 hG.1 rfl ?_
    refine wp_iload_n (q := 20) d_G_strangers_19 rfl rfl rfl ?_
    refine wp_ialoadN (q := 21) d_G_strangers_20 rfl hG.2.1 rfl hj (by decide) ?_
    refine wp_iload_n (q := 22) d_G_strangers_21 rfl rfl rfl ?_
    refine wp_cSN1r (q := 25) d_G_strangers_22 rfl bd_X_bit lk_G_37 sm_X_bit (Nat.le_of_ble_eq_true rfl) (Nat.le_of_ble_eq_true rfl) (Nat.le_of_ble_eq_true rfl) (c_bit (by omega)) ?_
    refine wp_iconst (q := 26) (v := -1) d_G_strangers_25 rfl (by decide) ?_
    refine wp_ixor (q := 27) d_G_strangers_26 rfl ?_
    refine wp_iand (q := 28) d_G_strangers_27 rfl ?_
    refine wp_aload_n (q := 29) d_G_strangers_28 rfl rfl rfl ?_
    refine wp_iload_n (q := 30) d_G_strangers_29 rfl rfl rfl ?_
    refine wp_cV1r (q := 33) d_G_strangers_30 rfl bd_G_neighbours lk_G_50 im_G_neighbours se_G_neighbours rfl (Nat.le_of_ble_eq_true rfl) (Nat.le_of_ble_eq_true rfl) hG.1 (Nat.le_of_ble_eq_true rfl) (c_G_neighbours hG hi) ?_
    refine wp_iconst (q := 34) (v := -1) d_G_strangers_33 rfl (by decide) ?_
    refine wp_ixor (q := 35) d_G_strangers_34 rfl ?_
    refine wp_iand (q := 36) d_G_strangers_35 rfl ?_
    exact wp_ireturn rfl d_G_strangers_36 ⟨by rw [pu_not, pu_not]; unfold pu_st; rw [if_pos (pu_b1 c10)], rfl⟩
  · refine wp_iconst (q := 14) (v := 0) d_G_strangers_13 rfl (by decide) ?_
    exact wp_ireturn rfl d_G_strangers_14 ⟨by unfold pu_st; rw [if_neg (by rw [pu_b0.mp c10]; decide)]; rfl, rfl⟩
set_option maxHeartbeats 4000000 in
set_option maxRecDepth 100000 in
theorem c_G_join {w : am_W} {a p c n k : Nat} {P C : Nat → Nat} (hG : GI a p c n k P C w) {i j : Nat} (hi : i < 8) (hj : j < 8) (h1 : a ≠ p) (h2 : a ≠ c) (h3 : p ≠ c) : am_Wp none m_G_join 1 0 0 0 [(0, .ref a), (1, .int (nI i)), (2, .int (nI j))] [] w (fun v w1 => v = none ∧ am_fr [a, p, c] w w1 ∧ GI a p c n (k + 1) (pu_set P j (P j ||| 2 ^ i)) (pu_set C i (C i ||| 2 ^ j)) w1) := by
  refine wp_aload_n (q := 1) d_G_join_0 rfl rfl rfl ?_
  refine wp_get (q := 4) (k := 3) d_G_join_1 rfl ok_G (Nat.le_of_ble_eq_true rfl) fk_G_22 hG.1 rfl ?_
  refine wp_iload_n (q := 5) d_G_join_4 rfl rfl rfl ?_
  refine wp_dup2 (q := 6) d_G_join_5 rfl rfl rfl ?_
  refine wp_ialoadN (q := 7) d_G_join_6 rfl hG.2.2 rfl hi (by decide) ?_
  refine wp_iload_n (q := 8) d_G_join_7 rfl rfl rfl ?_
  refine wp_cSN1r (q := 11) d_G_join_8 rfl bd_X_bit lk_G_37 sm_X_bit (Nat.le_of_ble_eq_true rfl) (Nat.le_of_ble_eq_true rfl) (Nat.le_of_ble_eq_true rfl) (c_bit (by omega)) ?_
  refine wp_ior (q := 12) d_G_join_11 rfl ?_
  rw [pu_or]
  refine wp_iastoreN (q := 13) d_G_join_12 rfl hG.2.2 rfl hi (by decide) rfl ?_
  rw [pu_upd]
  have hG1 : GI a p c n k P (pu_set C i (C i ||| 2 ^ j)) (w.set c (am_ar 8 (pu_set C i (C i ||| 2 ^ j)))) := ⟨am_at_ne (Ne.symm h2) hG.1, am_at_ne (Ne.symm h3) hG.2.1, am_at_eq hG.2.2⟩
  have f1 : am_fr [a, p, c] w (w.set c (am_ar 8 (pu_set C i (C i ||| 2 ^ j)))) := am_fr.rf.put (by simp)
  generalize (w.set c (am_ar 8 (pu_set C i (C i ||| 2 ^ j)))) = w at hG1 f1 ⊢
  clear hG
  have hG := hG1
  refine wp_aload_n (q := 14) d_G_join_13 rfl rfl rfl ?_
  refine wp_get (q := 17) (k := 2) d_G_join_14 rfl ok_G (Nat.le_of_ble_eq_true rfl) fk_G_18 hG.1 rfl ?_
  refine wp_iload_n (q := 18) d_G_join_17 rfl rfl rfl ?_
  refine wp_dup2 (q := 19) d_G_join_18 rfl rfl rfl ?_
  refine wp_ialoadN (q := 20) d_G_join_19 rfl hG.2.1 rfl hj (by decide) ?_
  refine wp_iload_n (q := 21) d_G_join_20 rfl rfl rfl ?_
  refine wp_cSN1r (q := 24) d_G_join_21 rfl bd_X_bit lk_G_37 sm_X_bit (Nat.le_of_ble_eq_true rfl) (Nat.le_of_ble_eq_true rfl) (Nat.le_of_ble_eq_true rfl) (c_bit (by omega)) ?_
  refine wp_ior (q := 25) d_G_join_24 rfl ?_
  rw [pu_or]
  refine wp_iastoreN (q := 26) d_G_join_25 rfl hG.2.1 rfl hj (by decide) rfl ?_
  rw [pu_upd]
  have hG1 : GI a p c n k (pu_set P j (P j ||| 2 ^ i)) (pu_set C i (C i ||| 2 ^ j)) (w.set p (am_ar 8 (pu_set P j (P j ||| 2 ^ i)))) := ⟨am_at_ne (Ne.symm h1) hG.1, am_at_eq hG.2.1, am_at_ne h3 hG.2.2⟩
  have f1 := f1.put (a := p) (c := am_ar 8 (pu_set P j (P j ||| 2 ^ i))) (by simp)
  generalize (w.set p (am_ar 8 (pu_set P j (P j ||| 2 ^ i)))) = w at hG1 f1 ⊢
  clear hG
  have hG := hG1
  refine wp_aload_n (q := 27) d_G_join_26 rfl rfl rfl ?_
  refine wp_dup (q := 28) d_G_join_27 rfl rfl ?_
  refine wp_get (q := 31) (k := 1) d_G_join_28 rfl ok_G (Nat.le_of_ble_eq_true rfl) fk_G_15 hG.1 rfl ?_
  refine wp_iconst (q := 32) (v := 1) d_G_join_31 rfl (by decide) ?_
  refine wp_iadd (q := 33) d_G_join_32 rfl ?_
  rw [nI_1]
  refine wp_put (q := 36) (k := 1) d_G_join_33 rfl ok_G (Nat.le_of_ble_eq_true rfl) fk_G_15 rfl am_fit_i hG.1 (Nat.le_of_ble_eq_true rfl) rfl ?_
  exact wp_return rfl d_G_join_36 ⟨rfl, f1.put (by simp), am_at_eq hG.1, am_at_ne h1 hG.2.1, am_at_ne h2 hG.2.2⟩
set_option maxHeartbeats 4000000 in
set_option maxRecDepth 100000 in
theorem c_G_part {w : am_W} {a p c n k : Nat} {P C : Nat → Nat} (hG : GI a p c n k P C w) {i j : Nat} (hi : i < 8) (hj : j < 8) (hk : 1 ≤ k) (h1 : a ≠ p) (h2 : a ≠ c) (h3 : p ≠ c) : am_Wp none m_G_part 1 0 0 0 [(0, .ref a), (1, .int (nI i)), (2, .int (nI j))] [] w (fun v w1 => v = none ∧ am_fr [a, p, c] w w1 ∧ GI a p c n (k - 1) (pu_set P j (pu_dif (P j) (2 ^ i))) (pu_set C i (pu_dif (C i) (2 ^ j))) w1) := by
  refine wp_aload_n (q := 1) d_G_part_0 rfl rfl rfl ?_
  refine wp_get (q := 4) (k := 3) d_G_part_1 rfl ok_G (Nat.le_of_ble_eq_true rfl) fk_G_22 hG.1 rfl ?_
  refine wp_iload_n (q := 5) d_G_part_4 rfl rfl rfl ?_
  refine wp_dup2 (q := 6) d_G_part_5 rfl rfl rfl ?_
  refine wp_ialoadN (q := 7) d_G_part_6 rfl hG.2.2 rfl hi (by decide) ?_
  refine wp_iload_n (q := 8) d_G_part_7 rfl rfl rfl ?_
  refine wp_cSN1r (q := 11) d_G_part_8 rfl bd_X_bit lk_G_37 sm_X_bit (Nat.le_of_ble_eq_true rfl) (Nat.le_of_ble_eq_true rfl) (Nat.le_of_ble_eq_true rfl) (c_bit (by omega)) ?_
  refine wp_iconst (q := 12) (v := -1) d_G_part_11 rfl (by decide) ?_
  refine wp_ixor (q := 13) d_G_part_12 rfl ?_
  refine wp_iand (q := 14) d_G_part_13 rfl ?_
  rw [pu_not]
  refine wp_iastoreN (q := 15) d_G_part_14 rfl hG.2.2 rfl hi (by decide) rfl ?_
  rw [pu_upd]
  have hG1 : GI a p c n k P (pu_set C i (pu_dif (C i) (2 ^ j))) (w.set c (am_ar 8 (pu_set C i (pu_dif (C i) (2 ^ j))))) := ⟨am_at_ne (Ne.symm h2) hG.1, am_at_ne (Ne.symm h3) hG.2.1, am_at_eq hG.2.2⟩
  have f1 : am_fr [a, p, c] w (w.set c (am_ar 8 (pu_set C i (pu_dif (C i) (2 ^ j))))) := am_fr.rf.put (by simp)
  generalize (w.set c (am_ar 8 (pu_set C i (pu_dif (C i) (2 ^ j))))) = w at hG1 f1 ⊢
  clear hG
  have hG := hG1
  refine wp_aload_n (q := 16) d_G_part_15 rfl rfl rfl ?_
  refine wp_get (q := 19) (k := 2) d_G_part_16 rfl ok_G (Nat.le_of_ble_eq_true rfl) fk_G_18 hG.1 rfl ?_
  refine wp_iload_n (q := 20) d_G_part_19 rfl rfl rfl ?_
  refine wp_dup2 (q := 21) d_G_part_20 rfl rfl rfl ?_
  refine wp_ialoadN (q := 22) d_G_part_21 rfl hG.2.1 rfl hj (by decide) ?_
  refine wp_iload_n (q := 23) d_G_part_22 rfl rfl rfl ?_
  refine wp_cSN1r (q := 26) d_G_part_23 rfl bd_X_bit lk_G_37 sm_X_bit (Nat.le_of_ble_eq_true rfl) (Nat.le_of_ble_eq_true rfl) (Nat.le_of_ble_eq_true rfl) (c_bit (by omega)) ?_
  refine wp_iconst (q := 27) (v := -1) d_G_part_26 rfl (by decide) ?_
  refine wp_ixor (q := 28) d_G_part_27 rfl ?_
  refine wp_iand (q := 29) d_G_part_28 rfl ?_
  rw [pu_not]
  refine wp_iastoreN (q := 30) d_G_part_29 rfl hG.2.1 rfl hj (by decide) rfl ?_
  rw [pu_upd]
  have hG1 : GI a p c n k (pu_set P j (pu_dif (P j) (2 ^ i))) (pu_set C i (pu_dif (C i) (2 ^ j))) (w.set p (am_ar 8 (pu_set P j (pu_dif (P j) (2 ^ i))))) := ⟨am_at_ne (Ne.symm h1) hG.1, am_at_eq hG.2.1, am_at_ne h3 hG.2.2⟩
  have f1 := f1.put (a := p) (c := am_ar 8 (pu_set P j (pu_dif (P j) (2 ^ i)))) (by simp)
  generalize (w.set p (am_ar 8 (pu_set P j (pu_dif (P j) (2 ^ i))))) = w at hG1 f1 ⊢
  clear hG
  have hG := hG1
  refine wp_aload_n (q := 31) d_G_part_30 rfl rfl rfl ?_
  refine wp_dup (q := 32) d_G_part_31 rfl rfl ?_
  refine wp_get (q := 35) (k := 1) d_G_part_32 rfl ok_G (Nat.le_of_ble_eq_true rfl) fk_G_15 hG.1 rfl ?_
  refine wp_iconst (q := 36) (v := 1) d_G_part_35 rfl (by decide) ?_
  refine wp_isub (q := 37) d_G_part_36 rfl ?_
  rw [show (1 : Int32) = nI 1 from rfl, pk_sub hk]
  refine wp_put (q := 40) (k := 1) d_G_part_37 rfl ok_G (Nat.le_of_ble_eq_true rfl) fk_G_15 rfl am_fit_i hG.1 (Nat.le_of_ble_eq_true rfl) rfl ?_
  exact wp_return rfl d_G_part_40 ⟨rfl, f1.put (by simp), am_at_eq hG.1, am_at_ne h1 hG.2.1, am_at_ne h2 hG.2.2⟩
set_option maxHeartbeats 4000000 in
set_option maxRecDepth 100000 in
theorem c_G_empty {w : am_W} {a p c n k : Nat} {P C : Nat → Nat} (hG : GI a p c n k P C w) (h1 : a ≠ p) (h2 : a ≠ c) (h3 : p ≠ c) : am_Wp none m_G_empty 1 0 0 0 [(0, .ref a)] [] w (fun v w1 => v = none ∧ am_fr [a, p, c] w w1 ∧ GI a p c 0 0 (fun _ => 0) (fun _ => 0) w1) := by
  refine wp_aload_n (q := 1) d_G_empty_0 rfl rfl rfl ?_
  refine wp_iconst (q := 2) (v := 0) d_G_empty_1 rfl (by decide) ?_
  refine wp_put (q := 5) (k := 0) d_G_empty_2 rfl ok_G (Nat.le_of_ble_eq_true rfl) fk_G_9 rfl am_fit_i hG.1 (Nat.le_of_ble_eq_true rfl) rfl ?_
  have hG1 : GI a p c 0 k P C (w.set a (.inr (1, [.int (nI 0), .int (nI k), .ref p, .ref c]))) := ⟨am_at_eq hG.1, am_at_ne h1 hG.2.1, am_at_ne h2 hG.2.2⟩
  have f1 : am_fr [a, p, c] w (w.set a (.inr (1, [.int (nI 0), .int (nI k), .ref p, .ref c]))) := am_fr.rf.put (by simp)
  show am_Wp _ _ _ _ _ _ _ _ (w.set a (.inr (1, [.int (nI 0), .int (nI k), .ref p, .ref c]))) _
  generalize (w.set a (.inr (1, [.int (nI 0), .int (nI k), .ref p, .ref c]))) = w at hG1 f1 ⊢
  clear hG
  have hG := hG1
  refine wp_aload_n (q := 6) d_G_empty_5 rfl rfl rfl ?_
  refine wp_iconst (q := 7) (v := 0) d_G_empty_6 rfl (by decide) ?_
  refine wp_put (q := 10) (k := 1) d_G_empty_7 rfl ok_G (Nat.le_of_ble_eq_true rfl) fk_G_15 rfl am_fit_i hG.1 (Nat.le_of_ble_eq_true rfl) rfl ?_
  have hG1 : GI a p c 0 0 P C (w.set a (.inr (1, [.int (nI 0), .int (nI 0), .ref p, .ref c]))) := ⟨am_at_eq hG.1, am_at_ne h1 hG.2.1, am_at_ne h2 hG.2.2⟩
  have f1 := f1.put (a := a) (c := .inr (1, [.int (nI 0), .int (nI 0), .ref p, .ref c])) (by simp)
  show am_Wp _ _ _ _ _ _ _ _ (w.set a (.inr (1, [.int (nI 0), .int (nI 0), .ref p, .ref c]))) _
  generalize (w.set a (.inr (1, [.int (nI 0), .int (nI 0), .ref p, .ref c]))) = w at hG1 f1 ⊢
  clear hG
  have hG := hG1
  refine wp_aload_n (q := 11) d_G_empty_10 rfl rfl rfl ?_
  refine wp_get (q := 14) (k := 2) d_G_empty_11 rfl ok_G (Nat.le_of_ble_eq_true rfl) fk_G_18 hG.1 rfl ?_
  refine wp_iconst (q := 15) (v := 0) d_G_empty_14 rfl (by decide) ?_
  refine wp_cS2v (q := 18) d_G_empty_15 rfl bd_A_fillI lk_G_25 sm_A_fillI (Nat.le_of_ble_eq_true rfl) (Nat.le_of_ble_eq_true rfl) (Nat.le_of_ble_eq_true rfl) (c_fill hG.2.1 (by decide)) ?_
  have hG1 : GI a p c 0 0 (fun _ => 0) C (w.set p (am_ar 8 (fun _ => 0))) := ⟨am_at_ne (Ne.symm h1) hG.1, am_at_eq hG.2.1, am_at_ne h3 hG.2.2⟩
  have f1 := f1.put (a := p) (c := am_ar 8 (fun _ => 0)) (by simp)
  show am_Wp _ _ _ _ _ _ _ _ (w.set p (am_ar 8 (fun _ => 0))) _
  generalize (w.set p (am_ar 8 (fun _ => 0))) = w at hG1 f1 ⊢
  clear hG
  have hG := hG1
  refine wp_aload_n (q := 19) d_G_empty_18 rfl rfl rfl ?_
  refine wp_get (q := 22) (k := 3) d_G_empty_19 rfl ok_G (Nat.le_of_ble_eq_true rfl) fk_G_22 hG.1 rfl ?_
  refine wp_iconst (q := 23) (v := 0) d_G_empty_22 rfl (by decide) ?_
  refine wp_cS2v (q := 26) d_G_empty_23 rfl bd_A_fillI lk_G_25 sm_A_fillI (Nat.le_of_ble_eq_true rfl) (Nat.le_of_ble_eq_true rfl) (Nat.le_of_ble_eq_true rfl) (c_fill hG.2.2 (by decide)) ?_
  exact wp_return rfl d_G_empty_26 ⟨rfl, f1.put (by simp), am_at_ne (Ne.symm h2) hG.1, am_at_ne (Ne.symm h3) hG.2.1, am_at_eq hG.2.2⟩
