/-! CONTRACTS of Kin -/
set_option maxHeartbeats 4000000 in
set_option maxRecDepth 100000 in
theorem c_K_list_L2 {w : am_W} {x2 x3 : Int32} {n k : Nat} {P C : Nat → Nat} (hG : GI 21 22 23 n k P C w) (hn : n ≤ 8) (hC : ∀ i, C i < 256) (hlen : (pu_al C n n).length ≤ 10) {f1 f2 : Nat → Int32} {i : Nat} (hi : i < n) (hout : ∀ w1, am_fr [20, 24, 25] w w1 → w1[20]? = some (.inr (2, [.ref 21, .int (nI (pu_al C n (i + 1)).length), .ref 24, .ref 25, .ref 26, .int x2, .int x3])) → w1[24]? = some (.inl (0, 10, .inl (pu_l1 (pu_al C n (i + 1)) f1))) → w1[25]? = some (.inl (0, 10, .inl (pu_l2 (pu_al C n (i + 1)) f2))) → am_Wp none m_K_listArcs 1 0 0 92 [(0, .ref 20), (1, .int (nI i)), (2, .int (nI n))] [] w1 (fun v w1 => v = none ∧ am_fr [20, 24, 25] w w1 ∧ w1[20]? = some (.inr (2, [.ref 21, .int (nI (pu_al C n n).length), .ref 24, .ref 25, .ref 26, .int x2, .int x3])) ∧ KL (pu_al C n n) w1)) : ∀ j, j ≤ n → ∀ w1, am_fr [20, 24, 25] w w1 → w1[20]? = some (.inr (2, [.ref 21, .int (nI (pu_al C n i ++ pu_row C i j).length), .ref 24, .ref 25, .ref 26, .int x2, .int x3])) → w1[24]? = some (.inl (0, 10, .inl (pu_l1 (pu_al C n i ++ pu_row C i j) f1))) → w1[25]? = some (.inl (0, 10, .inl (pu_l2 (pu_al C n i ++ pu_row C i j) f2))) → am_Wp none m_K_listArcs 1 0 0 20 [(0, .ref 20), (1, .int (nI i)), (2, .int (nI j))] [] w1 (fun v w1 => v = none ∧ am_fr [20, 24, 25] w w1 ∧ w1[20]? = some (.inr (2, [.ref 21, .int (nI (pu_al C n n).length), .ref 24, .ref 25, .ref 26, .int x2, .int x3])) ∧ KL (pu_al C n n) w1) := by
  refine pu_up (P := fun j => ∀ w1, am_fr [20, 24, 25] w w1 → w1[20]? = some (.inr (2, [.ref 21, .int (nI (pu_al C n i ++ pu_row C i j).length), .ref 24, .ref 25, .ref 26, .int x2, .int x3])) → w1[24]? = some (.inl (0, 10, .inl (pu_l1 (pu_al C n i ++ pu_row C i j) f1))) → w1[25]? = some (.inl (0, 10, .inl (pu_l2 (pu_al C n i ++ pu_row C i j) f2))) → am_Wp none m_K_listArcs 1 0 0 20 [(0, .ref 20), (1, .int (nI i)), (2, .int (nI j))] [] w1 (fun v w1 => v = none ∧ am_fr [20, 24, 25] w w1 ∧ w1[20]? = some (.inr (2, [.ref 21, .int (nI (pu_al C n n).length), .ref 24, .ref 25, .ref 26, .int x2, .int x3])) ∧ KL (pu_al C n n) w1)) ?_ ?_
  · intro w1 fr hK h24 h25
    have hG1 := hG.at fr (by decide) (by decide) (by decide)
    refine wp_iload_n (q := 21) d_K_listArcs_20 rfl rfl rfl ?_
    refine wp_aload_n (q := 22) d_K_listArcs_21 rfl rfl rfl ?_
    refine wp_get (q := 25) (k := 0) d_K_listArcs_22 rfl ok_K (Nat.le_of_ble_eq_true rfl) fk_K_12 hK rfl ?_
    refine wp_getN (q := 28) (k := 0) d_K_listArcs_25 rfl ok_G (Nat.le_of_ble_eq_true rfl) fk_K_55 hG1.1 rfl ?_
    refine wp_icmp_ge (q := 31) (tgt := 92) d_K_listArcs_28 (by decide) rfl (fun _ => ?_) (fun c28 => absurd (nI_le (Nat.le_refl n) (by omega)) c28)
    exact hout w1 fr hK h24 h25
  · intro j hj ih w1 fr hK h24 h25
    have hG1 := hG.at fr (by decide) (by decide) (by decide)
    refine wp_iload_n (q := 21) d_K_listArcs_20 rfl rfl rfl ?_
    refine wp_aload_n (q := 22) d_K_listArcs_21 rfl rfl rfl ?_
    refine wp_get (q := 25) (k := 0) d_K_listArcs_22 rfl ok_K (Nat.le_of_ble_eq_true rfl) fk_K_12 hK rfl ?_
    refine wp_getN (q := 28) (k := 0) d_K_listArcs_25 rfl ok_G (Nat.le_of_ble_eq_true rfl) fk_K_55 hG1.1 rfl ?_
    refine wp_icmp_ge (q := 31) (tgt := 92) d_K_listArcs_28 (by decide) rfl (fun c28 => absurd c28 (nI_ge hj (by omega))) (fun _ => ?_)
    refine wp_aload_n (q := 32) d_K_listArcs_31 rfl rfl rfl ?_
    refine wp_get (q := 35) (k := 0) d_K_listArcs_32 rfl ok_K (Nat.le_of_ble_eq_true rfl) fk_K_12 hK rfl ?_
    refine wp_getN (q := 38) (k := 3) d_K_listArcs_35 rfl ok_G (Nat.le_of_ble_eq_true rfl) fk_K_58 hG1.1 rfl ?_
    refine wp_iload_n (q := 39) d_K_listArcs_38 rfl rfl rfl ?_
    refine wp_ialoadN (q := 40) d_K_listArcs_39 rfl hG1.2.2 rfl (by omega) (by decide) ?_
    refine wp_iload_n (q := 41) d_K_listArcs_40 rfl rfl rfl ?_
    refine wp_cSN2r (q := 44) d_K_listArcs_41 rfl bd_X_has lk_K_61 sm_X_has (Nat.le_of_ble_eq_true rfl) (Nat.le_of_ble_eq_true rfl) (Nat.le_of_ble_eq_true rfl) (c_has (Nat.lt_trans (hC i) (by decide)) (by omega)) ?_
    refine wp_if_eq (q := 47) (tgt := 86) d_K_listArcs_44 (by decide) rfl (fun c44 => ?_) (fun c44 => ?_)
    · refine wp_inc1 (q := 89) d_K_listArcs_86 rfl rfl (nI_1 _) (Nat.le_of_ble_eq_true rfl) rfl ?_
      refine wp_goto (tgt := 20) d_K_listArcs_89 (by decide) ?_
      have e : pu_row C i (j + 1) = pu_row C i j := by simp [pu_row, pu_b0.mp c44]
      rw [e] at ih
      exact ih w1 fr hK h24 h25
    · have e : pu_row C i (j + 1) = pu_row C i j ++ [(i, j)] := by simp [pu_row, pu_b1 c44]
      have hst := pu_stage (C := C) (n := n) (p := i) (c := j + 1) hi (by omega)
      rw [e, ← List.append_assoc, List.length_append] at hst
      have hlt : (pu_al C n i ++ pu_row C i j).length < 10 := by simp only [List.length_singleton] at hst; omega
      refine wp_aload_n (q := 48) d_K_listArcs_47 rfl rfl rfl ?_
      refine wp_get (q := 51) (k := 1) d_K_listArcs_48 rfl ok_K (Nat.le_of_ble_eq_true rfl) fk_K_18 hK rfl ?_
      refine wp_bipush (q := 53) (v := 10) d_K_listArcs_51 rfl (by decide) ?_
      refine wp_icmp_ge (q := 56) (tgt := 86) d_K_listArcs_53 (by decide) rfl (fun c53 => absurd c53 (by rw [show (10 : Int32) = nI 10 from rfl]; exact nI_ge hlt (by decide))) (fun _ => ?_)
      refine wp_aload_n (q := 57) d_K_listArcs_56 rfl rfl rfl ?_
      refine wp_get (q := 60) (k := 2) d_K_listArcs_57 rfl ok_K (Nat.le_of_ble_eq_true rfl) fk_K_22 hK rfl ?_
      refine wp_aload_n (q := 61) d_K_listArcs_60 rfl rfl rfl ?_
      refine wp_get (q := 64) (k := 1) d_K_listArcs_61 rfl ok_K (Nat.le_of_ble_eq_true rfl) fk_K_18 hK rfl ?_
      refine wp_iload_n (q := 65) d_K_listArcs_64 rfl rfl rfl ?_
      refine wp_iastoreN (q := 66) d_K_listArcs_65 rfl h24 rfl hlt (by decide) rfl ?_
      refine wp_aload_n (q := 67) d_K_listArcs_66 rfl rfl rfl ?_
      refine wp_get (q := 70) (k := 3) d_K_listArcs_67 rfl ok_K (Nat.le_of_ble_eq_true rfl) fk_K_26 (am_at_ne (by decide) hK) rfl ?_
      refine wp_aload_n (q := 71) d_K_listArcs_70 rfl rfl rfl ?_
      refine wp_get (q := 74) (k := 1) d_K_listArcs_71 rfl ok_K (Nat.le_of_ble_eq_true rfl) fk_K_18 (am_at_ne (by decide) hK) rfl ?_
      refine wp_iload_n (q := 75) d_K_listArcs_74 rfl rfl rfl ?_
      refine wp_iastoreN (q := 76) d_K_listArcs_75 rfl (am_at_ne (by decide) h25) rfl hlt (by decide) rfl ?_
      refine wp_aload_n (q := 77) d_K_listArcs_76 rfl rfl rfl ?_
      refine wp_dup (q := 78) d_K_listArcs_77 rfl rfl ?_
      refine wp_get (q := 81) (k := 1) d_K_listArcs_78 rfl ok_K (Nat.le_of_ble_eq_true rfl) fk_K_18 (am_at_ne (by decide) (am_at_ne (by decide) hK)) rfl ?_
      refine wp_iconst (q := 82) (v := 1) d_K_listArcs_81 rfl (by decide) ?_
      refine wp_iadd (q := 83) d_K_listArcs_82 rfl ?_
      rw [nI_1]
      refine wp_put (q := 86) (k := 1) d_K_listArcs_83 rfl ok_K (Nat.le_of_ble_eq_true rfl) fk_K_18 rfl am_fit_i (am_at_ne (by decide) (am_at_ne (by decide) hK)) (Nat.le_of_ble_eq_true rfl) rfl ?_
      refine wp_inc1 (q := 89) d_K_listArcs_86 rfl rfl (nI_1 _) (Nat.le_of_ble_eq_true rfl) rfl ?_
      refine wp_goto (tgt := 20) d_K_listArcs_89 (by decide) ?_
      rw [pu_l1_s (c := j), pu_l2_s (p := i)]
      rw [e, ← List.append_assoc] at ih
      refine ih _ (((fr.put (by simp)).put (by simp)).put (by simp)) ?_ (am_at_ne (by decide) (am_at_ne (by decide) (am_at_eq h24))) (am_at_ne (by decide) (am_at_eq (am_at_ne (by decide) h25)))
      rw [show (pu_al C n i ++ pu_row C i j ++ [(i, j)]).length = (pu_al C n i ++ pu_row C i j).length + 1 from List.length_append]
      exact am_at_eq (am_at_ne (a := 25) (by decide) (am_at_ne (a := 24) (by decide) hK))
set_option maxHeartbeats 4000000 in
set_option maxRecDepth 100000 in
theorem c_K_list_L {w : am_W} {x2 x3 : Int32} {n k : Nat} {P C : Nat → Nat} (hG : GI 21 22 23 n k P C w) (hn : n ≤ 8) (hC : ∀ i, C i < 256) (hlen : (pu_al C n n).length ≤ 10) {f1 f2 : Nat → Int32} : ∀ i, i ≤ n → ∀ w1, am_fr [20, 24, 25] w w1 → w1[20]? = some (.inr (2, [.ref 21, .int (nI (pu_al C n i).length), .ref 24, .ref 25, .ref 26, .int x2, .int x3])) → w1[24]? = some (.inl (0, 10, .inl (pu_l1 (pu_al C n i) f1))) → w1[25]? = some (.inl (0, 10, .inl (pu_l2 (pu_al C n i) f2))) → am_Wp none m_K_listArcs 1 0 0 7 [(0, .ref 20), (1, .int (nI i))] [] w1 (fun v w1 => v = none ∧ am_fr [20, 24, 25] w w1 ∧ w1[20]? = some (.inr (2, [.ref 21, .int (nI (pu_al C n n).length), .ref 24, .ref 25, .ref 26, .int x2, .int x3])) ∧ KL (pu_al C n n) w1) := by
  refine pu_up (P := fun i => ∀ w1, am_fr [20, 24, 25] w w1 → w1[20]? = some (.inr (2, [.ref 21, .int (nI (pu_al C n i).length), .ref 24, .ref 25, .ref 26, .int x2, .int x3])) → w1[24]? = some (.inl (0, 10, .inl (pu_l1 (pu_al C n i) f1))) → w1[25]? = some (.inl (0, 10, .inl (pu_l2 (pu_al C n i) f2))) → am_Wp none m_K_listArcs 1 0 0 7 [(0, .ref 20), (1, .int (nI i))] [] w1 (fun v w1 => v = none ∧ am_fr [20, 24, 25] w w1 ∧ w1[20]? = some (.inr (2, [.ref 21, .int (nI (pu_al C n n).length), .ref 24, .ref 25, .ref 26, .int x2, .int x3])) ∧ KL (pu_al C n n) w1)) ?_ ?_
  · intro w1 fr hK h24 h25
    have hG1 := hG.at fr (by decide) (by decide) (by decide)
    refine wp_iload_n (q := 8) d_K_listArcs_7 rfl rfl rfl ?_
    refine wp_aload_n (q := 9) d_K_listArcs_8 rfl rfl rfl ?_
    refine wp_get (q := 12) (k := 0) d_K_listArcs_9 rfl ok_K (Nat.le_of_ble_eq_true rfl) fk_K_12 hK rfl ?_
    refine wp_getN (q := 15) (k := 0) d_K_listArcs_12 rfl ok_G (Nat.le_of_ble_eq_true rfl) fk_K_55 hG1.1 rfl ?_
    refine wp_icmp_ge (q := 18) (tgt := 98) d_K_listArcs_15 (by decide) rfl (fun _ => ?_) (fun c15 => absurd (nI_le (Nat.le_refl n) (by omega)) c15)
    exact wp_return rfl d_K_listArcs_98 ⟨rfl, fr, hK, _, _, h24, h25⟩
  · intro i hi ih w1 fr hK h24 h25
    have hG1 := hG.at fr (by decide) (by decide) (by decide)
    refine wp_iload_n (q := 8) d_K_listArcs_7 rfl rfl rfl ?_
    refine wp_aload_n (q := 9) d_K_listArcs_8 rfl rfl rfl ?_
    refine wp_get (q := 12) (k := 0) d_K_listArcs_9 rfl ok_K (Nat.le_of_ble_eq_true rfl) fk_K_12 hK rfl ?_
    refine wp_getN (q := 15) (k := 0) d_K_listArcs_12 rfl ok_G (Nat.le_of_ble_eq_true rfl) fk_K_55 hG1.1 rfl ?_
    refine wp_icmp_ge (q := 18) (tgt := 98) d_K_listArcs_15 (by decide) rfl (fun c15 => absurd c15 (nI_ge hi (by omega))) (fun _ => ?_)
    refine wp_iconst (q := 19) (v := 0) d_K_listArcs_18 rfl (by decide) ?_
    refine wp_istore_n (q := 20) d_K_listArcs_19 rfl rfl (Nat.le_of_ble_eq_true rfl) rfl ?_
    refine c_K_list_L2 hG hn hC hlen hi (fun w2 fr2 hK2 g24 g25 => ?_) 0 (Nat.zero_le _) w1 fr (by rw [show pu_al C n i ++ pu_row C i 0 = pu_al C n i from List.append_nil _]; exact hK) (by rw [show pu_al C n i ++ pu_row C i 0 = pu_al C n i from List.append_nil _]; exact h24) (by rw [show pu_al C n i ++ pu_row C i 0 = pu_al C n i from List.append_nil _]; exact h25)
    refine wp_inc1 (q := 95) d_K_listArcs_92 rfl rfl (nI_1 _) (Nat.le_of_ble_eq_true rfl) rfl ?_
    refine wp_goto (tgt := 7) d_K_listArcs_95 (by decide) ?_
    refine wp_lo [(0, .ref 20), (1, .int (nI (i + 1)))] ⟨rfl, rfl, trivial⟩ ?_
    exact ih w2 fr2 hK2 g24 g25
set_option maxHeartbeats 4000000 in
set_option maxRecDepth 100000 in
theorem c_K_list {w : am_W} {x2 x3 : Int32} {n k : Nat} {P C : Nat → Nat} (hG : GI 21 22 23 n k P C w) (hn : n ≤ 8) (hC : ∀ i, C i < 256) (hlen : (pu_al C n n).length ≤ 10) {x1 : Int32} (hK : w[20]? = some (.inr (2, [.ref 21, .int x1, .ref 24, .ref 25, .ref 26, .int x2, .int x3]))) {f1 f2 : Nat → Int32} (h24 : w[24]? = some (.inl (0, 10, .inl f1))) (h25 : w[25]? = some (.inl (0, 10, .inl f2))) : am_Wp none m_K_listArcs 1 0 0 0 [(0, .ref 20)] [] w (fun v w1 => v = none ∧ am_fr [20, 24, 25] w w1 ∧ w1[20]? = some (.inr (2, [.ref 21, .int (nI (pu_al C n n).length), .ref 24, .ref 25, .ref 26, .int x2, .int x3])) ∧ KL (pu_al C n n) w1) := by
  refine wp_aload_n (q := 1) d_K_listArcs_0 rfl rfl rfl ?_
  refine wp_iconst (q := 2) (v := 0) d_K_listArcs_1 rfl (by decide) ?_
  refine wp_put (q := 5) (k := 1) d_K_listArcs_2 rfl ok_K (Nat.le_of_ble_eq_true rfl) fk_K_18 rfl am_fit_i hK (Nat.le_of_ble_eq_true rfl) rfl ?_
  refine wp_iconst (q := 6) (v := 0) d_K_listArcs_5 rfl (by decide) ?_
  refine wp_istore_n (q := 7) d_K_listArcs_6 rfl rfl (Nat.le_of_ble_eq_true rfl) rfl ?_
  exact c_K_list_L hG hn hC hlen 0 (Nat.zero_le _) _ (am_fr.rf.put (by simp)) (am_at_eq hK) (am_at_ne (by decide) h24) (am_at_ne (by decide) h25)
set_option maxHeartbeats 4000000 in
set_option maxRecDepth 100000 in
theorem c_K_isTurned_L {w : am_W} {L : List (Nat × Nat)} {fo tu : Nat} (hK : KO L.length fo tu w) (hL : KL L w) (hl : L.length ≤ 10) (htu : tu < 1024) (hq : ∀ (i : Nat) (q : Nat × Nat), L[i]? = some q → q.1 < 8 ∧ q.2 < 8) {p c : Nat} (hp : p < 8) (hc : c < 8) : ∀ (k i : Nat), i + k = L.length → am_Wp none m_K_isTurned 1 0 0 2 [(0, .ref 20), (1, .int (nI p)), (2, .int (nI c)), (3, .int (nI i))] [] w (am_R (some (.int (pu_b (pu_it L tu p c k i)))) w) := by
  obtain ⟨f1, f2, e1, e2⟩ := hL
  intro k
  induction k with
  | zero =>
    intro i hi
    refine wp_iload_n (q := 3) d_K_isTurned_2 rfl rfl rfl ?_
    refine wp_aload_n (q := 4) d_K_isTurned_3 rfl rfl rfl ?_
    refine wp_get (q := 7) (k := 1) d_K_isTurned_4 rfl ok_K (Nat.le_of_ble_eq_true rfl) fk_K_18 hK rfl ?_
    refine wp_icmp_ge (q := 10) (tgt := 45) d_K_isTurned_7 (by decide) rfl (fun _ => ?_) (fun c7 => absurd (nI_le (by omega) (by omega)) c7)
    refine wp_iconst (q := 46) (v := 0) d_K_isTurned_45 rfl (by decide) ?_
    exact wp_zreturn rfl rfl d_K_isTurned_46 ⟨rfl, rfl⟩
  | succ k ih =>
    intro i hi
    obtain ⟨q, hx⟩ : ∃ q, L[i]? = some q := ⟨_, List.getElem?_eq_getElem (by omega)⟩
    have hq1 := hq i q hx
    refine wp_iload_n (q := 3) d_K_isTurned_2 rfl rfl rfl ?_
    refine wp_aload_n (q := 4) d_K_isTurned_3 rfl rfl rfl ?_
    refine wp_get (q := 7) (k := 1) d_K_isTurned_4 rfl ok_K (Nat.le_of_ble_eq_true rfl) fk_K_18 hK rfl ?_
    refine wp_icmp_ge (q := 10) (tgt := 45) d_K_isTurned_7 (by decide) rfl (fun c7 => absurd c7 (nI_ge (by omega) (by omega))) (fun _ => ?_)
    refine wp_aload_n (q := 11) d_K_isTurned_10 rfl rfl rfl ?_
    refine wp_get (q := 14) (k := 2) d_K_isTurned_11 rfl ok_K (Nat.le_of_ble_eq_true rfl) fk_K_22 hK rfl ?_
    refine wp_iload_n (q := 15) d_K_isTurned_14 rfl rfl rfl ?_
    refine wp_ialoadN (q := 16) d_K_isTurned_15 rfl e1 rfl (by omega) (by decide) ?_
    rw [pu_l1_at hx]
    refine wp_iload_n (q := 17) d_K_isTurned_16 rfl rfl rfl ?_
    refine wp_icmp_ne (q := 20) (tgt := 39) d_K_isTurned_17 (by decide) rfl (fun c17 => ?_) (fun c17 => ?_)
    · refine wp_inc1 (q := 42) d_K_isTurned_39 rfl rfl (nI_1 _) (Nat.le_of_ble_eq_true rfl) rfl ?_
      refine wp_goto (tgt := 2) d_K_isTurned_42 (by decide) ?_
      have hne : ¬ (L[i]? = some (p, c)) := fun e => by rw [hx] at e; cases e; exact c17 rfl
      have e9 : pu_it L tu p c (k + 1) i = pu_it L tu p c k (i + 1) := by simp only [pu_it]; rw [if_neg hne]
      rw [e9]
      exact ih (i + 1) (by omega)
    · refine wp_aload_n (q := 21) d_K_isTurned_20 rfl rfl rfl ?_
      refine wp_get (q := 24) (k := 3) d_K_isTurned_21 rfl ok_K (Nat.le_of_ble_eq_true rfl) fk_K_26 hK rfl ?_
      refine wp_iload_n (q := 25) d_K_isTurned_24 rfl rfl rfl ?_
      refine wp_ialoadN (q := 26) d_K_isTurned_25 rfl e2 rfl (by omega) (by decide) ?_
      rw [pu_l2_at hx]
      refine wp_iload_n (q := 27) d_K_isTurned_26 rfl rfl rfl ?_
      refine wp_icmp_ne (q := 30) (tgt := 39) d_K_isTurned_27 (by decide) rfl (fun c27 => ?_) (fun c27 => ?_)
      · refine wp_inc1 (q := 42) d_K_isTurned_39 rfl rfl (nI_1 _) (Nat.le_of_ble_eq_true rfl) rfl ?_
        refine wp_goto (tgt := 2) d_K_isTurned_42 (by decide) ?_
        have hne : ¬ (L[i]? = some (p, c)) := fun e => by rw [hx] at e; cases e; exact c27 rfl
        have e9 : pu_it L tu p c (k + 1) i = pu_it L tu p c k (i + 1) := by simp only [pu_it]; rw [if_neg hne]
        rw [e9]
        exact ih (i + 1) (by omega)
      · refine wp_aload_n (q := 31) d_K_isTurned_30 rfl rfl rfl ?_
        refine wp_get (q := 34) (k := 6) d_K_isTurned_31 rfl ok_K (Nat.le_of_ble_eq_true rfl) fk_K_35 hK rfl ?_
        refine wp_iload_n (q := 35) d_K_isTurned_34 rfl rfl rfl ?_
        refine wp_cSN2r (q := 38) d_K_isTurned_35 rfl bd_X_has lk_K_61 sm_X_has (Nat.le_of_ble_eq_true rfl) (Nat.le_of_ble_eq_true rfl) (Nat.le_of_ble_eq_true rfl) (c_has (by omega) (by omega)) ?_
        exact wp_zreturn rfl (by cases (tu.testBit i) <;> rfl) d_K_isTurned_38 ⟨by simp only [pu_it]; rw [if_pos (by rw [hx]; exact congrArg some (Prod.ext (pu_nI_inj (by omega) (by omega) c17) (pu_nI_inj (by omega) (by omega) c27)))], rfl⟩
set_option maxHeartbeats 4000000 in
set_option maxRecDepth 100000 in
theorem c_K_isTurned {w : am_W} {L : List (Nat × Nat)} {fo tu : Nat} (hK : KO L.length fo tu w) (hL : KL L w) (hl : L.length ≤ 10) (htu : tu < 1024) (hq : ∀ (i : Nat) (q : Nat × Nat), L[i]? = some q → q.1 < 8 ∧ q.2 < 8) {p c : Nat} (hp : p < 8) (hc : c < 8) : am_Wp none m_K_isTurned 1 0 0 0 [(0, .ref 20), (1, .int (nI p)), (2, .int (nI c))] [] w (am_R (some (.int (pu_b (pu_it L tu p c L.length 0)))) w) := by
  refine wp_iconst (q := 1) (v := 0) d_K_isTurned_0 rfl (by decide) ?_
  refine wp_istore_n (q := 2) d_K_isTurned_1 rfl rfl (Nat.le_of_ble_eq_true rfl) rfl ?_
  exact c_K_isTurned_L hK hL hl htu hq hp hc L.length 0 (by omega)
set_option maxHeartbeats 4000000 in
set_option maxRecDepth 100000 in
theorem c_K_meets {w : am_W} {L : List (Nat × Nat)} {n k : Nat} {P C : Nat → Nat} {s : pu_S} (hK : KK L n k P C s w) (hP : ∀ i, P i < 256) (hs : pu_ok s) {p c : Nat} (hp : p < 8) (hc : c < 8) : am_Wp none m_K_meetsAsFirst 2 0 0 0 [(0, .ref 20), (1, .int (nI p)), (2, .int (nI c))] [] w (am_R (some (.int (pu_b (pu_mf P C s.1 p c)))) w) := by
  refine wp_aload_n (q := 1) d_K_meetsAsFirst_0 rfl rfl rfl ?_
  refine wp_get (q := 4) (k := 4) d_K_meetsAsFirst_1 rfl ok_K (Nat.le_of_ble_eq_true rfl) fk_K_29 hK.1 rfl ?_
  refine wp_iload_n (q := 5) d_K_meetsAsFirst_4 rfl rfl rfl ?_
  refine wp_ialoadN (q := 6) d_K_meetsAsFirst_5 rfl hK.2.2.2 rfl hc (by decide) ?_
  refine wp_aload_n (q := 7) d_K_meetsAsFirst_6 rfl rfl rfl ?_
  refine wp_get (q := 10) (k := 0) d_K_meetsAsFirst_7 rfl ok_K (Nat.le_of_ble_eq_true rfl) fk_K_12 hK.1 rfl ?_
  refine wp_iload_n (q := 11) d_K_meetsAsFirst_10 rfl rfl rfl ?_
  refine wp_cVN1r (q := 14) d_K_meetsAsFirst_11 rfl bd_G_neighbours lk_K_84 im_G_neighbours se_G_neighbours rfl (Nat.le_of_ble_eq_true rfl) (Nat.le_of_ble_eq_true rfl) hK.2.2.1.1 (Nat.le_of_ble_eq_true rfl) (c_G_neighbours hK.2.2.1 hp) ?_
  refine wp_iconst (q := 15) (v := -1) d_K_meetsAsFirst_14 rfl (by decide) ?_
  refine wp_ixor (q := 16) d_K_meetsAsFirst_15 rfl ?_
  refine wp_iand (q := 17) d_K_meetsAsFirst_16 rfl ?_
  rw [pu_not]
  refine wp_istore_n (q := 18) d_K_meetsAsFirst_17 rfl rfl (Nat.le_of_ble_eq_true rfl) rfl ?_
  refine wp_iload_n (q := 19) d_K_meetsAsFirst_18 rfl rfl rfl ?_
  refine wp_aload_n (q := 20) d_K_meetsAsFirst_19 rfl rfl rfl ?_
  refine wp_get (q := 23) (k := 0) d_K_meetsAsFirst_20 rfl ok_K (Nat.le_of_ble_eq_true rfl) fk_K_12 hK.1 rfl ?_
  refine wp_iload_n (q := 24) d_K_meetsAsFirst_23 rfl rfl rfl ?_
  refine wp_iload_n (q := 25) d_K_meetsAsFirst_24 rfl rfl rfl ?_
  refine wp_cVN2r (q := 28) d_K_meetsAsFirst_25 rfl bd_G_strangers lk_K_69 im_G_strangers se_G_strangers rfl (Nat.le_of_ble_eq_true rfl) (Nat.le_of_ble_eq_true rfl) hK.2.2.1.1 (Nat.le_of_ble_eq_true rfl) (c_G_strangers hK.2.2.1 hP hp hc) ?_
  refine wp_iconst (q := 29) (v := -1) d_K_meetsAsFirst_28 rfl (by decide) ?_
  refine wp_ixor (q := 30) d_K_meetsAsFirst_29 rfl ?_
  refine wp_iand (q := 31) d_K_meetsAsFirst_30 rfl ?_
  rw [pu_not]
  refine wp_if_ne (q := 34) (tgt := 38) d_K_meetsAsFirst_31 (by decide) rfl (fun c31 => ?_) (fun c31 => ?_)
  · refine wp_iconst (q := 39) (v := 0) d_K_meetsAsFirst_38 rfl (by decide) ?_
    exact wp_zreturn rfl rfl d_K_meetsAsFirst_39 ⟨by unfold pu_mf; rw [decide_eq_false (fun e => c31 (by rw [e]; exact nI_0))]; rfl, rfl⟩
  · refine wp_iconst (q := 35) (v := 1) d_K_meetsAsFirst_34 rfl (by decide) ?_
    refine wp_goto (tgt := 39) d_K_meetsAsFirst_35 (by decide) ?_
    exact wp_zreturn rfl rfl d_K_meetsAsFirst_39 ⟨by unfold pu_mf; rw [decide_eq_true (pu_nI_inj (Nat.lt_trans (pu_dif_lt (pu_dif_lt (hs c))) (by decide)) (by decide) (c31.trans nI_0.symm))]; rfl, rfl⟩
set_option maxHeartbeats 4000000 in
set_option maxRecDepth 100000 in
theorem c_K_one {w : am_W} {L : List (Nat × Nat)} {n k : Nat} {P C : Nat → Nat} {s : pu_S} (hK : KK L n k P C s w) (hP : ∀ i, P i < 256) (hs : pu_ok s) {i p c ts dd : Nat} {go : pu_S → pu_S} (hp : p < 8) (hc : c < 8) (hdd : 2 ≤ dd) (hgo : ∀ s, pu_ok s → pu_ok (go s)) (h : ∀ (s : pu_S) {w : am_W}, KK L n k P C s w → pu_ok s → am_Wp none m_K_direct dd 0 0 0 [(0, .ref 20), (1, .int (nI (i + 1))), (2, .int (nI ts))] [] w (fun v w1 => v = none ∧ am_fr [20, 26] w w1 ∧ KK L n k P C (go s) w1)) : am_Wp none m_K_directOne (dd + 1) 0 0 0 [(0, .ref 20), (1, .int (nI i)), (2, .int (nI p)), (3, .int (nI c)), (4, .int (nI ts))] [] w (fun v w1 => v = none ∧ am_fr [20, 26] w w1 ∧ KK L n k P C (pu_one P C go p c s) w1) := by
  refine wp_aload_n (q := 1) d_K_directOne_0 rfl rfl rfl ?_
  refine wp_iload_n (q := 2) d_K_directOne_1 rfl rfl rfl ?_
  refine wp_iload_n (q := 3) d_K_directOne_2 rfl rfl rfl ?_
  refine wp_cV2r (q := 6) d_K_directOne_3 rfl bd_K_meetsAsFirst lk_K_77 im_K_meetsAsFirst se_K_meetsAsFirst rfl (Nat.le_of_ble_eq_true rfl) (Nat.le_of_ble_eq_true rfl) hK.1 (by omega) (c_K_meets hK hP hs hp hc) ?_
  refine wp_if_eq (q := 9) (tgt := 27) d_K_directOne_6 (by decide) rfl (fun c6 => ?_) (fun c6 => ?_)
  · exact wp_return rfl d_K_directOne_27 ⟨rfl, am_fr.rf, by unfold pu_one pu_may; rw [pu_b0.mp c6]; exact hK⟩
  · refine wp_aload_n (q := 10) d_K_directOne_9 rfl rfl rfl ?_
    refine wp_get (q := 13) (k := 4) d_K_directOne_10 rfl ok_K (Nat.le_of_ble_eq_true rfl) fk_K_29 hK.1 rfl ?_
    refine wp_iload_n (q := 14) d_K_directOne_13 rfl rfl rfl ?_
    refine wp_cSN1r (q := 17) d_K_directOne_14 rfl bd_X_bit lk_K_73 sm_X_bit (Nat.le_of_ble_eq_true rfl) (Nat.le_of_ble_eq_true rfl) (by omega) (c_bit (by omega)) ?_
    refine wp_cSN2r (q := 20) d_K_directOne_17 rfl bd_X_closure lk_K_80 sm_X_closure (Nat.le_of_ble_eq_true rfl) (Nat.le_of_ble_eq_true rfl) (by omega) (c_closure hK.2.2.2 (by decide) hs (pu_p2 hp)) ?_
    refine wp_iload_n (q := 21) d_K_directOne_20 rfl rfl rfl ?_
    refine wp_cSN2r (q := 24) d_K_directOne_21 rfl bd_X_has lk_K_61 sm_X_has (Nat.le_of_ble_eq_true rfl) (Nat.le_of_ble_eq_true rfl) (by omega) (c_has (Nat.lt_trans (pu_cl_lt hs (pu_p2 hp)) (by decide)) (by omega)) ?_
    refine wp_if_eq (q := 27) (tgt := 28) d_K_directOne_24 (by decide) rfl (fun c24 => ?_) (fun c24 => ?_)
    · have hm : pu_may P C s.1 p c = true := by unfold pu_may; rw [pu_b1 c6, pu_b0.mp c24]; rfl
      refine wp_aload_n (q := 29) d_K_directOne_28 rfl rfl rfl ?_
      refine wp_get (q := 32) (k := 4) d_K_directOne_29 rfl ok_K (Nat.le_of_ble_eq_true rfl) fk_K_29 hK.1 rfl ?_
      refine wp_iload_n (q := 33) d_K_directOne_32 rfl rfl rfl ?_
      refine wp_dup2 (q := 34) d_K_directOne_33 rfl rfl rfl ?_
      refine wp_ialoadN (q := 35) d_K_directOne_34 rfl hK.2.2.2 rfl hc (by decide) ?_
      refine wp_iload_n (q := 36) d_K_directOne_35 rfl rfl rfl ?_
      refine wp_cSN1r (q := 39) d_K_directOne_36 rfl bd_X_bit lk_K_73 sm_X_bit (Nat.le_of_ble_eq_true rfl) (Nat.le_of_ble_eq_true rfl) (by omega) (c_bit (by omega)) ?_
      refine wp_ior (q := 40) d_K_directOne_39 rfl ?_
      rw [pu_or]
      refine wp_iastoreN (q := 41) d_K_directOne_40 rfl hK.2.2.2 rfl hc (by decide) rfl ?_
      rw [pu_upd]
      have f1 : am_fr [20, 26] w (w.set 26 (am_ar 8 (pu_on s p c).1)) := am_fr.rf.put (by simp)
      have hK1 : KK L n k P C (pu_on s p c) (w.set 26 (am_ar 8 (pu_on s p c).1)) := ⟨am_at_ne (by decide) hK.1, hK.2.1.at (am_fr.rf.put (D := [26]) (by simp)) (by decide) (by decide), hK.2.2.1.at (am_fr.rf.put (D := [26]) (by simp)) (by decide) (by decide) (by decide), am_at_eq hK.2.2.2⟩
      show am_Wp _ _ _ _ _ _ _ _ (w.set 26 (am_ar 8 (pu_on s p c).1)) _
      generalize (w.set 26 (am_ar 8 (pu_on s p c).1)) = w2 at hK1 f1 ⊢
      refine wp_aload_n (q := 42) d_K_directOne_41 rfl rfl rfl ?_
      refine wp_iload_n (q := 43) d_K_directOne_42 rfl rfl rfl ?_
      refine wp_iconst (q := 44) (v := 1) d_K_directOne_43 rfl (by decide) ?_
      refine wp_iadd (q := 45) d_K_directOne_44 rfl ?_
      rw [nI_1]
      refine wp_iload (q := 47) d_K_directOne_45 rfl rfl ?_
      refine wp_cV2g (q := 50) (bc1 := 0) (bs1 := 0) d_K_directOne_47 rfl bd_K_direct lk_K_51 im_K_direct se_K_direct rfl (Nat.le_of_ble_eq_true rfl) (Nat.le_of_ble_eq_true rfl) hK1.1 (Nat.le_refl _) (h (pu_on s p c) hK1 (pu_on_ok hs hp)) (fun v w1 hF => ?_)
      obtain ⟨rfl, f2, hK2⟩ := hF
      have f3 := f1.tr f2
      have hs2 := hgo _ (pu_on_ok (c := c) hs hp)
      refine wp_aload_n (q := 51) d_K_directOne_50 rfl rfl rfl ?_
      refine wp_get (q := 54) (k := 4) d_K_directOne_51 rfl ok_K (Nat.le_of_ble_eq_true rfl) fk_K_29 hK2.1 rfl ?_
      refine wp_iload_n (q := 55) d_K_directOne_54 rfl rfl rfl ?_
      refine wp_dup2 (q := 56) d_K_directOne_55 rfl rfl rfl ?_
      refine wp_ialoadN (q := 57) d_K_directOne_56 rfl hK2.2.2.2 rfl hc (by decide) ?_
      refine wp_iload_n (q := 58) d_K_directOne_57 rfl rfl rfl ?_
      refine wp_cSN1r (q := 61) d_K_directOne_58 rfl bd_X_bit lk_K_73 sm_X_bit (Nat.le_of_ble_eq_true rfl) (Nat.le_of_ble_eq_true rfl) (by omega) (c_bit (by omega)) ?_
      refine wp_iconst (q := 62) (v := -1) d_K_directOne_61 rfl (by decide) ?_
      refine wp_ixor (q := 63) d_K_directOne_62 rfl ?_
      refine wp_iand (q := 64) d_K_directOne_63 rfl ?_
      rw [pu_not]
      refine wp_iastoreN (q := 65) d_K_directOne_64 rfl hK2.2.2.2 rfl hc (by decide) rfl ?_
      rw [pu_upd]
      exact wp_return rfl d_K_directOne_65 ⟨rfl, f3.put (by simp), by unfold pu_one; rw [if_pos hm]; exact ⟨am_at_ne (by decide) hK2.1, hK2.2.1.at (am_fr.rf.put (D := [26]) (by simp)) (by decide) (by decide), hK2.2.2.1.at (am_fr.rf.put (D := [26]) (by simp)) (by decide) (by decide) (by decide), am_at_eq hK2.2.2.2⟩⟩
    · exact wp_return rfl d_K_directOne_27 ⟨rfl, am_fr.rf, by unfold pu_one pu_may; rw [pu_b1 c24]; simp only [Bool.not_true, Bool.and_false]; exact hK⟩
set_option maxHeartbeats 4000000 in
set_option maxRecDepth 100000 in
theorem c_K_direct {L : List (Nat × Nat)} {n k : Nat} {P C : Nat → Nat} (hP : ∀ i, P i < 256) (hl : L.length ≤ 10) (hq : ∀ (i : Nat) (q : Nat × Nat), L[i]? = some q → q.1 < 8 ∧ q.2 < 8) : ∀ (r ts : Nat) (s : pu_S) {w : am_W}, r ≤ L.length → KK L n k P C s w → pu_ok s → am_Wp none m_K_direct (2 * r + 4) 0 0 0 [(0, .ref 20), (1, .int (nI (L.length - r))), (2, .int (nI ts))] [] w (fun v w1 => v = none ∧ am_fr [20, 26] w w1 ∧ KK L n k P C (pu_dr P C L r ts s) w1) := by
  intro r
  induction r with
  | zero =>
    intro ts s w hr hK hs
    refine wp_iload_n (q := 1) d_K_direct_0 rfl rfl rfl ?_
    refine wp_aload_n (q := 2) d_K_direct_1 rfl rfl rfl ?_
    refine wp_get (q := 5) (k := 1) d_K_direct_2 rfl ok_K (Nat.le_of_ble_eq_true rfl) fk_K_18 hK.1 rfl ?_
    refine wp_icmp_lt (q := 8) (tgt := 29) d_K_direct_5 (by decide) rfl (fun c5 => absurd c5 (by rw [Nat.sub_zero]; exact nI_nlt (Nat.le_refl _) (by omega))) (fun _ => ?_)
    refine wp_aload_n (q := 9) d_K_direct_8 rfl rfl rfl ?_
    refine wp_dup (q := 10) d_K_direct_9 rfl rfl ?_
    refine wp_get (q := 13) (k := 5) d_K_direct_10 rfl ok_K (Nat.le_of_ble_eq_true rfl) fk_K_32 hK.1 rfl ?_
    refine wp_iconst (q := 14) (v := 1) d_K_direct_13 rfl (by decide) ?_
    refine wp_iadd (q := 15) d_K_direct_14 rfl ?_
    rw [nI_1]
    refine wp_put (q := 18) (k := 5) d_K_direct_15 rfl ok_K (Nat.le_of_ble_eq_true rfl) fk_K_32 rfl am_fit_i hK.1 (Nat.le_of_ble_eq_true rfl) rfl ?_
    refine wp_aload_n (q := 19) d_K_direct_18 rfl rfl rfl ?_
    refine wp_dup (q := 20) d_K_direct_19 rfl rfl ?_
    refine wp_get (q := 23) (k := 6) d_K_direct_20 rfl ok_K (Nat.le_of_ble_eq_true rfl) fk_K_35 (am_at_eq hK.1) rfl ?_
    refine wp_iload_n (q := 24) d_K_direct_23 rfl rfl rfl ?_
    refine wp_ior (q := 25) d_K_direct_24 rfl ?_
    rw [pu_or]
    refine wp_put (q := 28) (k := 6) d_K_direct_25 rfl ok_K (Nat.le_of_ble_eq_true rfl) fk_K_35 rfl am_fit_i (am_at_eq hK.1) (Nat.le_of_ble_eq_true rfl) rfl ?_
    exact wp_return rfl d_K_direct_28 ⟨rfl, (am_fr.rf.put (by simp)).put (by simp), am_at_eq (am_at_eq hK.1), (hK.2.1.at (am_fr.rf.put (D := [20]) (by simp)) (by decide) (by decide)).at (am_fr.rf.put (D := [20]) (by simp)) (by decide) (by decide), (hK.2.2.1.at (am_fr.rf.put (D := [20]) (by simp)) (by decide) (by decide) (by decide)).at (am_fr.rf.put (D := [20]) (by simp)) (by decide) (by decide) (by decide), am_at_ne (by decide) (am_at_ne (by decide) hK.2.2.2)⟩
  | succ r ih =>
    intro ts s w hr hK hs
    have ih := fun (t : Nat) (s : pu_S) {w : am_W} (hK : KK L n k P C s w) (hs : pu_ok s) => ih t s (by omega) hK hs
    obtain ⟨q, hx⟩ : ∃ q, L[L.length - (r + 1)]? = some q := ⟨_, List.getElem?_eq_getElem (by omega)⟩
    have hq1 := hq _ q hx
    obtain ⟨f1, f2, e1, e2⟩ := hK.2.1
    refine wp_iload_n (q := 1) d_K_direct_0 rfl rfl rfl ?_
    refine wp_aload_n (q := 2) d_K_direct_1 rfl rfl rfl ?_
    refine wp_get (q := 5) (k := 1) d_K_direct_2 rfl ok_K (Nat.le_of_ble_eq_true rfl) fk_K_18 hK.1 rfl ?_
    refine wp_icmp_lt (q := 8) (tgt := 29) d_K_direct_5 (by decide) rfl (fun _ => ?_) (fun c5 => absurd (nI_lt (by omega) (by omega)) c5)
    refine wp_aload_n (q := 30) d_K_direct_29 rfl rfl rfl ?_
    refine wp_get (q := 33) (k := 2) d_K_direct_30 rfl ok_K (Nat.le_of_ble_eq_true rfl) fk_K_22 hK.1 rfl ?_
    refine wp_iload_n (q := 34) d_K_direct_33 rfl rfl rfl ?_
    refine wp_ialoadN (q := 35) d_K_direct_34 rfl e1 rfl (by omega) (by decide) ?_
    rw [pu_l1_at hx]
    refine wp_istore_n (q := 36) d_K_direct_35 rfl rfl (Nat.le_of_ble_eq_true rfl) rfl ?_
    refine wp_aload_n (q := 37) d_K_direct_36 rfl rfl rfl ?_
    refine wp_get (q := 40) (k := 3) d_K_direct_37 rfl ok_K (Nat.le_of_ble_eq_true rfl) fk_K_26 hK.1 rfl ?_
    refine wp_iload_n (q := 41) d_K_direct_40 rfl rfl rfl ?_
    refine wp_ialoadN (q := 42) d_K_direct_41 rfl e2 rfl (by omega) (by decide) ?_
    rw [pu_l2_at hx]
    refine wp_istore (q := 44) d_K_direct_42 rfl (Nat.le_of_ble_eq_true rfl) rfl ?_
    refine wp_aload_n (q := 45) d_K_direct_44 rfl rfl rfl ?_
    refine wp_iload_n (q := 46) d_K_direct_45 rfl rfl rfl ?_
    refine wp_iload_n (q := 47) d_K_direct_46 rfl rfl rfl ?_
    refine wp_iload (q := 49) d_K_direct_47 rfl rfl ?_
    refine wp_iload_n (q := 50) d_K_direct_49 rfl rfl rfl ?_
    refine wp_cV4g (q := 53) (bc1 := 0) (bs1 := 0) d_K_direct_50 rfl bd_K_directOne lk_K_65 im_K_directOne se_K_directOne rfl (Nat.le_of_ble_eq_true rfl) (Nat.le_of_ble_eq_true rfl) hK.1 (by omega) (c_K_one (dd := 2 * r + 4) (go := pu_dr P C L r ts) hK hP hs hq1.1 hq1.2 (by omega) (fun s hs => pu_dr_ok hq r _ s hs) (fun s {w} hK hs => by rw [show L.length - (r + 1) + 1 = L.length - r by omega]; exact ih ts s hK hs)) (fun v w1 hF => ?_)
    obtain ⟨rfl, f1, hK1⟩ := hF
    have hs1 := pu_one_ok (P := P) (C := C) (go := pu_dr P C L r ts) (p := q.1) (c := q.2) hq1.1 (fun s hs => pu_dr_ok hq r ts s hs) hs
    have e9 : pu_dr P C L (r + 1) ts s = (if pu_st P C q.1 q.2 = 0 then pu_one P C (pu_dr P C L r (ts ||| 2 ^ (L.length - (r + 1)))) q.2 q.1 (pu_one P C (pu_dr P C L r ts) q.1 q.2 s) else pu_one P C (pu_dr P C L r ts) q.1 q.2 s) := by rw [pu_dr]; rw [hx]
    rw [e9]
    refine wp_aload_n (q := 54) d_K_direct_53 rfl rfl rfl ?_
    refine wp_get (q := 57) (k := 0) d_K_direct_54 rfl ok_K (Nat.le_of_ble_eq_true rfl) fk_K_12 hK1.1 rfl ?_
    refine wp_iload_n (q := 58) d_K_direct_57 rfl rfl rfl ?_
    refine wp_iload (q := 60) d_K_direct_58 rfl rfl ?_
    refine wp_cVN2r (q := 63) d_K_direct_60 rfl bd_G_strangers lk_K_69 im_G_strangers se_G_strangers rfl (Nat.le_of_ble_eq_true rfl) (Nat.le_of_ble_eq_true rfl) hK1.2.2.1.1 (by omega) (c_G_strangers hK1.2.2.1 hP hq1.1 hq1.2) ?_
    refine wp_if_ne (q := 66) (tgt := 80) d_K_direct_63 (by decide) rfl (fun c63 => ?_) (fun c63 => ?_)
    · rw [if_neg (fun e => c63 (by rw [e]; exact nI_0))]
      exact wp_return rfl d_K_direct_80 ⟨rfl, f1, hK1⟩
    · rw [if_pos (pu_nI_inj (Nat.lt_trans (pu_st_lt hP) (by decide)) (by decide) (c63.trans nI_0.symm))]
      refine wp_aload_n (q := 67) d_K_direct_66 rfl rfl rfl ?_
      refine wp_iload_n (q := 68) d_K_direct_67 rfl rfl rfl ?_
      refine wp_iload (q := 70) d_K_direct_68 rfl rfl ?_
      refine wp_iload_n (q := 71) d_K_direct_70 rfl rfl rfl ?_
      refine wp_iload_n (q := 72) d_K_direct_71 rfl rfl rfl ?_
      refine wp_iload_n (q := 73) d_K_direct_72 rfl rfl rfl ?_
      refine wp_cSN1r (q := 76) d_K_direct_73 rfl bd_X_bit lk_K_73 sm_X_bit (Nat.le_of_ble_eq_true rfl) (Nat.le_of_ble_eq_true rfl) (by omega) (c_bit (by omega)) ?_
      refine wp_ior (q := 77) d_K_direct_76 rfl ?_
      rw [pu_or]
      refine wp_cV4g (q := 80) (bc1 := 0) (bs1 := 0) d_K_direct_77 rfl bd_K_directOne lk_K_65 im_K_directOne se_K_directOne rfl (Nat.le_of_ble_eq_true rfl) (Nat.le_of_ble_eq_true rfl) hK1.1 (by omega) (c_K_one (dd := 2 * r + 4) (go := pu_dr P C L r (ts ||| 2 ^ (L.length - (r + 1)))) hK1 hP hs1 hq1.2 hq1.1 (by omega) (fun s hs => pu_dr_ok hq r _ s hs) (fun s {w} hK hs => by rw [show L.length - (r + 1) + 1 = L.length - r by omega]; exact ih (ts ||| 2 ^ (L.length - (r + 1))) s hK hs)) (fun v w1 hF => ?_)
      obtain ⟨rfl, f2, hK2⟩ := hF
      exact wp_return rfl d_K_direct_80 ⟨rfl, f1.tr f2, hK2⟩
