/-! CONTRACTS of the leaves: bit, has, answer, union, closure, bitCount, fill -/
set_option maxHeartbeats 4000000 in
set_option maxRecDepth 100000 in
theorem c_bit {w : am_W} {i : Nat} (hi : i < 31) : am_Wp none m_X_bit 0 0 0 0 [(0, .int (nI i))] [] w (am_R (some (.int (nI (2 ^ i)))) w) := by
  refine wp_iconst (q := 1) (v := 1) d_X_bit_0 rfl (by decide) ?_
  refine wp_iload_n (q := 2) d_X_bit_1 rfl rfl rfl ?_
  refine wp_ishl (q := 3) d_X_bit_2 rfl ?_
  exact wp_ireturn rfl d_X_bit_3 ⟨by rw [pu_bit i hi], rfl⟩
set_option maxHeartbeats 4000000 in
set_option maxRecDepth 100000 in
theorem c_has {w : am_W} {m i : Nat} (hm : m < 2 ^ 31) (hi : i < 32) : am_Wp none m_X_has 0 0 0 0 [(0, .int (nI m)), (1, .int (nI i))] [] w (am_R (some (.int (pu_b (m.testBit i)))) w) := by
  refine wp_iload_n (q := 1) d_X_has_0 rfl rfl rfl ?_
  refine wp_iload_n (q := 2) d_X_has_1 rfl rfl rfl ?_
  refine wp_ishr (q := 3) d_X_has_2 rfl ?_
  refine wp_iconst (q := 4) (v := 1) d_X_has_3 rfl (by decide) ?_
  refine wp_iand (q := 5) d_X_has_4 rfl ?_
  refine wp_if_eq (q := 8) (tgt := 12) d_X_has_5 (by decide) rfl (fun c5 => ?_) (fun c5 => ?_)
  · rw [pu_has hm hi] at c5
    refine wp_iconst (q := 13) (v := 0) d_X_has_12 rfl (by decide) ?_
    exact wp_zreturn rfl rfl d_X_has_13 ⟨by rw [pu_b0.mp c5]; rfl, rfl⟩
  · rw [pu_has hm hi] at c5
    refine wp_iconst (q := 9) (v := 1) d_X_has_8 rfl (by decide) ?_
    refine wp_goto (tgt := 13) d_X_has_9 (by decide) ?_
    exact wp_zreturn rfl rfl d_X_has_13 ⟨by rw [pu_b1 c5]; rfl, rfl⟩
set_option maxHeartbeats 4000000 in
set_option maxRecDepth 100000 in
theorem c_answer {w : am_W} {b : Bool} : am_Wp none m_X_answer 0 0 0 0 [(0, .int (pu_b b))] [] w (am_R (some (.int (pu_b b))) w) := by
  refine wp_iload_n (q := 1) d_X_answer_0 rfl rfl rfl ?_
  refine wp_if_eq (q := 4) (tgt := 8) d_X_answer_1 (by decide) rfl (fun c1 => ?_) (fun c1 => ?_)
  · refine wp_iconst (q := 9) (v := 0) d_X_answer_8 rfl (by decide) ?_
    exact wp_ireturn rfl d_X_answer_9 ⟨by rw [pu_b0.mp c1]; rfl, rfl⟩
  · refine wp_iconst (q := 5) (v := 1) d_X_answer_4 rfl (by decide) ?_
    refine wp_goto (tgt := 9) d_X_answer_5 (by decide) ?_
    exact wp_ireturn rfl d_X_answer_9 ⟨by rw [pu_b1 c1]; rfl, rfl⟩
set_option maxHeartbeats 4000000 in
set_option maxRecDepth 100000 in
theorem c_union_L {w : am_W} {a n m : Nat} {g : Nat → Nat} (hc : w[a]? = some (.inl (0, n, .inl (fun i => nI (g i))))) (hn : n ≤ 31) (hm : m < 2 ^ 31) : ∀ i, i ≤ n → am_Wp none m_X_union 1 0 0 4 [(0, .ref a), (1, .int (nI m)), (2, .int (nI (pu_un g m i))), (3, .int (nI i))] [] w (am_R (some (.int (nI (pu_un g m n)))) w) := by
  refine pu_up (P := fun i => am_Wp none m_X_union 1 0 0 4 [(0, .ref a), (1, .int (nI m)), (2, .int (nI (pu_un g m i))), (3, .int (nI i))] [] w (am_R (some (.int (nI (pu_un g m n)))) w)) ?_ ?_
  · show am_Wp _ _ _ _ _ _ _ _ _ _
    refine wp_iload_n (q := 5) d_X_union_4 rfl rfl rfl ?_
    refine wp_aload_n (q := 6) d_X_union_5 rfl rfl rfl ?_
    refine wp_alen (v := nI n) (q := 7) d_X_union_6 rfl hc (by decide) rfl ?_
    refine wp_icmp_ge (q := 10) (tgt := 30) d_X_union_7 (by decide) rfl (fun _ => ?_) (fun c7 => absurd (nI_le (Nat.le_refl n) (by omega)) c7)
    refine wp_iload_n (q := 31) d_X_union_30 rfl rfl rfl ?_
    exact wp_ireturn rfl d_X_union_31 ⟨rfl, rfl⟩
  · intro i hi ih
    have ih : am_Wp _ _ _ _ _ _ _ _ _ _ := ih
    show am_Wp _ _ _ _ _ _ _ _ _ _
    refine wp_iload_n (q := 5) d_X_union_4 rfl rfl rfl ?_
    refine wp_aload_n (q := 6) d_X_union_5 rfl rfl rfl ?_
    refine wp_alen (v := nI n) (q := 7) d_X_union_6 rfl hc (by decide) rfl ?_
    refine wp_icmp_ge (q := 10) (tgt := 30) d_X_union_7 (by decide) rfl (fun c7 => absurd c7 (nI_ge hi (by omega))) (fun _ => ?_)
    refine wp_iload_n (q := 11) d_X_union_10 rfl rfl rfl ?_
    refine wp_iload_n (q := 12) d_X_union_11 rfl rfl rfl ?_
    refine wp_cS2r (q := 15) d_X_union_12 rfl bd_X_has lk_X_82 sm_X_has (Nat.le_of_ble_eq_true rfl) (Nat.le_of_ble_eq_true rfl) (Nat.le_of_ble_eq_true rfl) (c_has hm (by omega)) ?_
    refine wp_if_eq (q := 18) (tgt := 24) d_X_union_15 (by decide) rfl (fun c15 => ?_) (fun c15 => ?_)
    · refine wp_inc1 (q := 27) d_X_union_24 rfl rfl (nI_1 _) (Nat.le_of_ble_eq_true rfl) rfl ?_
      refine wp_goto (tgt := 4) d_X_union_27 (by decide) ?_
      have e : pu_un g m (i + 1) = pu_un g m i := by simp [pu_un, pu_b0.mp c15]
      rw [e] at ih
      exact ih
    · refine wp_iload_n (q := 19) d_X_union_18 rfl rfl rfl ?_
      refine wp_aload_n (q := 20) d_X_union_19 rfl rfl rfl ?_
      refine wp_iload_n (q := 21) d_X_union_20 rfl rfl rfl ?_
      refine wp_ialoadN (q := 22) d_X_union_21 rfl hc rfl hi (by omega) ?_
      refine wp_ior (q := 23) d_X_union_22 rfl ?_
      refine wp_istore_n (q := 24) d_X_union_23 rfl rfl (Nat.le_of_ble_eq_true rfl) rfl ?_
      refine wp_inc1 (q := 27) d_X_union_24 rfl rfl (nI_1 _) (Nat.le_of_ble_eq_true rfl) rfl ?_
      refine wp_goto (tgt := 4) d_X_union_27 (by decide) ?_
      have e : pu_un g m (i + 1) = pu_un g m i ||| g i := by simp [pu_un, pu_b1 c15]
      rw [e, ← pu_or] at ih
      exact ih
set_option maxHeartbeats 4000000 in
set_option maxRecDepth 100000 in
theorem c_union {w : am_W} {a n m : Nat} {g : Nat → Nat} (hc : w[a]? = some (.inl (0, n, .inl (fun i => nI (g i))))) (hn : n ≤ 31) (hm : m < 2 ^ 31) : am_Wp none m_X_union 1 0 0 0 [(0, .ref a), (1, .int (nI m))] [] w (am_R (some (.int (nI (pu_un g m n)))) w) := by
  refine wp_iconst (q := 1) (v := 0) d_X_union_0 rfl (by decide) ?_
  refine wp_istore_n (q := 2) d_X_union_1 rfl rfl (Nat.le_of_ble_eq_true rfl) rfl ?_
  refine wp_iconst (q := 3) (v := 0) d_X_union_2 rfl (by decide) ?_
  refine wp_istore_n (q := 4) d_X_union_3 rfl rfl (Nat.le_of_ble_eq_true rfl) rfl ?_
  exact c_union_L hc hn hm 0 (Nat.zero_le _)
set_option maxHeartbeats 4000000 in
set_option maxRecDepth 100000 in
theorem c_closure_L {w : am_W} {a n : Nat} {y : Int32} {g : Nat → Nat} (hc : w[a]? = some (.inl (0, n, .inl (fun i => nI (g i))))) (hn : n ≤ 31) (hg : ∀ i, g i < 2 ^ 8) : ∀ (k x i : Nat), i + k = n → x < 2 ^ 8 → am_Wp none m_X_closure 2 0 0 4 [(0, .ref a), (1, .int y), (2, .int (nI x)), (3, .int (nI i))] [] w (am_R (some (.int (nI (pu_cl g n k x)))) w) := by
  intro k
  induction k with
  | zero =>
    intro x i hi hx
    refine wp_iload_n (q := 5) d_X_closure_4 rfl rfl rfl ?_
    refine wp_aload_n (q := 6) d_X_closure_5 rfl rfl rfl ?_
    refine wp_alen (v := nI n) (q := 7) d_X_closure_6 rfl hc (by decide) rfl ?_
    refine wp_icmp_ge (q := 10) (tgt := 37) d_X_closure_7 (by decide) rfl (fun _ => ?_) (fun c7 => absurd (nI_le (by omega) (by omega)) c7)
    refine wp_iload_n (q := 38) d_X_closure_37 rfl rfl rfl ?_
    exact wp_ireturn rfl d_X_closure_38 ⟨rfl, rfl⟩
  | succ k ih =>
    intro x i hi hx
    refine wp_iload_n (q := 5) d_X_closure_4 rfl rfl rfl ?_
    refine wp_aload_n (q := 6) d_X_closure_5 rfl rfl rfl ?_
    refine wp_alen (v := nI n) (q := 7) d_X_closure_6 rfl hc (by decide) rfl ?_
    refine wp_icmp_ge (q := 10) (tgt := 37) d_X_closure_7 (by decide) rfl (fun c7 => absurd c7 (nI_ge (by omega) (by omega))) (fun _ => ?_)
    refine wp_iload_n (q := 11) d_X_closure_10 rfl rfl rfl ?_
    refine wp_aload_n (q := 12) d_X_closure_11 rfl rfl rfl ?_
    refine wp_iload_n (q := 13) d_X_closure_12 rfl rfl rfl ?_
    refine wp_cS2r (q := 16) d_X_closure_13 rfl bd_X_union lk_X_210 sm_X_union (Nat.le_of_ble_eq_true rfl) (Nat.le_of_ble_eq_true rfl) (Nat.le_of_ble_eq_true rfl) (c_union hc hn (by omega)) ?_
    refine wp_ior (q := 17) d_X_closure_16 rfl ?_
    rw [pu_or]
    refine wp_istore (q := 19) d_X_closure_17 rfl (Nat.le_of_ble_eq_true rfl) rfl ?_
    refine wp_iload (q := 21) d_X_closure_19 rfl rfl ?_
    refine wp_iload_n (q := 22) d_X_closure_21 rfl rfl rfl ?_
    refine wp_icmp_ne (q := 25) (tgt := 28) d_X_closure_22 (by decide) rfl (fun c22 => ?_) (fun c22 => ?_)
    · have hne : ¬ (x ||| pu_un g x n = x) := fun e => c22 (by rw [e])
      refine wp_iload (q := 30) d_X_closure_28 rfl rfl ?_
      refine wp_istore_n (q := 31) d_X_closure_30 rfl rfl (Nat.le_of_ble_eq_true rfl) rfl ?_
      refine wp_inc1 (q := 34) d_X_closure_31 rfl rfl (nI_1 _) (Nat.le_of_ble_eq_true rfl) rfl ?_
      refine wp_goto (tgt := 4) d_X_closure_34 (by decide) ?_
      have hlt : x ||| pu_un g x n < 2 ^ 8 := Nat.or_lt_two_pow hx (pu_un_lt hg n)
      refine wp_lo [(0, .ref a), (1, .int y), (2, .int (nI (x ||| pu_un g x n))), (3, .int (nI (i + 1)))] ⟨rfl, rfl, rfl, rfl, trivial⟩ ?_
      have e : pu_cl g n (k + 1) x = pu_cl g n k (x ||| pu_un g x n) := by simp [pu_cl, hne]
      rw [e]
      exact ih (x ||| pu_un g x n) (i + 1) (by omega) hlt
    · have hlt : x ||| pu_un g x n < 2 ^ 8 := Nat.or_lt_two_pow hx (pu_un_lt hg n)
      have he : x ||| pu_un g x n = x := pu_nI_inj (by omega) (by omega) c22
      have e : pu_cl g n (k + 1) x = x := by simp [pu_cl, he]
      rw [e]
      refine wp_goto (tgt := 37) d_X_closure_25 (by decide) ?_
      refine wp_iload_n (q := 38) d_X_closure_37 rfl rfl rfl ?_
      exact wp_ireturn rfl d_X_closure_38 ⟨rfl, rfl⟩
set_option maxHeartbeats 4000000 in
set_option maxRecDepth 100000 in
theorem c_closure {w : am_W} {a n x : Nat} {g : Nat → Nat} (hc : w[a]? = some (.inl (0, n, .inl (fun i => nI (g i))))) (hn : n ≤ 31) (hg : ∀ i, g i < 2 ^ 8) (hx : x < 2 ^ 8) : am_Wp none m_X_closure 2 0 0 0 [(0, .ref a), (1, .int (nI x))] [] w (am_R (some (.int (nI (pu_cl g n n x)))) w) := by
  refine wp_iload_n (q := 1) d_X_closure_0 rfl rfl rfl ?_
  refine wp_istore_n (q := 2) d_X_closure_1 rfl rfl (Nat.le_of_ble_eq_true rfl) rfl ?_
  refine wp_iconst (q := 3) (v := 0) d_X_closure_2 rfl (by decide) ?_
  refine wp_istore_n (q := 4) d_X_closure_3 rfl rfl (Nat.le_of_ble_eq_true rfl) rfl ?_
  exact c_closure_L hc hn hg n x 0 (by omega) hx
set_option maxHeartbeats 4000000 in
set_option maxRecDepth 100000 in
theorem c_bitCount {w : am_W} {m : Nat} (hm : m < 1024) : am_Wp none m_I_bitCount 0 0 0 0 [(0, .int (nI m))] [] w (am_R (some (.int (nI (pu_pop 10 m)))) w) := by
  refine wp_iload_n (q := 1) d_I_bitCount_0 rfl rfl rfl ?_
  refine wp_iload_n (q := 2) d_I_bitCount_1 rfl rfl rfl ?_
  refine wp_iconst (q := 3) (v := 1) d_I_bitCount_2 rfl (by decide) ?_
  refine wp_iushr (q := 4) d_I_bitCount_3 rfl ?_
  refine wp_ldcw (q := 7) d_I_bitCount_4 rfl kk_I_265 ?_
  refine wp_iand (q := 8) d_I_bitCount_7 rfl ?_
  refine wp_isub (q := 9) d_I_bitCount_8 rfl ?_
  refine wp_istore_n (q := 10) d_I_bitCount_9 rfl rfl (Nat.le_of_ble_eq_true rfl) rfl ?_
  refine wp_iload_n (q := 11) d_I_bitCount_10 rfl rfl rfl ?_
  refine wp_ldcw (q := 14) d_I_bitCount_11 rfl kk_I_266 ?_
  refine wp_iand (q := 15) d_I_bitCount_14 rfl ?_
  refine wp_iload_n (q := 16) d_I_bitCount_15 rfl rfl rfl ?_
  refine wp_iconst (q := 17) (v := 2) d_I_bitCount_16 rfl (by decide) ?_
  refine wp_iushr (q := 18) d_I_bitCount_17 rfl ?_
  refine wp_ldcw (q := 21) d_I_bitCount_18 rfl kk_I_266 ?_
  refine wp_iand (q := 22) d_I_bitCount_21 rfl ?_
  refine wp_iadd (q := 23) d_I_bitCount_22 rfl ?_
  refine wp_istore_n (q := 24) d_I_bitCount_23 rfl rfl (Nat.le_of_ble_eq_true rfl) rfl ?_
  refine wp_iload_n (q := 25) d_I_bitCount_24 rfl rfl rfl ?_
  refine wp_iload_n (q := 26) d_I_bitCount_25 rfl rfl rfl ?_
  refine wp_iconst (q := 27) (v := 4) d_I_bitCount_26 rfl (by decide) ?_
  refine wp_iushr (q := 28) d_I_bitCount_27 rfl ?_
  refine wp_iadd (q := 29) d_I_bitCount_28 rfl ?_
  refine wp_ldcw (q := 32) d_I_bitCount_29 rfl kk_I_267 ?_
  refine wp_iand (q := 33) d_I_bitCount_32 rfl ?_
  refine wp_istore_n (q := 34) d_I_bitCount_33 rfl rfl (Nat.le_of_ble_eq_true rfl) rfl ?_
  refine wp_iload_n (q := 35) d_I_bitCount_34 rfl rfl rfl ?_
  refine wp_iload_n (q := 36) d_I_bitCount_35 rfl rfl rfl ?_
  refine wp_bipush (q := 38) (v := 8) d_I_bitCount_36 rfl (by decide) ?_
  refine wp_iushr (q := 39) d_I_bitCount_38 rfl ?_
  refine wp_iadd (q := 40) d_I_bitCount_39 rfl ?_
  refine wp_istore_n (q := 41) d_I_bitCount_40 rfl rfl (Nat.le_of_ble_eq_true rfl) rfl ?_
  refine wp_iload_n (q := 42) d_I_bitCount_41 rfl rfl rfl ?_
  refine wp_iload_n (q := 43) d_I_bitCount_42 rfl rfl rfl ?_
  refine wp_bipush (q := 45) (v := 16) d_I_bitCount_43 rfl (by decide) ?_
  refine wp_iushr (q := 46) d_I_bitCount_45 rfl ?_
  refine wp_iadd (q := 47) d_I_bitCount_46 rfl ?_
  refine wp_istore_n (q := 48) d_I_bitCount_47 rfl rfl (Nat.le_of_ble_eq_true rfl) rfl ?_
  refine wp_iload_n (q := 49) d_I_bitCount_48 rfl rfl rfl ?_
  refine wp_bipush (q := 51) (v := 63) d_I_bitCount_49 rfl (by decide) ?_
  refine wp_iand (q := 52) d_I_bitCount_51 rfl ?_
  exact wp_ireturn rfl d_I_bitCount_52 ⟨congrArg (fun z => some (Value.int z)) (pu_bc m hm), rfl⟩
set_option maxHeartbeats 4000000 in
set_option maxRecDepth 100000 in
theorem c_fill_L {w : am_W} {a n : Nat} {v : Int32} {f : Nat → Int32} (hc : w[a]? = some (.inl (0, n, .inl f))) (hn : n < 2 ^ 30) : ∀ i, i ≤ n → am_Wp none m_A_fillI 0 0 0 5 [(0, .ref a), (1, .int v), (2, .int (nI i)), (3, .int (nI n))] [] (w.set a (.inl (0, n, .inl (pu_fl f v i)))) (am_R none (w.set a (.inl (0, n, .inl (fun _ => v))))) := by
  refine pu_up (P := fun i => am_Wp none m_A_fillI 0 0 0 5 [(0, .ref a), (1, .int v), (2, .int (nI i)), (3, .int (nI n))] [] (w.set a (.inl (0, n, .inl (pu_fl f v i)))) (am_R none (w.set a (.inl (0, n, .inl (fun _ => v)))))) ?_ ?_
  · show am_Wp _ _ _ _ _ _ _ _ _ _
    refine wp_iload_n (q := 6) d_A_fillI_5 rfl rfl rfl ?_
    refine wp_iload_n (q := 7) d_A_fillI_6 rfl rfl rfl ?_
    refine wp_icmp_ge (q := 10) (tgt := 20) d_A_fillI_7 (by decide) rfl (fun _ => ?_) (fun c7 => absurd (nI_le (Nat.le_refl n) (by omega)) c7)
    refine wp_chg (g := fun _ => v) (am_at_eq hc) (fun j hj => by simp [pu_fl, hj]) rfl ?_
    exact wp_return rfl d_A_fillI_20 ⟨rfl, by rw [List.set_set]⟩
  · intro i hi ih
    have ih : am_Wp _ _ _ _ _ _ _ _ _ _ := ih
    show am_Wp _ _ _ _ _ _ _ _ _ _
    refine wp_iload_n (q := 6) d_A_fillI_5 rfl rfl rfl ?_
    refine wp_iload_n (q := 7) d_A_fillI_6 rfl rfl rfl ?_
    refine wp_icmp_ge (q := 10) (tgt := 20) d_A_fillI_7 (by decide) rfl (fun c7 => absurd c7 (nI_ge hi (by omega))) (fun _ => ?_)
    refine wp_aload_n (q := 11) d_A_fillI_10 rfl rfl rfl ?_
    refine wp_iload_n (q := 12) d_A_fillI_11 rfl rfl rfl ?_
    refine wp_iload_n (q := 13) d_A_fillI_12 rfl rfl rfl ?_
    refine wp_iastoreN (w' := w.set a (.inl (0, n, .inl (pu_fl f v (i + 1))))) (q := 14) d_A_fillI_13 rfl (am_at_eq hc) rfl hi (by omega) (by rw [List.set_set, pu_fl_s]) ?_
    refine wp_inc1 (q := 17) d_A_fillI_14 rfl rfl (nI_1 _) (Nat.le_of_ble_eq_true rfl) rfl ?_
    refine wp_goto (tgt := 5) d_A_fillI_17 (by decide) ?_
    exact ih
set_option maxHeartbeats 4000000 in
set_option maxRecDepth 100000 in
theorem c_fill {w : am_W} {a n : Nat} {v : Int32} {f : Nat → Int32} (hc : w[a]? = some (.inl (0, n, .inl f))) (hn : n < 2 ^ 30) : am_Wp none m_A_fillI 0 0 0 0 [(0, .ref a), (1, .int v)] [] w (am_R none (w.set a (.inl (0, n, .inl (fun _ => v))))) := by
  refine wp_iconst (q := 1) (v := 0) d_A_fillI_0 rfl (by decide) ?_
  refine wp_istore_n (q := 2) d_A_fillI_1 rfl rfl (Nat.le_of_ble_eq_true rfl) rfl ?_
  refine wp_aload_n (q := 3) d_A_fillI_2 rfl rfl rfl ?_
  refine wp_alen (v := nI n) (q := 4) d_A_fillI_3 rfl hc (by decide) rfl ?_
  refine wp_istore_n (q := 5) d_A_fillI_4 rfl rfl (Nat.le_of_ble_eq_true rfl) rfl ?_
  have h0 := c_fill_L (v := v) hc hn 0 (Nat.zero_le _)
  rw [pu_fl_0, am_set_same hc] at h0
  exact h0
set_option maxHeartbeats 4000000 in
set_option maxRecDepth 100000 in
theorem c_fillJ_L {w : am_W} {a n : Nat} {v : Int64} {f : Nat → Int64} (hc : w[a]? = some (.inl (1, n, .inr (.inl f)))) (hn : n < 2 ^ 30) : ∀ i, i ≤ n → am_Wp none m_A_fillJ 0 0 0 6 [(0, .ref a), (1, .long v), (3, .int (nI i)), (4, .int (nI n))] [] (w.set a (.inl (1, n, .inr (.inl (pu_flL f v i))))) (am_R none (w.set a (.inl (1, n, .inr (.inl (fun _ => v)))))) := by
  refine pu_up (P := fun i => am_Wp none m_A_fillJ 0 0 0 6 [(0, .ref a), (1, .long v), (3, .int (nI i)), (4, .int (nI n))] [] (w.set a (.inl (1, n, .inr (.inl (pu_flL f v i))))) (am_R none (w.set a (.inl (1, n, .inr (.inl (fun _ => v))))))) ?_ ?_
  · show am_Wp _ _ _ _ _ _ _ _ _ _
    refine wp_iload_n (q := 7) d_A_fillJ_6 rfl rfl rfl ?_
    refine wp_iload (q := 9) d_A_fillJ_7 rfl rfl ?_
    refine wp_icmp_ge (q := 12) (tgt := 22) d_A_fillJ_9 (by decide) rfl (fun _ => ?_) (fun c9 => absurd (nI_le (Nat.le_refl n) (by omega)) c9)
    refine wp_chgL (g := fun _ => v) (am_at_eq hc) (fun j hj => by simp [pu_flL, hj]) rfl ?_
    exact wp_return rfl d_A_fillJ_22 ⟨rfl, by rw [List.set_set]⟩
  · intro i hi ih
    have ih : am_Wp _ _ _ _ _ _ _ _ _ _ := ih
    show am_Wp _ _ _ _ _ _ _ _ _ _
    refine wp_iload_n (q := 7) d_A_fillJ_6 rfl rfl rfl ?_
    refine wp_iload (q := 9) d_A_fillJ_7 rfl rfl ?_
    refine wp_icmp_ge (q := 12) (tgt := 22) d_A_fillJ_9 (by decide) rfl (fun c9 => absurd c9 (nI_ge hi (by omega))) (fun _ => ?_)
    refine wp_aload_n (q := 13) d_A_fillJ_12 rfl rfl rfl ?_
    refine wp_iload_n (q := 14) d_A_fillJ_13 rfl rfl rfl ?_
    refine wp_lload_n (q := 15) d_A_fillJ_14 rfl rfl rfl ?_
    refine wp_lastoreN (w' := w.set a (.inl (1, n, .inr (.inl (pu_flL f v (i + 1)))))) (q := 16) d_A_fillJ_15 rfl (am_at_eq hc) rfl hi (by omega) (by rw [List.set_set, pu_flL_s]) ?_
    refine wp_inc1 (q := 19) d_A_fillJ_16 rfl rfl (nI_1 _) (Nat.le_of_ble_eq_true rfl) rfl ?_
    refine wp_goto (tgt := 6) d_A_fillJ_19 (by decide) ?_
    exact ih
set_option maxHeartbeats 4000000 in
set_option maxRecDepth 100000 in
theorem c_fillJ {w : am_W} {a n : Nat} {v : Int64} {f : Nat → Int64} (hc : w[a]? = some (.inl (1, n, .inr (.inl f)))) (hn : n < 2 ^ 30) : am_Wp none m_A_fillJ 0 0 0 0 [(0, .ref a), (1, .long v)] [] w (am_R none (w.set a (.inl (1, n, .inr (.inl (fun _ => v)))))) := by
  refine wp_iconst (q := 1) (v := 0) d_A_fillJ_0 rfl (by decide) ?_
  refine wp_istore_n (q := 2) d_A_fillJ_1 rfl rfl (Nat.le_of_ble_eq_true rfl) rfl ?_
  refine wp_aload_n (q := 3) d_A_fillJ_2 rfl rfl rfl ?_
  refine wp_alen (v := nI n) (q := 4) d_A_fillJ_3 rfl hc (by decide) rfl ?_
  refine wp_istore (q := 6) d_A_fillJ_4 rfl (Nat.le_of_ble_eq_true rfl) rfl ?_
  have h0 := c_fillJ_L (v := v) hc hn 0 (Nat.zero_le _)
  rw [pu_flL_0, am_set_same hc] at h0
  exact h0
