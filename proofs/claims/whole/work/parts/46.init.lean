/-! CONTRACTS of the constructors -/
theorem am_sal {w u : am_W} {a : Nat} {c : am_C} (h : a < w.length) : (w ++ u).set a c = w.set a c ++ u := List.set_append_left _ _ h
theorem am_lal {w u : am_W} {a : Nat} {c : am_C} (h : w[a]? = some c) : (w ++ u)[a]? = some c := by
  rw [List.getElem?_append_left (am_ww_len h)]
  exact h
set_option maxHeartbeats 4000000 in
set_option maxRecDepth 100000 in
theorem c_G_init {w : am_W} {a L : Nat} (h : w[a]? = some (.inr (1, [.int 0, .int 0, .null, .null]))) (hL : w.length = L) : am_Wp none m_G_init 1 2 16 0 [(0, .ref a)] [] w (am_R none (w.set a (.inr (1, [.int 0, .int 0, .ref L, .ref (L + 1)]) : am_C) ++ [(.inl (0, 8, .inl (fun _ => 0)) : am_C), (.inl (0, 8, .inl (fun _ => 0)) : am_C)])) := by
  have ha := am_ww_len h
  refine wp_aload_n (q := 1) d_G_init_0 rfl rfl rfl ?_
  refine wp_objInit (q := 4) d_G_init_1 rfl lk_G_3 im_O_init co_O_init (Nat.le_of_ble_eq_true rfl) (Nat.le_of_ble_eq_true rfl) ?_
  refine wp_aload_n (q := 5) d_G_init_4 rfl rfl rfl ?_
  refine wp_iconst (q := 6) (v := 0) d_G_init_5 rfl (by decide) ?_
  refine wp_put (q := 9) (k := 0) d_G_init_6 rfl ok_G (Nat.le_of_ble_eq_true rfl) fk_G_9 rfl am_fit_i h (Nat.le_of_ble_eq_true rfl) rfl ?_
  refine wp_aload_n (q := 10) d_G_init_9 rfl rfl rfl ?_
  refine wp_iconst (q := 11) (v := 0) d_G_init_10 rfl (by decide) ?_
  refine wp_put (q := 14) (k := 1) d_G_init_11 rfl ok_G (Nat.le_of_ble_eq_true rfl) fk_G_15 rfl am_fit_i (am_at_eq h) (Nat.le_of_ble_eq_true rfl) rfl ?_
  refine wp_aload_n (q := 15) d_G_init_14 rfl rfl rfl ?_
  refine wp_bipush (q := 17) (v := 8) d_G_init_15 rfl (by decide) ?_
  refine wp_newa (q := 19) (t := 0) (N' := 8) (bc := 1) (bs := 8) d_G_init_17 rfl (by decide) rfl arr_int (by decide) (by decide) (by decide) ?_
  refine wp_putF (q := 22) (k := 2) d_G_init_19 rfl ok_G (Nat.le_of_ble_eq_true rfl) fk_G_18 rfl rfl rfl am_fit_a (am_lal (am_at_eq (am_at_eq h))) (Nat.le_of_ble_eq_true rfl) rfl ?_
  refine wp_aload_n (q := 23) d_G_init_22 rfl rfl rfl ?_
  refine wp_bipush (q := 25) (v := 8) d_G_init_23 rfl (by decide) ?_
  refine wp_newa (q := 27) (t := 0) (N' := 8) (bc := 0) (bs := 0) d_G_init_25 rfl (by decide) rfl arr_int (by decide) (by decide) (by decide) ?_
  refine wp_putF (q := 30) (k := 3) d_G_init_27 rfl ok_G (Nat.le_of_ble_eq_true rfl) fk_G_22 rfl rfl rfl am_fit_a (am_lal (am_at_eq (am_lal (am_at_eq (am_at_eq h))))) (Nat.le_of_ble_eq_true rfl) rfl ?_
  exact wp_return rfl d_G_init_30 ⟨rfl, by
    subst hL
    have h1 : a < ((w.set a (.inr (1, [.int 0, .int 0, .null, .null])))).length := by rw [List.length_set]; exact ha
    simp only [List.set_cons_zero, List.set_cons_succ, List.length_set, List.length_append, List.length_cons, List.length_nil]
    rw [am_sal (by simp only [List.length_append, List.length_set]; omega), am_sal (by simp only [List.length_set]; omega), am_sal (by simp only [List.length_set]; omega), List.set_set, List.set_set, List.set_set, List.append_assoc]
    rfl⟩
set_option maxHeartbeats 4000000 in
set_option maxRecDepth 100000 in
theorem c_T_init {w : am_W} {a L : Nat} (h : w[a]? = some (.inr (4, [.null, .int 0, .int 0]))) (hL : w.length = L) : am_Wp none m_T_init 1 9 1032 0 [(0, .ref a)] [] w (am_R none (w.set a (.inr (4, [.ref L, .int 0, .int 0])) ++ am_rows 8 128 L)) := by
  have ha := am_ww_len h
  refine wp_aload_n (q := 1) d_T_init_0 rfl rfl rfl ?_
  refine wp_objInit (q := 4) d_T_init_1 rfl lk_T_3 im_O_init co_O_init (Nat.le_of_ble_eq_true rfl) (Nat.le_of_ble_eq_true rfl) ?_
  refine wp_aload_n (q := 5) d_T_init_4 rfl rfl rfl ?_
  refine wp_bipush (q := 7) (v := 8) d_T_init_5 rfl (by decide) ?_
  refine wp_sipush (q := 10) (v := 128) d_T_init_7 rfl (by decide) ?_
  refine wp_multi (q := 14) (N' := 8) (K' := 128) (bc := 0) (bs := 0) d_T_init_10 rfl ck_T_9 aov arr_int (by decide) (by decide) (by decide) (by decide) (by decide) (by decide) ?_
  refine wp_putF (q := 17) (k := 0) d_T_init_14 rfl ok_T (Nat.le_of_ble_eq_true rfl) fk_T_11 rfl rfl rfl am_fit_a (am_lal h) (Nat.le_of_ble_eq_true rfl) rfl ?_
  refine wp_aload_n (q := 18) d_T_init_17 rfl rfl rfl ?_
  refine wp_iconst (q := 19) (v := 0) d_T_init_18 rfl (by decide) ?_
  refine wp_put (q := 22) (k := 1) d_T_init_19 rfl ok_T (Nat.le_of_ble_eq_true rfl) fk_T_16 rfl am_fit_i (am_at_eq (am_lal h)) (Nat.le_of_ble_eq_true rfl) rfl ?_
  refine wp_aload_n (q := 23) d_T_init_22 rfl rfl rfl ?_
  refine wp_iconst (q := 24) (v := 0) d_T_init_23 rfl (by decide) ?_
  refine wp_put (q := 27) (k := 2) d_T_init_24 rfl ok_T (Nat.le_of_ble_eq_true rfl) fk_T_20 rfl am_fit_i (am_at_eq (am_at_eq (am_lal h))) (Nat.le_of_ble_eq_true rfl) rfl ?_
  exact wp_return rfl d_T_init_27 ⟨rfl, by
    subst hL
    rw [List.set_set, List.set_set, am_sal ha]
    rfl⟩
set_option maxHeartbeats 4000000 in
set_option maxRecDepth 100000 in
theorem c_V_init {w : am_W} {a L : Nat} (h : w[a]? = some (.inr (5, [.null, .null, .int 0, .int 0, .int 0, .int 0, .int 0, .int 0]))) (hL : w.length = L) : am_Wp none m_V_init 1 2 16 0 [(0, .ref a)] [] w (am_R none (w.set a (.inr (5, [.ref L, .ref (L + 1), .int 0, .int 0, .int 0, .int 0, .int 0, .int 0])) ++ [(.inl (0, 8, .inl (fun _ => 0)) : am_C), (.inl (0, 8, .inl (fun _ => 0)) : am_C)])) := by
  have ha := am_ww_len h
  refine wp_aload_n (q := 1) d_V_init_0 rfl rfl rfl ?_
  refine wp_objInit (q := 4) d_V_init_1 rfl lk_V_3 im_O_init co_O_init (Nat.le_of_ble_eq_true rfl) (Nat.le_of_ble_eq_true rfl) ?_
  refine wp_aload_n (q := 5) d_V_init_4 rfl rfl rfl ?_
  refine wp_bipush (q := 7) (v := 8) d_V_init_5 rfl (by decide) ?_
  refine wp_newa (q := 9) (t := 0) (N' := 8) (bc := 1) (bs := 8) d_V_init_7 rfl (by decide) rfl arr_int (by decide) (by decide) (by decide) ?_
  refine wp_putF (q := 12) (k := 0) d_V_init_9 rfl ok_V (Nat.le_of_ble_eq_true rfl) fk_V_9 rfl rfl rfl am_fit_a (am_lal h) (Nat.le_of_ble_eq_true rfl) rfl ?_
  refine wp_aload_n (q := 13) d_V_init_12 rfl rfl rfl ?_
  refine wp_bipush (q := 15) (v := 8) d_V_init_13 rfl (by decide) ?_
  refine wp_newa (q := 17) (t := 0) (N' := 8) (bc := 0) (bs := 0) d_V_init_15 rfl (by decide) rfl arr_int (by decide) (by decide) (by decide) ?_
  refine wp_putF (q := 20) (k := 1) d_V_init_17 rfl ok_V (Nat.le_of_ble_eq_true rfl) fk_V_15 rfl rfl rfl am_fit_a (am_lal (am_at_eq (am_lal h))) (Nat.le_of_ble_eq_true rfl) rfl ?_
  refine wp_aload_n (q := 21) d_V_init_20 rfl rfl rfl ?_
  refine wp_iconst (q := 22) (v := 0) d_V_init_21 rfl (by decide) ?_
  refine wp_put (q := 25) (k := 2) d_V_init_22 rfl ok_V (Nat.le_of_ble_eq_true rfl) fk_V_18 rfl am_fit_i (am_at_eq (am_lal (am_at_eq (am_lal h)))) (Nat.le_of_ble_eq_true rfl) rfl ?_
  refine wp_aload_n (q := 26) d_V_init_25 rfl rfl rfl ?_
  refine wp_iconst (q := 27) (v := 0) d_V_init_26 rfl (by decide) ?_
  refine wp_put (q := 30) (k := 3) d_V_init_27 rfl ok_V (Nat.le_of_ble_eq_true rfl) fk_V_22 rfl am_fit_i (am_at_eq (am_at_eq (am_lal (am_at_eq (am_lal h))))) (Nat.le_of_ble_eq_true rfl) rfl ?_
  refine wp_aload_n (q := 31) d_V_init_30 rfl rfl rfl ?_
  refine wp_iconst (q := 32) (v := 0) d_V_init_31 rfl (by decide) ?_
  refine wp_put (q := 35) (k := 4) d_V_init_32 rfl ok_V (Nat.le_of_ble_eq_true rfl) fk_V_25 rfl am_fit_i (am_at_eq (am_at_eq (am_at_eq (am_lal (am_at_eq (am_lal h)))))) (Nat.le_of_ble_eq_true rfl) rfl ?_
  refine wp_aload_n (q := 36) d_V_init_35 rfl rfl rfl ?_
  refine wp_iconst (q := 37) (v := 0) d_V_init_36 rfl (by decide) ?_
  refine wp_put (q := 40) (k := 5) d_V_init_37 rfl ok_V (Nat.le_of_ble_eq_true rfl) fk_V_28 rfl am_fit_i (am_at_eq (am_at_eq (am_at_eq (am_at_eq (am_lal (am_at_eq (am_lal h))))))) (Nat.le_of_ble_eq_true rfl) rfl ?_
  refine wp_aload_n (q := 41) d_V_init_40 rfl rfl rfl ?_
  refine wp_iconst (q := 42) (v := 0) d_V_init_41 rfl (by decide) ?_
  refine wp_put (q := 45) (k := 6) d_V_init_42 rfl ok_V (Nat.le_of_ble_eq_true rfl) fk_V_31 rfl am_fit_i (am_at_eq (am_at_eq (am_at_eq (am_at_eq (am_at_eq (am_lal (am_at_eq (am_lal h)))))))) (Nat.le_of_ble_eq_true rfl) rfl ?_
  refine wp_aload_n (q := 46) d_V_init_45 rfl rfl rfl ?_
  refine wp_iconst (q := 47) (v := 0) d_V_init_46 rfl (by decide) ?_
  refine wp_put (q := 50) (k := 7) d_V_init_47 rfl ok_V (Nat.le_of_ble_eq_true rfl) fk_V_34 rfl am_fit_i (am_at_eq (am_at_eq (am_at_eq (am_at_eq (am_at_eq (am_at_eq (am_lal (am_at_eq (am_lal h))))))))) (Nat.le_of_ble_eq_true rfl) rfl ?_
  exact wp_return rfl d_V_init_50 ⟨rfl, by
    subst hL
    simp only [List.set_set]
    rw [am_sal (by rw [List.length_set, List.length_append]; omega), am_sal ha, am_sal (by rw [List.length_set]; exact ha), List.set_set, List.append_assoc]
    simp only [List.length_set, List.length_append, List.length_cons, List.length_nil]
    rfl⟩
set_option maxHeartbeats 4000000 in
set_option maxRecDepth 100000 in
theorem c_N_init {w : am_W} {a L : Nat} (h : w[a]? = some (.inr (3, [.int 0, .null]))) (hL : w.length = L) : am_Wp none m_N_init 1 1 256 0 [(0, .ref a)] [] w (am_R none (w.set a (.inr (3, [.int 0, .ref L])) ++ [(.inl (1, 256, .inr (.inl (fun _ => 0))) : am_C)])) := by
  have ha := am_ww_len h
  refine wp_aload_n (q := 1) d_N_init_0 rfl rfl rfl ?_
  refine wp_objInit (q := 4) d_N_init_1 rfl lk_N_3 im_O_init co_O_init (Nat.le_of_ble_eq_true rfl) (Nat.le_of_ble_eq_true rfl) ?_
  refine wp_aload_n (q := 5) d_N_init_4 rfl rfl rfl ?_
  refine wp_iconst (q := 6) (v := 0) d_N_init_5 rfl (by decide) ?_
  refine wp_put (q := 9) (k := 0) d_N_init_6 rfl ok_N (Nat.le_of_ble_eq_true rfl) fk_N_9 rfl am_fit_i h (Nat.le_of_ble_eq_true rfl) rfl ?_
  refine wp_aload_n (q := 10) d_N_init_9 rfl rfl rfl ?_
  refine wp_sipush (q := 13) (v := 256) d_N_init_10 rfl (by decide) ?_
  refine wp_newa (q := 15) (t := 1) (N' := 256) (bc := 0) (bs := 0) d_N_init_13 rfl (by decide) rfl arr_long (by decide) (by decide) (by decide) ?_
  refine wp_putF (q := 18) (k := 1) d_N_init_15 rfl ok_N (Nat.le_of_ble_eq_true rfl) fk_N_15 rfl rfl rfl am_fit_a (am_lal (am_at_eq h)) (Nat.le_of_ble_eq_true rfl) rfl ?_
  exact wp_return rfl d_N_init_18 ⟨rfl, by
    subst hL
    rw [am_sal (by rw [List.length_set]; exact ha), List.set_set]
    simp only [List.length_set]
    rfl⟩
set_option maxHeartbeats 4000000 in
set_option maxRecDepth 100000 in
theorem c_K_init {w : am_W} {a L : Nat} (h : w[a]? = some (.inr (2, [.null, .int 0, .null, .null, .null, .int 0, .int 0]))) (hL : w.length = L) : am_Wp none m_K_init 2 6 48 0 [(0, .ref a)] [] w (am_R none (w.set a (.inr (2, [.ref L, .int 0, .ref (L + 3), .ref (L + 4), .ref (L + 5), .int 0, .int 0])) ++ [(.inr (1, [.int 0, .int 0, .ref (L + 1), .ref (L + 1 + 1)]) : am_C), (.inl (0, 8, .inl (fun _ => 0)) : am_C), (.inl (0, 8, .inl (fun _ => 0)) : am_C), (.inl (0, 10, .inl (fun _ => 0)) : am_C), (.inl (0, 10, .inl (fun _ => 0)) : am_C), (.inl (0, 8, .inl (fun _ => 0)) : am_C)])) := by
  have ha := am_ww_len h
  refine wp_aload_n (q := 1) d_K_init_0 rfl rfl rfl ?_
  refine wp_objInit (q := 4) d_K_init_1 rfl lk_K_3 im_O_init co_O_init (Nat.le_of_ble_eq_true rfl) (Nat.le_of_ble_eq_true rfl) ?_
  refine wp_aload_n (q := 5) d_K_init_4 rfl rfl rfl ?_
  refine wp_new (q := 8) (fs := [.int 0, .int 0, .null, .null]) (bc := 5) (bs := 44) d_K_init_5 rfl ok_G ck_K_9 ins_G ini_G (fun j hj => by rcases (show j = 0 ∨ j = 1 ∨ j = 2 ∨ j = 3 by omega) with rfl | rfl | rfl | rfl <;> rfl) ⟨trivial, trivial, trivial, trivial, trivial⟩ (fun r => rfl) ?_
  refine wp_dup (q := 9) d_K_init_8 rfl rfl ?_
  refine wp_cIN0g (q := 12) (bc1 := 2) (bs1 := 16) (bc := 3) (bs := 28) (d1 := 1) d_K_init_9 rfl bd_G_init rfl rfl lk_K_11 im_G_init (Nat.le_of_ble_eq_true rfl) (Nat.le_of_ble_eq_true rfl) (Nat.le_of_ble_eq_true rfl) (c_G_init (a := w.length) (L := L + 1) (by rw [List.getElem?_append_right (Nat.le_refl _), Nat.sub_self]; rfl) (by rw [List.length_append, hL]; rfl)) (fun v w1 hF => ?_)
  obtain ⟨rfl, rfl⟩ := hF
  have eG : ((w ++ [(.inr (1, [.int 0, .int 0, .null, .null]) : am_C)]).set w.length (.inr (1, [.int 0, .int 0, .ref (L + 1), .ref (L + 1 + 1)]) : am_C) ++ [(.inl (0, 8, .inl (fun _ => 0)) : am_C), (.inl (0, 8, .inl (fun _ => 0)) : am_C)]) = (w ++ [(.inr (1, [.int 0, .int 0, .ref (L + 1), .ref (L + 1 + 1)]) : am_C), (.inl (0, 8, .inl (fun _ => 0)) : am_C), (.inl (0, 8, .inl (fun _ => 0)) : am_C)]) := by rw [List.set_append_right _ _ (Nat.le_refl _), Nat.sub_self, List.append_assoc]; rfl
  rw [eG, hL]
  have hGl : (w ++ [(.inr (1, [.int 0, .int 0, .ref (L + 1), .ref (L + 1 + 1)]) : am_C), (.inl (0, 8, .inl (fun _ => 0)) : am_C), (.inl (0, 8, .inl (fun _ => 0)) : am_C)]).length = L + 3 := by rw [List.length_append, hL]; rfl
  refine wp_putF (q := 15) (k := 0) d_K_init_12 rfl ok_K (Nat.le_of_ble_eq_true rfl) fk_K_12 rfl rfl rfl am_fit_o (am_lal h) (Nat.le_of_ble_eq_true rfl) rfl ?_
  refine wp_aload_n (q := 16) d_K_init_15 rfl rfl rfl ?_
  refine wp_iconst (q := 17) (v := 0) d_K_init_16 rfl (by decide) ?_
  refine wp_put (q := 20) (k := 1) d_K_init_17 rfl ok_K (Nat.le_of_ble_eq_true rfl) fk_K_18 rfl am_fit_i (am_at_eq (am_lal h)) (Nat.le_of_ble_eq_true rfl) rfl ?_
  refine wp_aload_n (q := 21) d_K_init_20 rfl rfl rfl ?_
  refine wp_bipush (q := 23) (v := 10) d_K_init_21 rfl (by decide) ?_
  refine wp_newa (q := 25) (t := 0) (N' := 10) (bc := 2) (bs := 18) d_K_init_23 rfl (by decide) rfl arr_int (by decide) (by decide) (by decide) ?_
  refine wp_putF (q := 28) (k := 2) d_K_init_25 rfl ok_K (Nat.le_of_ble_eq_true rfl) fk_K_22 rfl rfl rfl am_fit_a (am_lal (am_at_eq (am_at_eq (am_lal h)))) (Nat.le_of_ble_eq_true rfl) rfl ?_
  refine wp_aload_n (q := 29) d_K_init_28 rfl rfl rfl ?_
  refine wp_bipush (q := 31) (v := 10) d_K_init_29 rfl (by decide) ?_
  refine wp_newa (q := 33) (t := 0) (N' := 10) (bc := 1) (bs := 8) d_K_init_31 rfl (by decide) rfl arr_int (by decide) (by decide) (by decide) ?_
  refine wp_putF (q := 36) (k := 3) d_K_init_33 rfl ok_K (Nat.le_of_ble_eq_true rfl) fk_K_26 rfl rfl rfl am_fit_a (am_lal (am_at_eq (am_lal (am_at_eq (am_at_eq (am_lal h)))))) (Nat.le_of_ble_eq_true rfl) rfl ?_
  refine wp_aload_n (q := 37) d_K_init_36 rfl rfl rfl ?_
  refine wp_bipush (q := 39) (v := 8) d_K_init_37 rfl (by decide) ?_
  refine wp_newa (q := 41) (t := 0) (N' := 8) (bc := 0) (bs := 0) d_K_init_39 rfl (by decide) rfl arr_int (by decide) (by decide) (by decide) ?_
  refine wp_putF (q := 44) (k := 4) d_K_init_41 rfl ok_K (Nat.le_of_ble_eq_true rfl) fk_K_29 rfl rfl rfl am_fit_a (am_lal (am_at_eq (am_lal (am_at_eq (am_lal (am_at_eq (am_at_eq (am_lal h)))))))) (Nat.le_of_ble_eq_true rfl) rfl ?_
  refine wp_aload_n (q := 45) d_K_init_44 rfl rfl rfl ?_
  refine wp_iconst (q := 46) (v := 0) d_K_init_45 rfl (by decide) ?_
  refine wp_put (q := 49) (k := 5) d_K_init_46 rfl ok_K (Nat.le_of_ble_eq_true rfl) fk_K_32 rfl am_fit_i (am_at_eq (am_lal (am_at_eq (am_lal (am_at_eq (am_lal (am_at_eq (am_at_eq (am_lal h))))))))) (Nat.le_of_ble_eq_true rfl) rfl ?_
  refine wp_aload_n (q := 50) d_K_init_49 rfl rfl rfl ?_
  refine wp_iconst (q := 51) (v := 0) d_K_init_50 rfl (by decide) ?_
  refine wp_put (q := 54) (k := 6) d_K_init_51 rfl ok_K (Nat.le_of_ble_eq_true rfl) fk_K_35 rfl am_fit_i (am_at_eq (am_at_eq (am_lal (am_at_eq (am_lal (am_at_eq (am_lal (am_at_eq (am_at_eq (am_lal h)))))))))) (Nat.le_of_ble_eq_true rfl) rfl ?_
  exact wp_return rfl d_K_init_54 ⟨rfl, by
    have ha2 : a < (w ++ [(.inr (1, [.int 0, .int 0, .ref (L + 1), .ref (L + 1 + 1)]) : am_C), (.inl (0, 8, .inl (fun _ => 0)) : am_C), (.inl (0, 8, .inl (fun _ => 0)) : am_C)]).length := by rw [hGl]; omega
    simp only [List.set_set, List.length_set, List.length_append, hGl, List.length_cons, List.length_nil]
    generalize hg : (w ++ [(.inr (1, [.int 0, .int 0, .ref (L + 1), .ref (L + 1 + 1)]) : am_C), (.inl (0, 8, .inl (fun _ => 0)) : am_C), (.inl (0, 8, .inl (fun _ => 0)) : am_C)]) = u at ha2 ⊢
    have q1 : ∀ (x z : am_C) (ys : am_W), (u.set a x ++ ys).set a z = u.set a z ++ ys := fun x z ys => by rw [am_sal (by rw [List.length_set]; exact ha2), List.set_set]
    simp only [List.append_assoc, q1]
    rw [← hg, am_sal ha]
    simp only [List.append_assoc]
    rfl⟩
