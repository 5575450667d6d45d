/-! CONTRACTS of the reference (2) -/
theorem pu_fln {g : Nat → Nat} {i : Nat} : upd (fun j => nI (if j < i then 0 else g j)) i 0 = fun j => nI (if j < i + 1 then 0 else g j) := by
  funext j
  unfold upd
  by_cases h : j = i
  · simp [h, nI_0]
  · by_cases h2 : j < i
    · simp [h, h2, show j < i + 1 by omega]
    · simp [h, h2, show ¬ j < i + 1 by omega]
set_option maxHeartbeats 4000000 in
set_option maxRecDepth 100000 in
theorem y_begin_L {n k : Nat} {P : Nat → Nat} {H : Nat → Int32} {O : Nat → Nat} {ik : Bool} {kn : Nat} {KP : Nat → Nat} {ic : Bool} {fz sm : Nat} {w : am_W} (hY : YI n k P H O ik kn KP ic fz sm w) : ∀ i, i ≤ 8 → ∀ w1, YF DY w w1 → YI 0 0 (fun j => if j < i then 0 else P j) (pu_fl H (-1) i) O false kn KP false fz sm w1 → am_Wp none m_Y_begin 0 0 0 22 [(0, .ref 35), (1, .int (nI i))] [] w1 (fun v w2 => v = none ∧ YF DY w w2 ∧ YI 0 0 (fun j => if j < 8 then 0 else P j) (pu_fl H (-1) 8) O false kn KP false fz sm w2) := by
  refine pu_up (P := fun i => ∀ w1, YF DY w w1 → YI 0 0 (fun j => if j < i then 0 else P j) (pu_fl H (-1) i) O false kn KP false fz sm w1 → am_Wp none m_Y_begin 0 0 0 22 [(0, .ref 35), (1, .int (nI i))] [] w1 (fun v w2 => v = none ∧ YF DY w w2 ∧ YI 0 0 (fun j => if j < 8 then 0 else P j) (pu_fl H (-1) 8) O false kn KP false fz sm w2)) ?_ ?_
  · intro w1 fr hY1
    refine wp_iload_n (q := 23) d_Y_begin_22 rfl rfl rfl ?_
    refine wp_bipush (q := 25) (v := 8) d_Y_begin_23 rfl (by decide) ?_
    refine wp_icmp_ge (q := 28) (tgt := 48) d_Y_begin_25 (by decide) rfl (fun _ => ?_) (fun c25 => absurd (by decide) c25)
    exact wp_return rfl d_Y_begin_48 ⟨rfl, fr, hY1⟩
  · intro i hi ih w1 fr hY1
    refine wp_iload_n (q := 23) d_Y_begin_22 rfl rfl rfl ?_
    refine wp_bipush (q := 25) (v := 8) d_Y_begin_23 rfl (by decide) ?_
    refine wp_icmp_ge (q := 28) (tgt := 48) d_Y_begin_25 (by decide) rfl (fun c25 => absurd c25 (by rw [show (8 : Int32) = nI 8 from rfl]; exact nI_ge hi (by decide))) (fun _ => ?_)
    refine wp_aload_n (q := 29) d_Y_begin_28 rfl rfl rfl ?_
    refine wp_get (q := 32) (k := 2) d_Y_begin_29 rfl ok_Y (Nat.le_of_ble_eq_true rfl) fk_Y_7 hY1.1 rfl ?_
    refine wp_iload_n (q := 33) d_Y_begin_32 rfl rfl rfl ?_
    refine wp_iconst (q := 34) (v := 0) d_Y_begin_33 rfl (by decide) ?_
    refine wp_iastoreN (w' := w1.set 36 (am_ar 8 (fun j => if j < i + 1 then 0 else P j))) (q := 35) d_Y_begin_34 rfl hY1.2.1 rfl hi (by decide) (by rw [pu_fln]) ?_
    obtain ⟨f2, hY2⟩ := hY1.set_p (P1 := fun j => if j < i + 1 then 0 else P j)
    generalize w1.set 36 (am_ar 8 (fun j => if j < i + 1 then 0 else P j)) = w2 at f2 hY2 ⊢
    refine wp_aload_n (q := 36) d_Y_begin_35 rfl rfl rfl ?_
    refine wp_get (q := 39) (k := 3) d_Y_begin_36 rfl ok_Y (Nat.le_of_ble_eq_true rfl) fk_Y_13 hY2.1 rfl ?_
    refine wp_iload_n (q := 40) d_Y_begin_39 rfl rfl rfl ?_
    refine wp_iconst (q := 41) (v := -1) d_Y_begin_40 rfl (by decide) ?_
    refine wp_iastoreN (w' := w2.set 37 (.inl (0, 8, .inl (pu_fl H (-1) (i + 1))))) (q := 42) d_Y_begin_41 rfl hY2.2.2.1 rfl hi (by decide) (by rw [pu_fl_s]) ?_
    obtain ⟨f3, hY3⟩ := hY2.set_h (H1 := pu_fl H (-1) (i + 1))
    generalize w2.set 37 (.inl (0, 8, .inl (pu_fl H (-1) (i + 1)))) = w3 at f3 hY3 ⊢
    refine wp_inc1 (q := 45) d_Y_begin_42 rfl rfl (nI_1 _) (Nat.le_of_ble_eq_true rfl) rfl ?_
    refine wp_goto (tgt := 22) d_Y_begin_45 (by decide) ?_
    exact ih w3 (fr.tr (f2.tr f3)) hY3
set_option maxHeartbeats 4000000 in
set_option maxRecDepth 100000 in
theorem y_begin {n k : Nat} {P : Nat → Nat} {H : Nat → Int32} {O : Nat → Nat} {ik : Bool} {kn : Nat} {KP : Nat → Nat} {ic : Bool} {fz sm : Nat} {w : am_W} (hY : YI n k P H O ik kn KP ic fz sm w) : am_Wp none m_Y_begin 0 0 0 0 [(0, .ref 35)] [] w (fun v w2 => v = none ∧ YF DY w w2 ∧ YI 0 0 (fun j => if j < 8 then 0 else P j) (pu_fl H (-1) 8) O false kn KP false fz sm w2) := by
  refine wp_aload_n (q := 1) d_Y_begin_0 rfl rfl rfl ?_
  refine wp_iconst (q := 2) (v := 0) d_Y_begin_1 rfl (by decide) ?_
  refine wp_put (q := 5) (k := 0) d_Y_begin_2 rfl ok_Y (Nat.le_of_ble_eq_true rfl) fk_Y_63 rfl am_fit_i hY.1 (Nat.le_of_ble_eq_true rfl) rfl ?_
  refine wp_aload_n (q := 6) d_Y_begin_5 rfl rfl rfl ?_
  refine wp_iconst (q := 7) (v := 0) d_Y_begin_6 rfl (by decide) ?_
  refine wp_put (q := 10) (k := 1) d_Y_begin_7 rfl ok_Y (Nat.le_of_ble_eq_true rfl) fk_Y_67 rfl am_fit_i (am_at_eq hY.1) (Nat.le_of_ble_eq_true rfl) rfl ?_
  refine wp_aload_n (q := 11) d_Y_begin_10 rfl rfl rfl ?_
  refine wp_iconst (q := 12) (v := 0) d_Y_begin_11 rfl (by decide) ?_
  refine wp_put (q := 15) (k := 5) d_Y_begin_12 rfl ok_Y (Nat.le_of_ble_eq_true rfl) fk_Y_70 rfl (am_fit_b (b := false)) (am_at_eq (am_at_eq hY.1)) (Nat.le_of_ble_eq_true rfl) rfl ?_
  refine wp_aload_n (q := 16) d_Y_begin_15 rfl rfl rfl ?_
  refine wp_iconst (q := 17) (v := 0) d_Y_begin_16 rfl (by decide) ?_
  refine wp_put (q := 20) (k := 8) d_Y_begin_17 rfl ok_Y (Nat.le_of_ble_eq_true rfl) fk_Y_74 rfl (am_fit_b (b := false)) (am_at_eq (am_at_eq (am_at_eq hY.1))) (Nat.le_of_ble_eq_true rfl) rfl ?_
  obtain ⟨f1, hY1⟩ := hY.set_ob (n1 := 0) (k1 := 0) (ik1 := false) (kn1 := kn) (ic1 := false) (fz1 := fz) (sm1 := sm)
  have e : (((w.set 35 (yob 0 k ik kn ic fz sm)).set 35 (yob 0 0 ik kn ic fz sm)).set 35 (yob 0 0 false kn ic fz sm)).set 35 (yob 0 0 false kn false fz sm) = w.set 35 (yob 0 0 false kn false fz sm) := by rw [List.set_set, List.set_set, List.set_set]
  show am_Wp _ _ _ _ _ _ _ _ ((((w.set 35 (yob 0 k ik kn ic fz sm)).set 35 (yob 0 0 ik kn ic fz sm)).set 35 (yob 0 0 false kn ic fz sm)).set 35 (yob 0 0 false kn false fz sm)) _
  rw [e]
  refine wp_iconst (q := 21) (v := 0) d_Y_begin_20 rfl (by decide) ?_
  refine wp_istore_n (q := 22) d_Y_begin_21 rfl rfl (Nat.le_of_ble_eq_true rfl) rfl ?_
  refine y_begin_L hY 0 (by decide) _ f1 ?_
  rw [pu_fl_0]
  exact hY1
set_option maxHeartbeats 4000000 in
set_option maxRecDepth 100000 in
theorem y_clear {n k : Nat} {P : Nat → Nat} {H : Nat → Int32} {O : Nat → Nat} {ik : Bool} {kn : Nat} {KP : Nat → Nat} {ic : Bool} {fz sm : Nat} {w : am_W} (hY : YI n k P H O ik kn KP ic fz sm w) : am_Wp none m_Y_clear 1 0 0 0 [(0, .ref 35)] [] w (fun v w1 => v = some (.int (nI n)) ∧ YF DY w w1 ∧ YI 0 0 (fun j => if j < 8 then 0 else P j) (pu_fl H (-1) 8) O false kn KP false fz sm w1) := by
  refine wp_aload_n (q := 1) d_Y_clear_0 rfl rfl rfl ?_
  refine wp_get (q := 4) (k := 0) d_Y_clear_1 rfl ok_Y (Nat.le_of_ble_eq_true rfl) fk_Y_63 hY.1 rfl ?_
  refine wp_istore_n (q := 5) d_Y_clear_4 rfl rfl (Nat.le_of_ble_eq_true rfl) rfl ?_
  refine wp_aload_n (q := 6) d_Y_clear_5 rfl rfl rfl ?_
  refine wp_cV0g (q := 9) (bc1 := 0) (bs1 := 0) d_Y_clear_6 rfl bd_Y_begin lk_Y_60 im_Y_begin se_Y_begin rfl (Nat.le_of_ble_eq_true rfl) (Nat.le_of_ble_eq_true rfl) hY.1 (Nat.le_of_ble_eq_true rfl) (y_begin hY) (fun v w1 hF => ?_)
  obtain ⟨rfl, f1, hY1⟩ := hF
  refine wp_iload_n (q := 10) d_Y_clear_9 rfl rfl rfl ?_
  exact wp_ireturn rfl d_Y_clear_10 ⟨rfl, f1, hY1⟩
set_option maxHeartbeats 4000000 in
set_option maxRecDepth 100000 in
theorem y_place_full {n k : Nat} {P : Nat → Nat} {H : Nat → Int32} {O : Nat → Nat} {ik : Bool} {kn : Nat} {KP : Nat → Nat} {ic : Bool} {fz sm : Nat} {w : am_W} (hY : YI n k P H O ik kn KP ic fz sm w) (h8 : n = 8) : am_Wp none m_Y_place 0 0 0 0 [(0, .ref 35)] [] w (am_R (some (.int (-3))) w) := by
  refine wp_aload_n (q := 1) d_Y_place_0 rfl rfl rfl ?_
  refine wp_get (q := 4) (k := 0) d_Y_place_1 rfl ok_Y (Nat.le_of_ble_eq_true rfl) fk_Y_63 hY.1 rfl ?_
  refine wp_bipush (q := 6) (v := 8) d_Y_place_4 rfl (by decide) ?_
  refine wp_icmp_ne (q := 9) (tgt := 12) d_Y_place_6 (by decide) rfl (fun c6 => absurd (by rw [h8]; rfl) c6) (fun _ => ?_)
  refine wp_bipush (q := 11) (v := -3) d_Y_place_9 rfl (by decide) ?_
  exact wp_ireturn rfl d_Y_place_11 ⟨rfl, rfl⟩
set_option maxHeartbeats 4000000 in
set_option maxRecDepth 100000 in
theorem y_place {n k : Nat} {P : Nat → Nat} {H : Nat → Int32} {O : Nat → Nat} {ik : Bool} {kn : Nat} {KP : Nat → Nat} {ic : Bool} {fz sm : Nat} {w : am_W} (hY : YI n k P H O ik kn KP ic fz sm w) (h8 : n < 8) : am_Wp none m_Y_place 1 0 0 0 [(0, .ref 35)] [] w (fun v w1 => v = some (.int (nI n)) ∧ YF DY w w1 ∧ YI (n + 1) k (pu_set P n 0) (upd H n (-1)) (pu_eo O n 128) ik kn KP false fz sm w1) := by
  refine wp_aload_n (q := 1) d_Y_place_0 rfl rfl rfl ?_
  refine wp_get (q := 4) (k := 0) d_Y_place_1 rfl ok_Y (Nat.le_of_ble_eq_true rfl) fk_Y_63 hY.1 rfl ?_
  refine wp_bipush (q := 6) (v := 8) d_Y_place_4 rfl (by decide) ?_
  refine wp_icmp_ne (q := 9) (tgt := 12) d_Y_place_6 (by decide) rfl (fun _ => ?_) (fun c6 => absurd c6 (fun e => by have := pu_nI_inj (a := n) (b := 8) (by omega) (by decide) e; omega))
  refine wp_aload_n (q := 13) d_Y_place_12 rfl rfl rfl ?_
  refine wp_get (q := 16) (k := 0) d_Y_place_13 rfl ok_Y (Nat.le_of_ble_eq_true rfl) fk_Y_63 hY.1 rfl ?_
  refine wp_istore_n (q := 17) d_Y_place_16 rfl rfl (Nat.le_of_ble_eq_true rfl) rfl ?_
  refine wp_aload_n (q := 18) d_Y_place_17 rfl rfl rfl ?_
  refine wp_dup (q := 19) d_Y_place_18 rfl rfl ?_
  refine wp_get (q := 22) (k := 0) d_Y_place_19 rfl ok_Y (Nat.le_of_ble_eq_true rfl) fk_Y_63 hY.1 rfl ?_
  refine wp_iconst (q := 23) (v := 1) d_Y_place_22 rfl (by decide) ?_
  refine wp_iadd (q := 24) d_Y_place_23 rfl ?_
  rw [nI_1]
  refine wp_put (q := 27) (k := 0) d_Y_place_24 rfl ok_Y (Nat.le_of_ble_eq_true rfl) fk_Y_63 rfl am_fit_i hY.1 (Nat.le_of_ble_eq_true rfl) rfl ?_
  obtain ⟨f1, hY1⟩ := hY.set_ob (n1 := n + 1) (k1 := k) (ik1 := ik) (kn1 := kn) (ic1 := ic) (fz1 := fz) (sm1 := sm)
  show am_Wp _ _ _ _ _ _ _ _ (w.set 35 (yob (n + 1) k ik kn ic fz sm)) _
  generalize w.set 35 (yob (n + 1) k ik kn ic fz sm) = w1 at f1 hY1 ⊢
  refine wp_aload_n (q := 28) d_Y_place_27 rfl rfl rfl ?_
  refine wp_get (q := 31) (k := 2) d_Y_place_28 rfl ok_Y (Nat.le_of_ble_eq_true rfl) fk_Y_7 hY1.1 rfl ?_
  refine wp_iload_n (q := 32) d_Y_place_31 rfl rfl rfl ?_
  refine wp_iconst (q := 33) (v := 0) d_Y_place_32 rfl (by decide) ?_
  refine wp_iastoreN (w' := w1.set 36 (am_ar 8 (pu_set P n 0))) (q := 34) d_Y_place_33 rfl hY1.2.1 rfl h8 (by decide) (by rw [show (0 : Int32) = nI 0 from rfl, pu_upd]) ?_
  obtain ⟨f2, hY2⟩ := hY1.set_p (P1 := pu_set P n 0)
  generalize w1.set 36 (am_ar 8 (pu_set P n 0)) = w2 at f2 hY2 ⊢
  refine wp_aload_n (q := 35) d_Y_place_34 rfl rfl rfl ?_
  refine wp_get (q := 38) (k := 3) d_Y_place_35 rfl ok_Y (Nat.le_of_ble_eq_true rfl) fk_Y_13 hY2.1 rfl ?_
  refine wp_iload_n (q := 39) d_Y_place_38 rfl rfl rfl ?_
  refine wp_iconst (q := 40) (v := -1) d_Y_place_39 rfl (by decide) ?_
  refine wp_iastoreN (w' := w2.set 37 (.inl (0, 8, .inl (upd H n (-1))))) (q := 41) d_Y_place_40 rfl hY2.2.2.1 rfl h8 (by decide) rfl ?_
  obtain ⟨f3, hY3⟩ := hY2.set_h (H1 := upd H n (-1))
  generalize w2.set 37 (.inl (0, 8, .inl (upd H n (-1)))) = w3 at f3 hY3 ⊢
  refine wp_aload_n (q := 42) d_Y_place_41 rfl rfl rfl ?_
  refine wp_iload_n (q := 43) d_Y_place_42 rfl rfl rfl ?_
  refine wp_cV1v (q := 46) d_Y_place_43 rfl bd_Y_evenOdds lk_Y_84 im_Y_evenOdds se_Y_evenOdds rfl (Nat.le_of_ble_eq_true rfl) (Nat.le_of_ble_eq_true rfl) hY3.1 (Nat.le_of_ble_eq_true rfl) (y_evenOdds hY3 h8) ?_
  obtain ⟨f4, hY4⟩ := hY3.set_od (O1 := pu_eo O n 128)
  generalize w3.set 38 (am_ar 1024 (pu_eo O n 128)) = w4 at f4 hY4 ⊢
  refine wp_aload_n (q := 47) d_Y_place_46 rfl rfl rfl ?_
  refine wp_iconst (q := 48) (v := 0) d_Y_place_47 rfl (by decide) ?_
  refine wp_put (q := 51) (k := 8) d_Y_place_48 rfl ok_Y (Nat.le_of_ble_eq_true rfl) fk_Y_74 rfl (am_fit_b (b := false)) hY4.1 (Nat.le_of_ble_eq_true rfl) rfl ?_
  obtain ⟨f5, hY5⟩ := hY4.set_ob (n1 := n + 1) (k1 := k) (ik1 := ik) (kn1 := kn) (ic1 := false) (fz1 := fz) (sm1 := sm)
  refine wp_iload_n (q := 52) d_Y_place_51 rfl rfl rfl ?_
  exact wp_ireturn rfl d_Y_place_52 ⟨rfl, f1.tr (f2.tr (f3.tr (f4.tr f5))), hY5⟩
set_option maxHeartbeats 4000000 in
set_option maxRecDepth 100000 in
theorem y_arc_bad {n k : Nat} {P : Nat → Nat} {H : Nat → Int32} {O : Nat → Nat} {ik : Bool} {kn : Nat} {KP : Nat → Nat} {ic : Bool} {fz sm : Nat} {w : am_W} (hY : YI n k P H O ik kn KP ic fz sm w) (hW : YW n k P H O kn KP) {x y : Int32} (hb : ¬ PR n x y) : am_Wp none m_Y_arc 1 0 0 0 [(0, .ref 35), (1, .int x), (2, .int y)] [] w (am_R (some (.int (-2))) w) := by
  obtain ⟨hn, hk, hP, hO, hkn, hKP, hpop⟩ := id hW
  refine wp_aload_n (q := 1) d_Y_arc_0 rfl rfl rfl ?_
  refine wp_iload_n (q := 2) d_Y_arc_1 rfl rfl rfl ?_
  refine wp_cV1r (q := 5) d_Y_arc_2 rfl bd_Y_isPlace lk_Y_77 im_Y_isPlace se_Y_isPlace rfl (Nat.le_of_ble_eq_true rfl) (Nat.le_of_ble_eq_true rfl) hY.1 (Nat.le_of_ble_eq_true rfl) (y_isPlace hY hn) ?_
  refine wp_if_eq (q := 8) (tgt := 21) d_Y_arc_5 (by decide) rfl (fun c5 => ?_) (fun c5 => ?_)
  · refine wp_bipush (q := 23) (v := -2) d_Y_arc_21 rfl (by decide) ?_
    exact wp_ireturn rfl d_Y_arc_23 ⟨rfl, rfl⟩
  · refine wp_aload_n (q := 9) d_Y_arc_8 rfl rfl rfl ?_
    refine wp_iload_n (q := 10) d_Y_arc_9 rfl rfl rfl ?_
    refine wp_cV1r (q := 13) d_Y_arc_10 rfl bd_Y_isPlace lk_Y_77 im_Y_isPlace se_Y_isPlace rfl (Nat.le_of_ble_eq_true rfl) (Nat.le_of_ble_eq_true rfl) hY.1 (Nat.le_of_ble_eq_true rfl) (y_isPlace hY hn) ?_
    refine wp_if_eq (q := 16) (tgt := 21) d_Y_arc_13 (by decide) rfl (fun c13 => ?_) (fun c13 => ?_)
    · refine wp_bipush (q := 23) (v := -2) d_Y_arc_21 rfl (by decide) ?_
      exact wp_ireturn rfl d_Y_arc_23 ⟨rfl, rfl⟩
    · refine wp_iload_n (q := 17) d_Y_arc_16 rfl rfl rfl ?_
      refine wp_iload_n (q := 18) d_Y_arc_17 rfl rfl rfl ?_
      refine wp_icmp_ne (q := 21) (tgt := 24) d_Y_arc_18 (by decide) rfl (fun c18 => absurd (Classical.byContradiction fun e => hb (by obtain ⟨i, hi, rfl⟩ := pu_q1 c5; obtain ⟨j, hj, rfl⟩ := pu_q1 c13; exact ⟨i, j, hi, hj, fun h => e (by rw [h]), rfl, rfl⟩)) c18) (fun _ => ?_)
      refine wp_bipush (q := 23) (v := -2) d_Y_arc_21 rfl (by decide) ?_
      exact wp_ireturn rfl d_Y_arc_23 ⟨rfl, rfl⟩
set_option maxHeartbeats 4000000 in
set_option maxRecDepth 100000 in
theorem y_arc_joined {n k : Nat} {P : Nat → Nat} {H : Nat → Int32} {O : Nat → Nat} {ik : Bool} {kn : Nat} {KP : Nat → Nat} {ic : Bool} {fz sm : Nat} {w : am_W} (hY : YI n k P H O ik kn KP ic fz sm w) (hW : YW n k P H O kn KP) {i j : Nat} (hi : i < n) (hj : j < n) (hij : i ≠ j) (h1 : (P j).testBit i = true ∨ (P i).testBit j = true) : am_Wp none m_Y_arc 1 0 0 0 [(0, .ref 35), (1, .int (nI i)), (2, .int (nI j))] [] w (am_R (some (.int (-4))) w) := by
  obtain ⟨hn, hk, hP, hO, hkn, hKP, hpop⟩ := id hW
  refine wp_aload_n (q := 1) d_Y_arc_0 rfl rfl rfl ?_
  refine wp_iload_n (q := 2) d_Y_arc_1 rfl rfl rfl ?_
  refine wp_cV1r (q := 5) d_Y_arc_2 rfl bd_Y_isPlace lk_Y_77 im_Y_isPlace se_Y_isPlace rfl (Nat.le_of_ble_eq_true rfl) (Nat.le_of_ble_eq_true rfl) hY.1 (Nat.le_of_ble_eq_true rfl) (y_isPlace hY hn) ?_
  refine wp_if_eq (q := 8) (tgt := 21) d_Y_arc_5 (by decide) rfl (fun c5 => absurd c5 (by rw [pu_q_t ⟨i, hi, rfl⟩]; decide)) (fun _ => ?_)
  refine wp_aload_n (q := 9) d_Y_arc_8 rfl rfl rfl ?_
  refine wp_iload_n (q := 10) d_Y_arc_9 rfl rfl rfl ?_
  refine wp_cV1r (q := 13) d_Y_arc_10 rfl bd_Y_isPlace lk_Y_77 im_Y_isPlace se_Y_isPlace rfl (Nat.le_of_ble_eq_true rfl) (Nat.le_of_ble_eq_true rfl) hY.1 (Nat.le_of_ble_eq_true rfl) (y_isPlace hY hn) ?_
  refine wp_if_eq (q := 16) (tgt := 21) d_Y_arc_13 (by decide) rfl (fun c13 => absurd c13 (by rw [pu_q_t ⟨j, hj, rfl⟩]; decide)) (fun _ => ?_)
  refine wp_iload_n (q := 17) d_Y_arc_16 rfl rfl rfl ?_
  refine wp_iload_n (q := 18) d_Y_arc_17 rfl rfl rfl ?_
  refine wp_icmp_ne (q := 21) (tgt := 24) d_Y_arc_18 (by decide) rfl (fun _ => ?_) (fun c18 => absurd c18 (fun e => hij (pu_nI_inj (by omega) (by omega) e)))
  refine wp_aload_n (q := 25) d_Y_arc_24 rfl rfl rfl ?_
  refine wp_get (q := 28) (k := 2) d_Y_arc_25 rfl ok_Y (Nat.le_of_ble_eq_true rfl) fk_Y_7 hY.1 rfl ?_
  refine wp_iload_n (q := 29) d_Y_arc_28 rfl rfl rfl ?_
  refine wp_ialoadN (q := 30) d_Y_arc_29 rfl hY.2.1 rfl (by omega) (by decide) ?_
  refine wp_iload_n (q := 31) d_Y_arc_30 rfl rfl rfl ?_
  refine wp_ishr (q := 32) d_Y_arc_31 rfl ?_
  refine wp_iconst (q := 33) (v := 1) d_Y_arc_32 rfl (by decide) ?_
  refine wp_iand (q := 34) d_Y_arc_33 rfl ?_
  rw [pu_has (Nat.lt_trans (hP j) (by decide)) (by omega)]
  refine wp_iconst (q := 35) (v := 1) d_Y_arc_34 rfl (by decide) ?_
  refine wp_icmp_eq (q := 38) (tgt := 52) d_Y_arc_35 (by decide) rfl (fun c35 => ?_) (fun c35 => ?_)
  · refine wp_bipush (q := 54) (v := -4) d_Y_arc_52 rfl (by decide) ?_
    exact wp_ireturn rfl d_Y_arc_54 ⟨rfl, rfl⟩
  · refine wp_aload_n (q := 39) d_Y_arc_38 rfl rfl rfl ?_
    refine wp_get (q := 42) (k := 2) d_Y_arc_39 rfl ok_Y (Nat.le_of_ble_eq_true rfl) fk_Y_7 hY.1 rfl ?_
    refine wp_iload_n (q := 43) d_Y_arc_42 rfl rfl rfl ?_
    refine wp_ialoadN (q := 44) d_Y_arc_43 rfl hY.2.1 rfl (by omega) (by decide) ?_
    refine wp_iload_n (q := 45) d_Y_arc_44 rfl rfl rfl ?_
    refine wp_ishr (q := 46) d_Y_arc_45 rfl ?_
    refine wp_iconst (q := 47) (v := 1) d_Y_arc_46 rfl (by decide) ?_
    refine wp_iand (q := 48) d_Y_arc_47 rfl ?_
    rw [pu_has (Nat.lt_trans (hP i) (by decide)) (by omega)]
    refine wp_iconst (q := 49) (v := 1) d_Y_arc_48 rfl (by decide) ?_
    refine wp_icmp_ne (q := 52) (tgt := 55) d_Y_arc_49 (by decide) rfl (fun c49 => absurd (pu_h1.mpr (h1.resolve_left (fun h => c35 (pu_h1.mpr h)))) c49) (fun _ => ?_)
    refine wp_bipush (q := 54) (v := -4) d_Y_arc_52 rfl (by decide) ?_
    exact wp_ireturn rfl d_Y_arc_54 ⟨rfl, rfl⟩
set_option maxHeartbeats 4000000 in
set_option maxRecDepth 100000 in
theorem y_arc_ring {n k : Nat} {P : Nat → Nat} {H : Nat → Int32} {O : Nat → Nat} {ik : Bool} {kn : Nat} {KP : Nat → Nat} {ic : Bool} {fz sm : Nat} {w : am_W} (hY : YI n k P H O ik kn KP ic fz sm w) (hW : YW n k P H O kn KP) {i j : Nat} (hi : i < n) (hj : j < n) (hij : i ≠ j) (h1 : (P j).testBit i = false) (h2 : (P i).testBit j = false) (h3 : (pu_cl P 8 8 (2 ^ i)).testBit j = true) : am_Wp none m_Y_arc 1 0 0 0 [(0, .ref 35), (1, .int (nI i)), (2, .int (nI j))] [] w (am_R (some (.int (-5))) w) := by
  obtain ⟨hn, hk, hP, hO, hkn, hKP, hpop⟩ := id hW
  refine wp_aload_n (q := 1) d_Y_arc_0 rfl rfl rfl ?_
  refine wp_iload_n (q := 2) d_Y_arc_1 rfl rfl rfl ?_
  refine wp_cV1r (q := 5) d_Y_arc_2 rfl bd_Y_isPlace lk_Y_77 im_Y_isPlace se_Y_isPlace rfl (Nat.le_of_ble_eq_true rfl) (Nat.le_of_ble_eq_true rfl) hY.1 (Nat.le_of_ble_eq_true rfl) (y_isPlace hY hn) ?_
  refine wp_if_eq (q := 8) (tgt := 21) d_Y_arc_5 (by decide) rfl (fun c5 => absurd c5 (by rw [pu_q_t ⟨i, hi, rfl⟩]; decide)) (fun _ => ?_)
  refine wp_aload_n (q := 9) d_Y_arc_8 rfl rfl rfl ?_
  refine wp_iload_n (q := 10) d_Y_arc_9 rfl rfl rfl ?_
  refine wp_cV1r (q := 13) d_Y_arc_10 rfl bd_Y_isPlace lk_Y_77 im_Y_isPlace se_Y_isPlace rfl (Nat.le_of_ble_eq_true rfl) (Nat.le_of_ble_eq_true rfl) hY.1 (Nat.le_of_ble_eq_true rfl) (y_isPlace hY hn) ?_
  refine wp_if_eq (q := 16) (tgt := 21) d_Y_arc_13 (by decide) rfl (fun c13 => absurd c13 (by rw [pu_q_t ⟨j, hj, rfl⟩]; decide)) (fun _ => ?_)
  refine wp_iload_n (q := 17) d_Y_arc_16 rfl rfl rfl ?_
  refine wp_iload_n (q := 18) d_Y_arc_17 rfl rfl rfl ?_
  refine wp_icmp_ne (q := 21) (tgt := 24) d_Y_arc_18 (by decide) rfl (fun _ => ?_) (fun c18 => absurd c18 (fun e => hij (pu_nI_inj (by omega) (by omega) e)))
  refine wp_aload_n (q := 25) d_Y_arc_24 rfl rfl rfl ?_
  refine wp_get (q := 28) (k := 2) d_Y_arc_25 rfl ok_Y (Nat.le_of_ble_eq_true rfl) fk_Y_7 hY.1 rfl ?_
  refine wp_iload_n (q := 29) d_Y_arc_28 rfl rfl rfl ?_
  refine wp_ialoadN (q := 30) d_Y_arc_29 rfl hY.2.1 rfl (by omega) (by decide) ?_
  refine wp_iload_n (q := 31) d_Y_arc_30 rfl rfl rfl ?_
  refine wp_ishr (q := 32) d_Y_arc_31 rfl ?_
  refine wp_iconst (q := 33) (v := 1) d_Y_arc_32 rfl (by decide) ?_
  refine wp_iand (q := 34) d_Y_arc_33 rfl ?_
  rw [pu_has (Nat.lt_trans (hP j) (by decide)) (by omega)]
  refine wp_iconst (q := 35) (v := 1) d_Y_arc_34 rfl (by decide) ?_
  refine wp_icmp_eq (q := 38) (tgt := 52) d_Y_arc_35 (by decide) rfl (fun c35 => absurd c35 (fun e => by rw [pu_h1.mp e] at h1; cases h1)) (fun _ => ?_)
  refine wp_aload_n (q := 39) d_Y_arc_38 rfl rfl rfl ?_
  refine wp_get (q := 42) (k := 2) d_Y_arc_39 rfl ok_Y (Nat.le_of_ble_eq_true rfl) fk_Y_7 hY.1 rfl ?_
  refine wp_iload_n (q := 43) d_Y_arc_42 rfl rfl rfl ?_
  refine wp_ialoadN (q := 44) d_Y_arc_43 rfl hY.2.1 rfl (by omega) (by decide) ?_
  refine wp_iload_n (q := 45) d_Y_arc_44 rfl rfl rfl ?_
  refine wp_ishr (q := 46) d_Y_arc_45 rfl ?_
  refine wp_iconst (q := 47) (v := 1) d_Y_arc_46 rfl (by decide) ?_
  refine wp_iand (q := 48) d_Y_arc_47 rfl ?_
  rw [pu_has (Nat.lt_trans (hP i) (by decide)) (by omega)]
  refine wp_iconst (q := 49) (v := 1) d_Y_arc_48 rfl (by decide) ?_
  refine wp_icmp_ne (q := 52) (tgt := 55) d_Y_arc_49 (by decide) rfl (fun _ => ?_) (fun c49 => absurd c49 (fun e => by rw [pu_h1.mp e] at h2; cases h2))
  refine wp_aload_n (q := 56) d_Y_arc_55 rfl rfl rfl ?_
  refine wp_aload_n (q := 57) d_Y_arc_56 rfl rfl rfl ?_
  refine wp_get (q := 60) (k := 2) d_Y_arc_57 rfl ok_Y (Nat.le_of_ble_eq_true rfl) fk_Y_7 hY.1 rfl ?_
  refine wp_iconst (q := 61) (v := 1) d_Y_arc_60 rfl (by decide) ?_
  refine wp_iload_n (q := 62) d_Y_arc_61 rfl rfl rfl ?_
  refine wp_ishl (q := 63) d_Y_arc_62 rfl ?_
  rw [pu_bit i (by omega)]
  refine wp_cV2r (q := 66) d_Y_arc_63 rfl bd_Y_aboveOf lk_Y_88 im_Y_aboveOf se_Y_aboveOf rfl (Nat.le_of_ble_eq_true rfl) (Nat.le_of_ble_eq_true rfl) hY.1 (Nat.le_of_ble_eq_true rfl) (y_above hY.2.1 hP (pu_p2 (by omega))) ?_
  refine wp_iload_n (q := 67) d_Y_arc_66 rfl rfl rfl ?_
  refine wp_ishr (q := 68) d_Y_arc_67 rfl ?_
  refine wp_iconst (q := 69) (v := 1) d_Y_arc_68 rfl (by decide) ?_
  refine wp_iand (q := 70) d_Y_arc_69 rfl ?_
  rw [pu_has (Nat.lt_trans (pu_cl_lt hP (pu_p2 (by omega))) (by decide)) (by omega)]
  refine wp_iconst (q := 71) (v := 1) d_Y_arc_70 rfl (by decide) ?_
  refine wp_icmp_ne (q := 74) (tgt := 77) d_Y_arc_71 (by decide) rfl (fun c71 => absurd (pu_h1.mpr h3) c71) (fun _ => ?_)
  refine wp_bipush (q := 76) (v := -5) d_Y_arc_74 rfl (by decide) ?_
  exact wp_ireturn rfl d_Y_arc_76 ⟨rfl, rfl⟩
set_option maxHeartbeats 4000000 in
set_option maxRecDepth 100000 in
theorem y_arc_full {n k : Nat} {P : Nat → Nat} {H : Nat → Int32} {O : Nat → Nat} {ik : Bool} {kn : Nat} {KP : Nat → Nat} {ic : Bool} {fz sm : Nat} {w : am_W} (hY : YI n k P H O ik kn KP ic fz sm w) (hW : YW n k P H O kn KP) {i j : Nat} (hi : i < n) (hj : j < n) (hij : i ≠ j) (h1 : (P j).testBit i = false) (h2 : (P i).testBit j = false) (h3 : (pu_cl P 8 8 (2 ^ i)).testBit j = false) (h4 : k = 10) : am_Wp none m_Y_arc 1 0 0 0 [(0, .ref 35), (1, .int (nI i)), (2, .int (nI j))] [] w (am_R (some (.int (-3))) w) := by
  obtain ⟨hn, hk, hP, hO, hkn, hKP, hpop⟩ := id hW
  refine wp_aload_n (q := 1) d_Y_arc_0 rfl rfl rfl ?_
  refine wp_iload_n (q := 2) d_Y_arc_1 rfl rfl rfl ?_
  refine wp_cV1r (q := 5) d_Y_arc_2 rfl bd_Y_isPlace lk_Y_77 im_Y_isPlace se_Y_isPlace rfl (Nat.le_of_ble_eq_true rfl) (Nat.le_of_ble_eq_true rfl) hY.1 (Nat.le_of_ble_eq_true rfl) (y_isPlace hY hn) ?_
  refine wp_if_eq (q := 8) (tgt := 21) d_Y_arc_5 (by decide) rfl (fun c5 => absurd c5 (by rw [pu_q_t ⟨i, hi, rfl⟩]; decide)) (fun _ => ?_)
  refine wp_aload_n (q := 9) d_Y_arc_8 rfl rfl rfl ?_
  refine wp_iload_n (q := 10) d_Y_arc_9 rfl rfl rfl ?_
  refine wp_cV1r (q := 13) d_Y_arc_10 rfl bd_Y_isPlace lk_Y_77 im_Y_isPlace se_Y_isPlace rfl (Nat.le_of_ble_eq_true rfl) (Nat.le_of_ble_eq_true rfl) hY.1 (Nat.le_of_ble_eq_true rfl) (y_isPlace hY hn) ?_
  refine wp_if_eq (q := 16) (tgt := 21) d_Y_arc_13 (by decide) rfl (fun c13 => absurd c13 (by rw [pu_q_t ⟨j, hj, rfl⟩]; decide)) (fun _ => ?_)
  refine wp_iload_n (q := 17) d_Y_arc_16 rfl rfl rfl ?_
  refine wp_iload_n (q := 18) d_Y_arc_17 rfl rfl rfl ?_
  refine wp_icmp_ne (q := 21) (tgt := 24) d_Y_arc_18 (by decide) rfl (fun _ => ?_) (fun c18 => absurd c18 (fun e => hij (pu_nI_inj (by omega) (by omega) e)))
  refine wp_aload_n (q := 25) d_Y_arc_24 rfl rfl rfl ?_
  refine wp_get (q := 28) (k := 2) d_Y_arc_25 rfl ok_Y (Nat.le_of_ble_eq_true rfl) fk_Y_7 hY.1 rfl ?_
  refine wp_iload_n (q := 29) d_Y_arc_28 rfl rfl rfl ?_
  refine wp_ialoadN (q := 30) d_Y_arc_29 rfl hY.2.1 rfl (by omega) (by decide) ?_
  refine wp_iload_n (q := 31) d_Y_arc_30 rfl rfl rfl ?_
  refine wp_ishr (q := 32) d_Y_arc_31 rfl ?_
  refine wp_iconst (q := 33) (v := 1) d_Y_arc_32 rfl (by decide) ?_
  refine wp_iand (q := 34) d_Y_arc_33 rfl ?_
  rw [pu_has (Nat.lt_trans (hP j) (by decide)) (by omega)]
  refine wp_iconst (q := 35) (v := 1) d_Y_arc_34 rfl (by decide) ?_
  refine wp_icmp_eq (q := 38) (tgt := 52) d_Y_arc_35 (by decide) rfl (fun c35 => absurd c35 (fun e => by rw [pu_h1.mp e] at h1; cases h1)) (fun _ => ?_)
  refine wp_aload_n (q := 39) d_Y_arc_38 rfl rfl rfl ?_
  refine wp_get (q := 42) (k := 2) d_Y_arc_39 rfl ok_Y (Nat.le_of_ble_eq_true rfl) fk_Y_7 hY.1 rfl ?_
  refine wp_iload_n (q := 43) d_Y_arc_42 rfl rfl rfl ?_
  refine wp_ialoadN (q := 44) d_Y_arc_43 rfl hY.2.1 rfl (by omega) (by decide) ?_
  refine wp_iload_n (q := 45) d_Y_arc_44 rfl rfl rfl ?_
  refine wp_ishr (q := 46) d_Y_arc_45 rfl ?_
  refine wp_iconst (q := 47) (v := 1) d_Y_arc_46 rfl (by decide) ?_
  refine wp_iand (q := 48) d_Y_arc_47 rfl ?_
  rw [pu_has (Nat.lt_trans (hP i) (by decide)) (by omega)]
  refine wp_iconst (q := 49) (v := 1) d_Y_arc_48 rfl (by decide) ?_
  refine wp_icmp_ne (q := 52) (tgt := 55) d_Y_arc_49 (by decide) rfl (fun _ => ?_) (fun c49 => absurd c49 (fun e => by rw [pu_h1.mp e] at h2; cases h2))
  refine wp_aload_n (q := 56) d_Y_arc_55 rfl rfl rfl ?_
  refine wp_aload_n (q := 57) d_Y_arc_56 rfl rfl rfl ?_
  refine wp_get (q := 60) (k := 2) d_Y_arc_57 rfl ok_Y (Nat.le_of_ble_eq_true rfl) fk_Y_7 hY.1 rfl ?_
  refine wp_iconst (q := 61) (v := 1) d_Y_arc_60 rfl (by decide) ?_
  refine wp_iload_n (q := 62) d_Y_arc_61 rfl rfl rfl ?_
  refine wp_ishl (q := 63) d_Y_arc_62 rfl ?_
  rw [pu_bit i (by omega)]
  refine wp_cV2r (q := 66) d_Y_arc_63 rfl bd_Y_aboveOf lk_Y_88 im_Y_aboveOf se_Y_aboveOf rfl (Nat.le_of_ble_eq_true rfl) (Nat.le_of_ble_eq_true rfl) hY.1 (Nat.le_of_ble_eq_true rfl) (y_above hY.2.1 hP (pu_p2 (by omega))) ?_
  refine wp_iload_n (q := 67) d_Y_arc_66 rfl rfl rfl ?_
  refine wp_ishr (q := 68) d_Y_arc_67 rfl ?_
  refine wp_iconst (q := 69) (v := 1) d_Y_arc_68 rfl (by decide) ?_
  refine wp_iand (q := 70) d_Y_arc_69 rfl ?_
  rw [pu_has (Nat.lt_trans (pu_cl_lt hP (pu_p2 (by omega))) (by decide)) (by omega)]
  refine wp_iconst (q := 71) (v := 1) d_Y_arc_70 rfl (by decide) ?_
  refine wp_icmp_ne (q := 74) (tgt := 77) d_Y_arc_71 (by decide) rfl (fun _ => ?_) (fun c71 => absurd c71 (fun e => by rw [pu_h1.mp e] at h3; cases h3))
  refine wp_aload_n (q := 78) d_Y_arc_77 rfl rfl rfl ?_
  refine wp_get (q := 81) (k := 1) d_Y_arc_78 rfl ok_Y (Nat.le_of_ble_eq_true rfl) fk_Y_67 hY.1 rfl ?_
  refine wp_bipush (q := 83) (v := 10) d_Y_arc_81 rfl (by decide) ?_
  refine wp_icmp_ne (q := 86) (tgt := 89) d_Y_arc_83 (by decide) rfl (fun c83 => absurd (by rw [h4]; rfl) c83) (fun _ => ?_)
  refine wp_bipush (q := 88) (v := -3) d_Y_arc_86 rfl (by decide) ?_
  exact wp_ireturn rfl d_Y_arc_88 ⟨rfl, rfl⟩
set_option maxHeartbeats 4000000 in
set_option maxRecDepth 100000 in
theorem y_arc {n k : Nat} {P : Nat → Nat} {H : Nat → Int32} {O : Nat → Nat} {ik : Bool} {kn : Nat} {KP : Nat → Nat} {ic : Bool} {fz sm : Nat} {w : am_W} (hY : YI n k P H O ik kn KP ic fz sm w) (hW : YW n k P H O kn KP) {i j : Nat} (hi : i < n) (hj : j < n) (hij : i ≠ j) (h1 : (P j).testBit i = false) (h2 : (P i).testBit j = false) (h3 : (pu_cl P 8 8 (2 ^ i)).testBit j = false) (h4 : k < 10) : am_Wp none m_Y_arc 1 0 0 0 [(0, .ref 35), (1, .int (nI i)), (2, .int (nI j))] [] w (fun v w1 => v = some (.int (nI (k + 1))) ∧ YF DY w w1 ∧ YI n (k + 1) (pu_set P j (P j ||| 2 ^ i)) H (pu_eo O j 128) ik kn KP false fz sm w1) := by
  obtain ⟨hn, hk, hP, hO, hkn, hKP, hpop⟩ := id hW
  refine wp_aload_n (q := 1) d_Y_arc_0 rfl rfl rfl ?_
  refine wp_iload_n (q := 2) d_Y_arc_1 rfl rfl rfl ?_
  refine wp_cV1r (q := 5) d_Y_arc_2 rfl bd_Y_isPlace lk_Y_77 im_Y_isPlace se_Y_isPlace rfl (Nat.le_of_ble_eq_true rfl) (Nat.le_of_ble_eq_true rfl) hY.1 (Nat.le_of_ble_eq_true rfl) (y_isPlace hY hn) ?_
  refine wp_if_eq (q := 8) (tgt := 21) d_Y_arc_5 (by decide) rfl (fun c5 => absurd c5 (by rw [pu_q_t ⟨i, hi, rfl⟩]; decide)) (fun _ => ?_)
  refine wp_aload_n (q := 9) d_Y_arc_8 rfl rfl rfl ?_
  refine wp_iload_n (q := 10) d_Y_arc_9 rfl rfl rfl ?_
  refine wp_cV1r (q := 13) d_Y_arc_10 rfl bd_Y_isPlace lk_Y_77 im_Y_isPlace se_Y_isPlace rfl (Nat.le_of_ble_eq_true rfl) (Nat.le_of_ble_eq_true rfl) hY.1 (Nat.le_of_ble_eq_true rfl) (y_isPlace hY hn) ?_
  refine wp_if_eq (q := 16) (tgt := 21) d_Y_arc_13 (by decide) rfl (fun c13 => absurd c13 (by rw [pu_q_t ⟨j, hj, rfl⟩]; decide)) (fun _ => ?_)
  refine wp_iload_n (q := 17) d_Y_arc_16 rfl rfl rfl ?_
  refine wp_iload_n (q := 18) d_Y_arc_17 rfl rfl rfl ?_
  refine wp_icmp_ne (q := 21) (tgt := 24) d_Y_arc_18 (by decide) rfl (fun _ => ?_) (fun c18 => absurd c18 (fun e => hij (pu_nI_inj (by omega) (by omega) e)))
  refine wp_aload_n (q := 25) d_Y_arc_24 rfl rfl rfl ?_
  refine wp_get (q := 28) (k := 2) d_Y_arc_25 rfl ok_Y (Nat.le_of_ble_eq_true rfl) fk_Y_7 hY.1 rfl ?_
  refine wp_iload_n (q := 29) d_Y_arc_28 rfl rfl rfl ?_
  refine wp_ialoadN (q := 30) d_Y_arc_29 rfl hY.2.1 rfl (by omega) (by decide) ?_
  refine wp_iload_n (q := 31) d_Y_arc_30 rfl rfl rfl ?_
  refine wp_ishr (q := 32) d_Y_arc_31 rfl ?_
  refine wp_iconst (q := 33) (v := 1) d_Y_arc_32 rfl (by decide) ?_
  refine wp_iand (q := 34) d_Y_arc_33 rfl ?_
  rw [pu_has (Nat.lt_trans (hP j) (by decide)) (by omega)]
  refine wp_iconst (q := 35) (v := 1) d_Y_arc_34 rfl (by decide) ?_
  refine wp_icmp_eq (q := 38) (tgt := 52) d_Y_arc_35 (by decide) rfl (fun c35 => absurd c35 (fun e => by rw [pu_h1.mp e] at h1; cases h1)) (fun _ => ?_)
  refine wp_aload_n (q := 39) d_Y_arc_38 rfl rfl rfl ?_
  refine wp_get (q := 42) (k := 2) d_Y_arc_39 rfl ok_Y (Nat.le_of_ble_eq_true rfl) fk_Y_7 hY.1 rfl ?_
  refine wp_iload_n (q := 43) d_Y_arc_42 rfl rfl rfl ?_
  refine wp_ialoadN (q := 44) d_Y_arc_43 rfl hY.2.1 rfl (by omega) (by decide) ?_
  refine wp_iload_n (q := 45) d_Y_arc_44 rfl rfl rfl ?_
  refine wp_ishr (q := 46) d_Y_arc_45 rfl ?_
  refine wp_iconst (q := 47) (v := 1) d_Y_arc_46 rfl (by decide) ?_
  refine wp_iand (q := 48) d_Y_arc_47 rfl ?_
  rw [pu_has (Nat.lt_trans (hP i) (by decide)) (by omega)]
  refine wp_iconst (q := 49) (v := 1) d_Y_arc_48 rfl (by decide) ?_
  refine wp_icmp_ne (q := 52) (tgt := 55) d_Y_arc_49 (by decide) rfl (fun _ => ?_) (fun c49 => absurd c49 (fun e => by rw [pu_h1.mp e] at h2; cases h2))
  refine wp_aload_n (q := 56) d_Y_arc_55 rfl rfl rfl ?_
  refine wp_aload_n (q := 57) d_Y_arc_56 rfl rfl rfl ?_
  refine wp_get (q := 60) (k := 2) d_Y_arc_57 rfl ok_Y (Nat.le_of_ble_eq_true rfl) fk_Y_7 hY.1 rfl ?_
  refine wp_iconst (q := 61) (v := 1) d_Y_arc_60 rfl (by decide) ?_
  refine wp_iload_n (q := 62) d_Y_arc_61 rfl rfl rfl ?_
  refine wp_ishl (q := 63) d_Y_arc_62 rfl ?_
  rw [pu_bit i (by omega)]
  refine wp_cV2r (q := 66) d_Y_arc_63 rfl bd_Y_aboveOf lk_Y_88 im_Y_aboveOf se_Y_aboveOf rfl (Nat.le_of_ble_eq_true rfl) (Nat.le_of_ble_eq_true rfl) hY.1 (Nat.le_of_ble_eq_true rfl) (y_above hY.2.1 hP (pu_p2 (by omega))) ?_
  refine wp_iload_n (q := 67) d_Y_arc_66 rfl rfl rfl ?_
  refine wp_ishr (q := 68) d_Y_arc_67 rfl ?_
  refine wp_iconst (q := 69) (v := 1) d_Y_arc_68 rfl (by decide) ?_
  refine wp_iand (q := 70) d_Y_arc_69 rfl ?_
  rw [pu_has (Nat.lt_trans (pu_cl_lt hP (pu_p2 (by omega))) (by decide)) (by omega)]
  refine wp_iconst (q := 71) (v := 1) d_Y_arc_70 rfl (by decide) ?_
  refine wp_icmp_ne (q := 74) (tgt := 77) d_Y_arc_71 (by decide) rfl (fun _ => ?_) (fun c71 => absurd c71 (fun e => by rw [pu_h1.mp e] at h3; cases h3))
  refine wp_aload_n (q := 78) d_Y_arc_77 rfl rfl rfl ?_
  refine wp_get (q := 81) (k := 1) d_Y_arc_78 rfl ok_Y (Nat.le_of_ble_eq_true rfl) fk_Y_67 hY.1 rfl ?_
  refine wp_bipush (q := 83) (v := 10) d_Y_arc_81 rfl (by decide) ?_
  refine wp_icmp_ne (q := 86) (tgt := 89) d_Y_arc_83 (by decide) rfl (fun _ => ?_) (fun c83 => absurd c83 (fun e => by have := pu_nI_inj (a := k) (b := 10) (by omega) (by decide) e; omega))
  refine wp_aload_n (q := 90) d_Y_arc_89 rfl rfl rfl ?_
  refine wp_get (q := 93) (k := 2) d_Y_arc_90 rfl ok_Y (Nat.le_of_ble_eq_true rfl) fk_Y_7 hY.1 rfl ?_
  refine wp_iload_n (q := 94) d_Y_arc_93 rfl rfl rfl ?_
  refine wp_dup2 (q := 95) d_Y_arc_94 rfl rfl rfl ?_
  refine wp_ialoadN (q := 96) d_Y_arc_95 rfl hY.2.1 rfl (by omega) (by decide) ?_
  refine wp_iconst (q := 97) (v := 1) d_Y_arc_96 rfl (by decide) ?_
  refine wp_iload_n (q := 98) d_Y_arc_97 rfl rfl rfl ?_
  refine wp_ishl (q := 99) d_Y_arc_98 rfl ?_
  rw [pu_bit i (by omega)]
  refine wp_ior (q := 100) d_Y_arc_99 rfl ?_
  rw [pu_or]
  refine wp_iastoreN (w' := w.set 36 (am_ar 8 (pu_set P j (P j ||| 2 ^ i)))) (q := 101) d_Y_arc_100 rfl hY.2.1 rfl (by omega) (by decide) (by rw [pu_upd]) ?_
  obtain ⟨f1, hY1⟩ := hY.set_p (P1 := (pu_set P j (P j ||| 2 ^ i)))
  generalize w.set 36 (am_ar 8 (pu_set P j (P j ||| 2 ^ i))) = w1 at f1 hY1 ⊢
  refine wp_aload_n (q := 102) d_Y_arc_101 rfl rfl rfl ?_
  refine wp_iload_n (q := 103) d_Y_arc_102 rfl rfl rfl ?_
  refine wp_cV1v (q := 106) d_Y_arc_103 rfl bd_Y_evenOdds lk_Y_84 im_Y_evenOdds se_Y_evenOdds rfl (Nat.le_of_ble_eq_true rfl) (Nat.le_of_ble_eq_true rfl) hY1.1 (Nat.le_of_ble_eq_true rfl) (y_evenOdds hY1 (i := j) (by omega)) ?_
  obtain ⟨f2, hY2⟩ := hY1.set_od (O1 := pu_eo O j 128)
  generalize w1.set 38 (am_ar 1024 (pu_eo O j 128)) = w2 at f2 hY2 ⊢
  refine wp_aload_n (q := 107) d_Y_arc_106 rfl rfl rfl ?_
  refine wp_dup (q := 108) d_Y_arc_107 rfl rfl ?_
  refine wp_get (q := 111) (k := 1) d_Y_arc_108 rfl ok_Y (Nat.le_of_ble_eq_true rfl) fk_Y_67 hY2.1 rfl ?_
  refine wp_iconst (q := 112) (v := 1) d_Y_arc_111 rfl (by decide) ?_
  refine wp_iadd (q := 113) d_Y_arc_112 rfl ?_
  rw [nI_1]
  refine wp_put (q := 116) (k := 1) d_Y_arc_113 rfl ok_Y (Nat.le_of_ble_eq_true rfl) fk_Y_67 rfl am_fit_i hY2.1 (Nat.le_of_ble_eq_true rfl) rfl ?_
  obtain ⟨f3, hY3⟩ := hY2.set_ob (n1 := n) (k1 := k + 1) (ik1 := ik) (kn1 := kn) (ic1 := ic) (fz1 := fz) (sm1 := sm)
  show am_Wp _ _ _ _ _ _ _ _ (w2.set 35 (yob n (k + 1) ik kn ic fz sm)) _
  generalize w2.set 35 (yob n (k + 1) ik kn ic fz sm) = w3 at f3 hY3 ⊢
  refine wp_aload_n (q := 117) d_Y_arc_116 rfl rfl rfl ?_
  refine wp_iconst (q := 118) (v := 0) d_Y_arc_117 rfl (by decide) ?_
  refine wp_put (q := 121) (k := 8) d_Y_arc_118 rfl ok_Y (Nat.le_of_ble_eq_true rfl) fk_Y_74 rfl (am_fit_b (b := false)) hY3.1 (Nat.le_of_ble_eq_true rfl) rfl ?_
  obtain ⟨f4, hY4⟩ := hY3.set_ob (n1 := n) (k1 := k + 1) (ik1 := ik) (kn1 := kn) (ic1 := false) (fz1 := fz) (sm1 := sm)
  show am_Wp _ _ _ _ _ _ _ _ (w3.set 35 (yob n (k + 1) ik kn false fz sm)) _
  generalize w3.set 35 (yob n (k + 1) ik kn false fz sm) = w4 at f4 hY4 ⊢
  refine wp_aload_n (q := 122) d_Y_arc_121 rfl rfl rfl ?_
  refine wp_get (q := 125) (k := 1) d_Y_arc_122 rfl ok_Y (Nat.le_of_ble_eq_true rfl) fk_Y_67 hY4.1 rfl ?_
  exact wp_ireturn rfl d_Y_arc_125 ⟨rfl, f1.tr (f2.tr (f3.tr f4)), hY4⟩
set_option maxHeartbeats 4000000 in
set_option maxRecDepth 100000 in
theorem y_cut_bad {n k : Nat} {P : Nat → Nat} {H : Nat → Int32} {O : Nat → Nat} {ik : Bool} {kn : Nat} {KP : Nat → Nat} {ic : Bool} {fz sm : Nat} {w : am_W} (hY : YI n k P H O ik kn KP ic fz sm w) (hW : YW n k P H O kn KP) {x y : Int32} (hb : ¬ PR n x y) : am_Wp none m_Y_cut 1 0 0 0 [(0, .ref 35), (1, .int x), (2, .int y)] [] w (am_R (some (.int (-2))) w) := by
  obtain ⟨hn, hk, hP, hO, hkn, hKP, hpop⟩ := id hW
  refine wp_aload_n (q := 1) d_Y_cut_0 rfl rfl rfl ?_
  refine wp_iload_n (q := 2) d_Y_cut_1 rfl rfl rfl ?_
  refine wp_cV1r (q := 5) d_Y_cut_2 rfl bd_Y_isPlace lk_Y_77 im_Y_isPlace se_Y_isPlace rfl (Nat.le_of_ble_eq_true rfl) (Nat.le_of_ble_eq_true rfl) hY.1 (Nat.le_of_ble_eq_true rfl) (y_isPlace hY hn) ?_
  refine wp_if_eq (q := 8) (tgt := 21) d_Y_cut_5 (by decide) rfl (fun c5 => ?_) (fun c5 => ?_)
  · refine wp_bipush (q := 23) (v := -2) d_Y_cut_21 rfl (by decide) ?_
    exact wp_ireturn rfl d_Y_cut_23 ⟨rfl, rfl⟩
  · refine wp_aload_n (q := 9) d_Y_cut_8 rfl rfl rfl ?_
    refine wp_iload_n (q := 10) d_Y_cut_9 rfl rfl rfl ?_
    refine wp_cV1r (q := 13) d_Y_cut_10 rfl bd_Y_isPlace lk_Y_77 im_Y_isPlace se_Y_isPlace rfl (Nat.le_of_ble_eq_true rfl) (Nat.le_of_ble_eq_true rfl) hY.1 (Nat.le_of_ble_eq_true rfl) (y_isPlace hY hn) ?_
    refine wp_if_eq (q := 16) (tgt := 21) d_Y_cut_13 (by decide) rfl (fun c13 => ?_) (fun c13 => ?_)
    · refine wp_bipush (q := 23) (v := -2) d_Y_cut_21 rfl (by decide) ?_
      exact wp_ireturn rfl d_Y_cut_23 ⟨rfl, rfl⟩
    · refine wp_iload_n (q := 17) d_Y_cut_16 rfl rfl rfl ?_
      refine wp_iload_n (q := 18) d_Y_cut_17 rfl rfl rfl ?_
      refine wp_icmp_ne (q := 21) (tgt := 24) d_Y_cut_18 (by decide) rfl (fun c18 => absurd (Classical.byContradiction fun e => hb (by obtain ⟨i, hi, rfl⟩ := pu_q1 c5; obtain ⟨j, hj, rfl⟩ := pu_q1 c13; exact ⟨i, j, hi, hj, fun h => e (by rw [h]), rfl, rfl⟩)) c18) (fun _ => ?_)
      refine wp_bipush (q := 23) (v := -2) d_Y_cut_21 rfl (by decide) ?_
      exact wp_ireturn rfl d_Y_cut_23 ⟨rfl, rfl⟩
set_option maxHeartbeats 4000000 in
set_option maxRecDepth 100000 in
theorem y_cut_none {n k : Nat} {P : Nat → Nat} {H : Nat → Int32} {O : Nat → Nat} {ik : Bool} {kn : Nat} {KP : Nat → Nat} {ic : Bool} {fz sm : Nat} {w : am_W} (hY : YI n k P H O ik kn KP ic fz sm w) (hW : YW n k P H O kn KP) {i j : Nat} (hi : i < n) (hj : j < n) (hij : i ≠ j) (h1 : (P j).testBit i = false) : am_Wp none m_Y_cut 1 0 0 0 [(0, .ref 35), (1, .int (nI i)), (2, .int (nI j))] [] w (am_R (some (.int (-1))) w) := by
  obtain ⟨hn, hk, hP, hO, hkn, hKP, hpop⟩ := id hW
  refine wp_aload_n (q := 1) d_Y_cut_0 rfl rfl rfl ?_
  refine wp_iload_n (q := 2) d_Y_cut_1 rfl rfl rfl ?_
  refine wp_cV1r (q := 5) d_Y_cut_2 rfl bd_Y_isPlace lk_Y_77 im_Y_isPlace se_Y_isPlace rfl (Nat.le_of_ble_eq_true rfl) (Nat.le_of_ble_eq_true rfl) hY.1 (Nat.le_of_ble_eq_true rfl) (y_isPlace hY hn) ?_
  refine wp_if_eq (q := 8) (tgt := 21) d_Y_cut_5 (by decide) rfl (fun c5 => absurd c5 (by rw [pu_q_t ⟨i, hi, rfl⟩]; decide)) (fun _ => ?_)
  refine wp_aload_n (q := 9) d_Y_cut_8 rfl rfl rfl ?_
  refine wp_iload_n (q := 10) d_Y_cut_9 rfl rfl rfl ?_
  refine wp_cV1r (q := 13) d_Y_cut_10 rfl bd_Y_isPlace lk_Y_77 im_Y_isPlace se_Y_isPlace rfl (Nat.le_of_ble_eq_true rfl) (Nat.le_of_ble_eq_true rfl) hY.1 (Nat.le_of_ble_eq_true rfl) (y_isPlace hY hn) ?_
  refine wp_if_eq (q := 16) (tgt := 21) d_Y_cut_13 (by decide) rfl (fun c13 => absurd c13 (by rw [pu_q_t ⟨j, hj, rfl⟩]; decide)) (fun _ => ?_)
  refine wp_iload_n (q := 17) d_Y_cut_16 rfl rfl rfl ?_
  refine wp_iload_n (q := 18) d_Y_cut_17 rfl rfl rfl ?_
  refine wp_icmp_ne (q := 21) (tgt := 24) d_Y_cut_18 (by decide) rfl (fun _ => ?_) (fun c18 => absurd c18 (fun e => hij (pu_nI_inj (by omega) (by omega) e)))
  refine wp_aload_n (q := 25) d_Y_cut_24 rfl rfl rfl ?_
  refine wp_iload_n (q := 26) d_Y_cut_25 rfl rfl rfl ?_
  refine wp_iload_n (q := 27) d_Y_cut_26 rfl rfl rfl ?_
  refine wp_cV2r (q := 30) d_Y_cut_27 rfl bd_Y_isArc lk_Y_92 im_Y_isArc se_Y_isArc rfl (Nat.le_of_ble_eq_true rfl) (Nat.le_of_ble_eq_true rfl) hY.1 (Nat.le_of_ble_eq_true rfl) (y_isArc hY hP (by omega) (by omega)) ?_
  refine wp_if_ne (q := 33) (tgt := 35) d_Y_cut_30 (by decide) rfl (fun c30 => absurd (by rw [h1]; rfl) c30) (fun _ => ?_)
  refine wp_iconst (q := 34) (v := -1) d_Y_cut_33 rfl (by decide) ?_
  exact wp_ireturn rfl d_Y_cut_34 ⟨rfl, rfl⟩
set_option maxHeartbeats 4000000 in
set_option maxRecDepth 100000 in
theorem y_cut {n k : Nat} {P : Nat → Nat} {H : Nat → Int32} {O : Nat → Nat} {ik : Bool} {kn : Nat} {KP : Nat → Nat} {ic : Bool} {fz sm : Nat} {w : am_W} (hY : YI n k P H O ik kn KP ic fz sm w) (hW : YW n k P H O kn KP) {i j : Nat} (hi : i < n) (hj : j < n) (hij : i ≠ j) (h1 : (P j).testBit i = true) (hk1 : 1 ≤ k) : am_Wp none m_Y_cut 1 0 0 0 [(0, .ref 35), (1, .int (nI i)), (2, .int (nI j))] [] w (fun v w1 => v = some (.int (nI (k - 1))) ∧ YF DY w w1 ∧ YI n (k - 1) (pu_set P j (pu_dif (P j) (2 ^ i))) H (pu_eo O j 128) ik kn KP false fz sm w1) := by
  obtain ⟨hn, hk, hP, hO, hkn, hKP, hpop⟩ := id hW
  refine wp_aload_n (q := 1) d_Y_cut_0 rfl rfl rfl ?_
  refine wp_iload_n (q := 2) d_Y_cut_1 rfl rfl rfl ?_
  refine wp_cV1r (q := 5) d_Y_cut_2 rfl bd_Y_isPlace lk_Y_77 im_Y_isPlace se_Y_isPlace rfl (Nat.le_of_ble_eq_true rfl) (Nat.le_of_ble_eq_true rfl) hY.1 (Nat.le_of_ble_eq_true rfl) (y_isPlace hY hn) ?_
  refine wp_if_eq (q := 8) (tgt := 21) d_Y_cut_5 (by decide) rfl (fun c5 => absurd c5 (by rw [pu_q_t ⟨i, hi, rfl⟩]; decide)) (fun _ => ?_)
  refine wp_aload_n (q := 9) d_Y_cut_8 rfl rfl rfl ?_
  refine wp_iload_n (q := 10) d_Y_cut_9 rfl rfl rfl ?_
  refine wp_cV1r (q := 13) d_Y_cut_10 rfl bd_Y_isPlace lk_Y_77 im_Y_isPlace se_Y_isPlace rfl (Nat.le_of_ble_eq_true rfl) (Nat.le_of_ble_eq_true rfl) hY.1 (Nat.le_of_ble_eq_true rfl) (y_isPlace hY hn) ?_
  refine wp_if_eq (q := 16) (tgt := 21) d_Y_cut_13 (by decide) rfl (fun c13 => absurd c13 (by rw [pu_q_t ⟨j, hj, rfl⟩]; decide)) (fun _ => ?_)
  refine wp_iload_n (q := 17) d_Y_cut_16 rfl rfl rfl ?_
  refine wp_iload_n (q := 18) d_Y_cut_17 rfl rfl rfl ?_
  refine wp_icmp_ne (q := 21) (tgt := 24) d_Y_cut_18 (by decide) rfl (fun _ => ?_) (fun c18 => absurd c18 (fun e => hij (pu_nI_inj (by omega) (by omega) e)))
  refine wp_aload_n (q := 25) d_Y_cut_24 rfl rfl rfl ?_
  refine wp_iload_n (q := 26) d_Y_cut_25 rfl rfl rfl ?_
  refine wp_iload_n (q := 27) d_Y_cut_26 rfl rfl rfl ?_
  refine wp_cV2r (q := 30) d_Y_cut_27 rfl bd_Y_isArc lk_Y_92 im_Y_isArc se_Y_isArc rfl (Nat.le_of_ble_eq_true rfl) (Nat.le_of_ble_eq_true rfl) hY.1 (Nat.le_of_ble_eq_true rfl) (y_isArc hY hP (by omega) (by omega)) ?_
  refine wp_if_ne (q := 33) (tgt := 35) d_Y_cut_30 (by decide) rfl (fun _ => ?_) (fun c30 => absurd c30 (by rw [h1]; decide))
  refine wp_aload_n (q := 36) d_Y_cut_35 rfl rfl rfl ?_
  refine wp_get (q := 39) (k := 2) d_Y_cut_36 rfl ok_Y (Nat.le_of_ble_eq_true rfl) fk_Y_7 hY.1 rfl ?_
  refine wp_iload_n (q := 40) d_Y_cut_39 rfl rfl rfl ?_
  refine wp_dup2 (q := 41) d_Y_cut_40 rfl rfl rfl ?_
  refine wp_ialoadN (q := 42) d_Y_cut_41 rfl hY.2.1 rfl (by omega) (by decide) ?_
  refine wp_iconst (q := 43) (v := 1) d_Y_cut_42 rfl (by decide) ?_
  refine wp_iload_n (q := 44) d_Y_cut_43 rfl rfl rfl ?_
  refine wp_ishl (q := 45) d_Y_cut_44 rfl ?_
  rw [pu_bit i (by omega)]
  refine wp_iconst (q := 46) (v := -1) d_Y_cut_45 rfl (by decide) ?_
  refine wp_ixor (q := 47) d_Y_cut_46 rfl ?_
  refine wp_iand (q := 48) d_Y_cut_47 rfl ?_
  rw [pu_not]
  refine wp_iastoreN (w' := w.set 36 (am_ar 8 (pu_set P j (pu_dif (P j) (2 ^ i))))) (q := 49) d_Y_cut_48 rfl hY.2.1 rfl (by omega) (by decide) (by rw [pu_upd]) ?_
  obtain ⟨f1, hY1⟩ := hY.set_p (P1 := (pu_set P j (pu_dif (P j) (2 ^ i))))
  generalize w.set 36 (am_ar 8 (pu_set P j (pu_dif (P j) (2 ^ i)))) = w1 at f1 hY1 ⊢
  refine wp_aload_n (q := 50) d_Y_cut_49 rfl rfl rfl ?_
  refine wp_iload_n (q := 51) d_Y_cut_50 rfl rfl rfl ?_
  refine wp_cV1v (q := 54) d_Y_cut_51 rfl bd_Y_evenOdds lk_Y_84 im_Y_evenOdds se_Y_evenOdds rfl (Nat.le_of_ble_eq_true rfl) (Nat.le_of_ble_eq_true rfl) hY1.1 (Nat.le_of_ble_eq_true rfl) (y_evenOdds hY1 (i := j) (by omega)) ?_
  obtain ⟨f2, hY2⟩ := hY1.set_od (O1 := pu_eo O j 128)
  generalize w1.set 38 (am_ar 1024 (pu_eo O j 128)) = w2 at f2 hY2 ⊢
  refine wp_aload_n (q := 55) d_Y_cut_54 rfl rfl rfl ?_
  refine wp_dup (q := 56) d_Y_cut_55 rfl rfl ?_
  refine wp_get (q := 59) (k := 1) d_Y_cut_56 rfl ok_Y (Nat.le_of_ble_eq_true rfl) fk_Y_67 hY2.1 rfl ?_
  refine wp_iconst (q := 60) (v := 1) d_Y_cut_59 rfl (by decide) ?_
  refine wp_isub (q := 61) d_Y_cut_60 rfl ?_
  rw [pu_1, pk_sub hk1]
  refine wp_put (q := 64) (k := 1) d_Y_cut_61 rfl ok_Y (Nat.le_of_ble_eq_true rfl) fk_Y_67 rfl am_fit_i hY2.1 (Nat.le_of_ble_eq_true rfl) rfl ?_
  obtain ⟨f3, hY3⟩ := hY2.set_ob (n1 := n) (k1 := k - 1) (ik1 := ik) (kn1 := kn) (ic1 := ic) (fz1 := fz) (sm1 := sm)
  show am_Wp _ _ _ _ _ _ _ _ (w2.set 35 (yob n (k - 1) ik kn ic fz sm)) _
  generalize w2.set 35 (yob n (k - 1) ik kn ic fz sm) = w3 at f3 hY3 ⊢
  refine wp_aload_n (q := 65) d_Y_cut_64 rfl rfl rfl ?_
  refine wp_iconst (q := 66) (v := 0) d_Y_cut_65 rfl (by decide) ?_
  refine wp_put (q := 69) (k := 8) d_Y_cut_66 rfl ok_Y (Nat.le_of_ble_eq_true rfl) fk_Y_74 rfl (am_fit_b (b := false)) hY3.1 (Nat.le_of_ble_eq_true rfl) rfl ?_
  obtain ⟨f4, hY4⟩ := hY3.set_ob (n1 := n) (k1 := k - 1) (ik1 := ik) (kn1 := kn) (ic1 := false) (fz1 := fz) (sm1 := sm)
  show am_Wp _ _ _ _ _ _ _ _ (w3.set 35 (yob n (k - 1) ik kn false fz sm)) _
  generalize w3.set 35 (yob n (k - 1) ik kn false fz sm) = w4 at f4 hY4 ⊢
  refine wp_aload_n (q := 70) d_Y_cut_69 rfl rfl rfl ?_
  refine wp_get (q := 73) (k := 1) d_Y_cut_70 rfl ok_Y (Nat.le_of_ble_eq_true rfl) fk_Y_67 hY4.1 rfl ?_
  exact wp_ireturn rfl d_Y_cut_73 ⟨rfl, f1.tr (f2.tr (f3.tr f4)), hY4⟩
set_option maxHeartbeats 4000000 in
set_option maxRecDepth 100000 in
theorem y_odds_bad {n k : Nat} {P : Nat → Nat} {H : Nat → Int32} {O : Nat → Nat} {ik : Bool} {kn : Nat} {KP : Nat → Nat} {ic : Bool} {fz sm : Nat} {w : am_W} (hY : YI n k P H O ik kn KP ic fz sm w) (hW : YW n k P H O kn KP) {x y z : Int32} (hb : ¬ (RO n P x y ∧ ∃ e, e ≤ 8 ∧ z = nI e)) : am_Wp none m_Y_odds 2 0 0 0 [(0, .ref 35), (1, .int x), (2, .int y), (3, .int z)] [] w (am_R (some (.int (-2))) w) := by
  obtain ⟨hn, hk, hP, hO, hkn, hKP, hpop⟩ := id hW
  refine wp_aload_n (q := 1) d_Y_odds_0 rfl rfl rfl ?_
  refine wp_iload_n (q := 2) d_Y_odds_1 rfl rfl rfl ?_
  refine wp_iload_n (q := 3) d_Y_odds_2 rfl rfl rfl ?_
  refine wp_cV2r (q := 6) d_Y_odds_3 rfl bd_Y_isRow lk_Y_100 im_Y_isRow se_Y_isRow rfl (Nat.le_of_ble_eq_true rfl) (Nat.le_of_ble_eq_true rfl) hY.1 (Nat.le_of_ble_eq_true rfl) (y_isRow hY hn hP) ?_
  refine wp_if_eq (q := 9) (tgt := 19) d_Y_odds_6 (by decide) rfl (fun c6 => ?_) (fun c6 => ?_)
  · refine wp_bipush (q := 21) (v := -2) d_Y_odds_19 rfl (by decide) ?_
    exact wp_ireturn rfl d_Y_odds_21 ⟨rfl, rfl⟩
  · refine wp_iload_n (q := 10) d_Y_odds_9 rfl rfl rfl ?_
    refine wp_if_lt (q := 13) (tgt := 19) d_Y_odds_10 (by decide) rfl (fun c10 => ?_) (fun c10 => ?_)
    · refine wp_bipush (q := 21) (v := -2) d_Y_odds_19 rfl (by decide) ?_
      exact wp_ireturn rfl d_Y_odds_21 ⟨rfl, rfl⟩
    · refine wp_iload_n (q := 14) d_Y_odds_13 rfl rfl rfl ?_
      refine wp_bipush (q := 16) (v := 8) d_Y_odds_14 rfl (by decide) ?_
      refine wp_icmp_le (q := 19) (tgt := 22) d_Y_odds_16 (by decide) rfl (fun c16 => absurd c16 (fun c16 => hb ⟨pu_q1 c6, by rcases pk_ix z (n := 9) (by decide) with h | h | ⟨e, he, rfl⟩; exact absurd h c10; exact absurd (Int32.lt_of_lt_of_le (show (8 : Int32) < nI 9 by decide) h) (Int32.not_lt.mpr c16); exact ⟨e, by omega, rfl⟩⟩)) (fun _ => ?_)
      refine wp_bipush (q := 21) (v := -2) d_Y_odds_19 rfl (by decide) ?_
      exact wp_ireturn rfl d_Y_odds_21 ⟨rfl, rfl⟩
set_option maxHeartbeats 4000000 in
set_option maxRecDepth 100000 in
theorem y_odds {n k : Nat} {P : Nat → Nat} {H : Nat → Int32} {O : Nat → Nat} {ik : Bool} {kn : Nat} {KP : Nat → Nat} {ic : Bool} {fz sm : Nat} {w : am_W} (hY : YI n k P H O ik kn KP ic fz sm w) (hW : YW n k P H O kn KP) {i j : Nat} (hi : i < n) (hj : j < 2 ^ pu_pop 8 (P i)) {e : Nat} (he : e ≤ 8) : am_Wp none m_Y_odds 2 0 0 0 [(0, .ref 35), (1, .int (nI i)), (2, .int (nI j)), (3, .int (nI e))] [] w (fun v w1 => v = some (.int (nI (O (128 * i + j)))) ∧ YF DY w w1 ∧ YI n k P H (pu_set O (128 * i + j) e) ik kn KP ic fz sm w1) := by
  obtain ⟨hn, hk, hP, hO, hkn, hKP, hpop⟩ := id hW
  have hp8 := hpop i hi
  have hp7 : 2 ^ pu_pop 8 (P i) ≤ 2 ^ 7 := Nat.pow_le_pow_right (by decide) hp8
  refine wp_aload_n (q := 1) d_Y_odds_0 rfl rfl rfl ?_
  refine wp_iload_n (q := 2) d_Y_odds_1 rfl rfl rfl ?_
  refine wp_iload_n (q := 3) d_Y_odds_2 rfl rfl rfl ?_
  refine wp_cV2r (q := 6) d_Y_odds_3 rfl bd_Y_isRow lk_Y_100 im_Y_isRow se_Y_isRow rfl (Nat.le_of_ble_eq_true rfl) (Nat.le_of_ble_eq_true rfl) hY.1 (Nat.le_of_ble_eq_true rfl) (y_isRow hY hn hP) ?_
  refine wp_if_eq (q := 9) (tgt := 19) d_Y_odds_6 (by decide) rfl (fun c6 => absurd c6 (by rw [pu_q_t ⟨i, j, hi, hj, rfl, rfl⟩]; decide)) (fun _ => ?_)
  refine wp_iload_n (q := 10) d_Y_odds_9 rfl rfl rfl ?_
  refine wp_if_lt (q := 13) (tgt := 19) d_Y_odds_10 (by decide) rfl (fun c10 => absurd c10 (nI_pos (by omega))) (fun _ => ?_)
  refine wp_iload_n (q := 14) d_Y_odds_13 rfl rfl rfl ?_
  refine wp_bipush (q := 16) (v := 8) d_Y_odds_14 rfl (by decide) ?_
  refine wp_icmp_le (q := 19) (tgt := 22) d_Y_odds_16 (by decide) rfl (fun _ => ?_) (fun c16 => absurd (by rw [show (8 : Int32) = nI 8 from rfl]; exact nI_le he (by decide)) c16)
  refine wp_aload_n (q := 23) d_Y_odds_22 rfl rfl rfl ?_
  refine wp_get (q := 26) (k := 4) d_Y_odds_23 rfl ok_Y (Nat.le_of_ble_eq_true rfl) fk_Y_16 hY.1 rfl ?_
  refine wp_sipush (q := 29) (v := 128) d_Y_odds_26 rfl (by decide) ?_
  refine wp_iload_n (q := 30) d_Y_odds_29 rfl rfl rfl ?_
  refine wp_imul (q := 31) d_Y_odds_30 rfl ?_
  rw [show (128 : Int32) = nI 128 from rfl, pk_mul]
  refine wp_iload_n (q := 32) d_Y_odds_31 rfl rfl rfl ?_
  refine wp_iadd (q := 33) d_Y_odds_32 rfl ?_
  rw [nI_add]
  refine wp_ialoadN (q := 34) d_Y_odds_33 rfl hY.2.2.2.1 rfl (by omega) (by decide) ?_
  refine wp_istore (q := 36) d_Y_odds_34 rfl (Nat.le_of_ble_eq_true rfl) rfl ?_
  refine wp_aload_n (q := 37) d_Y_odds_36 rfl rfl rfl ?_
  refine wp_get (q := 40) (k := 4) d_Y_odds_37 rfl ok_Y (Nat.le_of_ble_eq_true rfl) fk_Y_16 hY.1 rfl ?_
  refine wp_sipush (q := 43) (v := 128) d_Y_odds_40 rfl (by decide) ?_
  refine wp_iload_n (q := 44) d_Y_odds_43 rfl rfl rfl ?_
  refine wp_imul (q := 45) d_Y_odds_44 rfl ?_
  rw [show (128 : Int32) = nI 128 from rfl, pk_mul]
  refine wp_iload_n (q := 46) d_Y_odds_45 rfl rfl rfl ?_
  refine wp_iadd (q := 47) d_Y_odds_46 rfl ?_
  rw [nI_add]
  refine wp_iload_n (q := 48) d_Y_odds_47 rfl rfl rfl ?_
  refine wp_iastoreN (w' := w.set 38 (am_ar 1024 (pu_set O (128 * i + j) e))) (q := 49) d_Y_odds_48 rfl hY.2.2.2.1 rfl (by omega) (by decide) (by rw [pu_upd]) ?_
  obtain ⟨f1, hY1⟩ := hY.set_od (O1 := pu_set O (128 * i + j) e)
  refine wp_iload (q := 51) d_Y_odds_49 rfl rfl ?_
  exact wp_ireturn rfl d_Y_odds_51 ⟨rfl, f1, hY1⟩
set_option maxHeartbeats 4000000 in
set_option maxRecDepth 100000 in
theorem y_told_bad {n k : Nat} {P : Nat → Nat} {H : Nat → Int32} {O : Nat → Nat} {ik : Bool} {kn : Nat} {KP : Nat → Nat} {ic : Bool} {fz sm : Nat} {w : am_W} (hY : YI n k P H O ik kn KP ic fz sm w) (hW : YW n k P H O kn KP) {x y : Int32} (hb : ¬ RO n P x y) : am_Wp none m_Y_told 2 0 0 0 [(0, .ref 35), (1, .int x), (2, .int y)] [] w (am_R (some (.int (-2))) w) := by
  obtain ⟨hn, hk, hP, hO, hkn, hKP, hpop⟩ := id hW
  refine wp_aload_n (q := 1) d_Y_told_0 rfl rfl rfl ?_
  refine wp_iload_n (q := 2) d_Y_told_1 rfl rfl rfl ?_
  refine wp_iload_n (q := 3) d_Y_told_2 rfl rfl rfl ?_
  refine wp_cV2r (q := 6) d_Y_told_3 rfl bd_Y_isRow lk_Y_100 im_Y_isRow se_Y_isRow rfl (Nat.le_of_ble_eq_true rfl) (Nat.le_of_ble_eq_true rfl) hY.1 (Nat.le_of_ble_eq_true rfl) (y_isRow hY hn hP) ?_
  refine wp_if_eq (q := 9) (tgt := 24) d_Y_told_6 (by decide) rfl (fun _ => ?_) (fun c6 => absurd (pu_q_f hb) c6)
  refine wp_bipush (q := 26) (v := -2) d_Y_told_24 rfl (by decide) ?_
  exact wp_ireturn rfl d_Y_told_26 ⟨rfl, rfl⟩
set_option maxHeartbeats 4000000 in
set_option maxRecDepth 100000 in
theorem y_told {n k : Nat} {P : Nat → Nat} {H : Nat → Int32} {O : Nat → Nat} {ik : Bool} {kn : Nat} {KP : Nat → Nat} {ic : Bool} {fz sm : Nat} {w : am_W} (hY : YI n k P H O ik kn KP ic fz sm w) (hW : YW n k P H O kn KP) {i j : Nat} (hi : i < n) (hj : j < 2 ^ pu_pop 8 (P i)) : am_Wp none m_Y_told 2 0 0 0 [(0, .ref 35), (1, .int (nI i)), (2, .int (nI j))] [] w (am_R (some (.int (nI (O (128 * i + j))))) w) := by
  obtain ⟨hn, hk, hP, hO, hkn, hKP, hpop⟩ := id hW
  have hp8 := hpop i hi
  have hp7 : 2 ^ pu_pop 8 (P i) ≤ 2 ^ 7 := Nat.pow_le_pow_right (by decide) hp8
  refine wp_aload_n (q := 1) d_Y_told_0 rfl rfl rfl ?_
  refine wp_iload_n (q := 2) d_Y_told_1 rfl rfl rfl ?_
  refine wp_iload_n (q := 3) d_Y_told_2 rfl rfl rfl ?_
  refine wp_cV2r (q := 6) d_Y_told_3 rfl bd_Y_isRow lk_Y_100 im_Y_isRow se_Y_isRow rfl (Nat.le_of_ble_eq_true rfl) (Nat.le_of_ble_eq_true rfl) hY.1 (Nat.le_of_ble_eq_true rfl) (y_isRow hY hn hP) ?_
  refine wp_if_eq (q := 9) (tgt := 24) d_Y_told_6 (by decide) rfl (fun c6 => absurd c6 (by rw [pu_q_t ⟨i, j, hi, hj, rfl, rfl⟩]; decide)) (fun _ => ?_)
  refine wp_aload_n (q := 10) d_Y_told_9 rfl rfl rfl ?_
  refine wp_get (q := 13) (k := 4) d_Y_told_10 rfl ok_Y (Nat.le_of_ble_eq_true rfl) fk_Y_16 hY.1 rfl ?_
  refine wp_sipush (q := 16) (v := 128) d_Y_told_13 rfl (by decide) ?_
  refine wp_iload_n (q := 17) d_Y_told_16 rfl rfl rfl ?_
  refine wp_imul (q := 18) d_Y_told_17 rfl ?_
  rw [show (128 : Int32) = nI 128 from rfl, pk_mul]
  refine wp_iload_n (q := 19) d_Y_told_18 rfl rfl rfl ?_
  refine wp_iadd (q := 20) d_Y_told_19 rfl ?_
  rw [nI_add]
  refine wp_ialoadN (q := 21) d_Y_told_20 rfl hY.2.2.2.1 rfl (by omega) (by decide) ?_
  refine wp_goto (tgt := 26) d_Y_told_21 (by decide) ?_
  exact wp_ireturn rfl d_Y_told_26 ⟨rfl, rfl⟩
set_option maxHeartbeats 4000000 in
set_option maxRecDepth 100000 in
theorem y_hold_bad {n k : Nat} {P : Nat → Nat} {H : Nat → Int32} {O : Nat → Nat} {ik : Bool} {kn : Nat} {KP : Nat → Nat} {ic : Bool} {fz sm : Nat} {w : am_W} (hY : YI n k P H O ik kn KP ic fz sm w) (hW : YW n k P H O kn KP) {x z : Int32} (hb : ¬ (PL n x ∧ (z = -1 ∨ z = 0 ∨ z = 1))) : am_Wp none m_Y_hold 1 0 0 0 [(0, .ref 35), (1, .int x), (2, .int z)] [] w (am_R (some (.int (-2))) w) := by
  obtain ⟨hn, hk, hP, hO, hkn, hKP, hpop⟩ := id hW
  refine wp_aload_n (q := 1) d_Y_hold_0 rfl rfl rfl ?_
  refine wp_iload_n (q := 2) d_Y_hold_1 rfl rfl rfl ?_
  refine wp_cV1r (q := 5) d_Y_hold_2 rfl bd_Y_isPlace lk_Y_77 im_Y_isPlace se_Y_isPlace rfl (Nat.le_of_ble_eq_true rfl) (Nat.le_of_ble_eq_true rfl) hY.1 (Nat.le_of_ble_eq_true rfl) (y_isPlace hY hn) ?_
  refine wp_if_eq (q := 8) (tgt := 18) d_Y_hold_5 (by decide) rfl (fun c5 => ?_) (fun c5 => ?_)
  · refine wp_bipush (q := 20) (v := -2) d_Y_hold_18 rfl (by decide) ?_
    exact wp_ireturn rfl d_Y_hold_20 ⟨rfl, rfl⟩
  · refine wp_iload_n (q := 9) d_Y_hold_8 rfl rfl rfl ?_
    refine wp_iconst (q := 10) (v := -1) d_Y_hold_9 rfl (by decide) ?_
    refine wp_icmp_lt (q := 13) (tgt := 18) d_Y_hold_10 (by decide) rfl (fun c10 => ?_) (fun c10 => ?_)
    · refine wp_bipush (q := 20) (v := -2) d_Y_hold_18 rfl (by decide) ?_
      exact wp_ireturn rfl d_Y_hold_20 ⟨rfl, rfl⟩
    · refine wp_iload_n (q := 14) d_Y_hold_13 rfl rfl rfl ?_
      refine wp_iconst (q := 15) (v := 1) d_Y_hold_14 rfl (by decide) ?_
      refine wp_icmp_le (q := 18) (tgt := 21) d_Y_hold_15 (by decide) rfl (fun c15 => absurd c15 (fun c15 => hb ⟨pu_q1 c5, pu_hz c10 c15⟩)) (fun _ => ?_)
      refine wp_bipush (q := 20) (v := -2) d_Y_hold_18 rfl (by decide) ?_
      exact wp_ireturn rfl d_Y_hold_20 ⟨rfl, rfl⟩
set_option maxHeartbeats 4000000 in
set_option maxRecDepth 100000 in
theorem y_hold {n k : Nat} {P : Nat → Nat} {H : Nat → Int32} {O : Nat → Nat} {ik : Bool} {kn : Nat} {KP : Nat → Nat} {ic : Bool} {fz sm : Nat} {w : am_W} (hY : YI n k P H O ik kn KP ic fz sm w) (hW : YW n k P H O kn KP) {i : Nat} (hi : i < n) {z : Int32} (hz : z = -1 ∨ z = 0 ∨ z = 1) : am_Wp none m_Y_hold 1 0 0 0 [(0, .ref 35), (1, .int (nI i)), (2, .int z)] [] w (fun v w1 => v = some (.int (H i)) ∧ YF DY w w1 ∧ YI n k P (upd H i z) O ik kn KP ic fz sm w1) := by
  obtain ⟨hn, hk, hP, hO, hkn, hKP, hpop⟩ := id hW
  refine wp_aload_n (q := 1) d_Y_hold_0 rfl rfl rfl ?_
  refine wp_iload_n (q := 2) d_Y_hold_1 rfl rfl rfl ?_
  refine wp_cV1r (q := 5) d_Y_hold_2 rfl bd_Y_isPlace lk_Y_77 im_Y_isPlace se_Y_isPlace rfl (Nat.le_of_ble_eq_true rfl) (Nat.le_of_ble_eq_true rfl) hY.1 (Nat.le_of_ble_eq_true rfl) (y_isPlace hY hn) ?_
  refine wp_if_eq (q := 8) (tgt := 18) d_Y_hold_5 (by decide) rfl (fun c5 => absurd c5 (by rw [pu_q_t ⟨i, hi, rfl⟩]; decide)) (fun _ => ?_)
  refine wp_iload_n (q := 9) d_Y_hold_8 rfl rfl rfl ?_
  refine wp_iconst (q := 10) (v := -1) d_Y_hold_9 rfl (by decide) ?_
  refine wp_icmp_lt (q := 13) (tgt := 18) d_Y_hold_10 (by decide) rfl (fun c10 => absurd c10 (by rcases hz with rfl | rfl | rfl <;> decide)) (fun _ => ?_)
  refine wp_iload_n (q := 14) d_Y_hold_13 rfl rfl rfl ?_
  refine wp_iconst (q := 15) (v := 1) d_Y_hold_14 rfl (by decide) ?_
  refine wp_icmp_le (q := 18) (tgt := 21) d_Y_hold_15 (by decide) rfl (fun _ => ?_) (fun c15 => absurd (by rcases hz with rfl | rfl | rfl <;> decide) c15)
  refine wp_aload_n (q := 22) d_Y_hold_21 rfl rfl rfl ?_
  refine wp_get (q := 25) (k := 3) d_Y_hold_22 rfl ok_Y (Nat.le_of_ble_eq_true rfl) fk_Y_13 hY.1 rfl ?_
  refine wp_iload_n (q := 26) d_Y_hold_25 rfl rfl rfl ?_
  refine wp_ialoadN (q := 27) d_Y_hold_26 rfl hY.2.2.1 rfl (by omega) (by decide) ?_
  refine wp_istore_n (q := 28) d_Y_hold_27 rfl rfl (Nat.le_of_ble_eq_true rfl) rfl ?_
  refine wp_aload_n (q := 29) d_Y_hold_28 rfl rfl rfl ?_
  refine wp_get (q := 32) (k := 3) d_Y_hold_29 rfl ok_Y (Nat.le_of_ble_eq_true rfl) fk_Y_13 hY.1 rfl ?_
  refine wp_iload_n (q := 33) d_Y_hold_32 rfl rfl rfl ?_
  refine wp_iload_n (q := 34) d_Y_hold_33 rfl rfl rfl ?_
  refine wp_iastoreN (w' := w.set 37 (.inl (0, 8, .inl (upd H i z)))) (q := 35) d_Y_hold_34 rfl hY.2.2.1 rfl (by omega) (by decide) rfl ?_
  obtain ⟨f1, hY1⟩ := hY.set_h (H1 := upd H i z)
  refine wp_iload_n (q := 36) d_Y_hold_35 rfl rfl rfl ?_
  exact wp_ireturn rfl d_Y_hold_36 ⟨rfl, f1, hY1⟩
