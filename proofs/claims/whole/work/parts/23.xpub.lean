/-! CONTRACTS of explore and of X's public methods (1) -/
set_option maxHeartbeats 4000000 in
set_option maxRecDepth 100000 in
theorem c_K_direct0 {L : List (Nat × Nat)} {n k : Nat} {P C : Nat → Nat} {s : pu_S} {w : am_W} (hP : ∀ i, P i < 256) (hl : L.length ≤ 10) (hq : ∀ (i : Nat) (q : Nat × Nat), L[i]? = some q → q.1 < 8 ∧ q.2 < 8) (hs : pu_ok s) (hK : KK L n k P C s w) : am_Wp none m_K_direct 24 0 0 0 [(0, .ref 20), (1, .int 0), (2, .int 0)] [] w (fun v w1 => v = none ∧ am_fr [20, 26] w w1 ∧ KK L n k P C (pu_dr P C L L.length 0 s) w1) := by
  have h9 := c_K_direct hP hl hq L.length 0 s (Nat.le_refl _) hK hs
  rw [Nat.sub_self] at h9
  exact wp_deep (show 2 * L.length + 4 ≤ 24 by omega) h9
set_option maxHeartbeats 4000000 in
set_option maxRecDepth 100000 in
theorem c_K_explore {n k : Nat} {P C : Nat → Nat} {kn kk : Nat} {KP KC : Nat → Nat} {ak : Bool} {E : Nat → Nat → Nat} {hd hv : Nat} {w : am_W} (hX : XI n k P C kn kk KP KC ak E hd hv w) (hW : XW n k P C kn kk KP KC E hd hv) : am_Wp none m_K_explore 26 0 0 0 [(0, .ref 20), (1, .ref 1)] [] w (fun v w1 => v = none ∧ am_fr [20, 21, 22, 23, 24, 25, 26] w w1 ∧ KK (pu_al C n n) n k P C (pu_kin P C n) w1) := by
  obtain ⟨hn, hk, hP, hC, hkn, hKP, hKC, hE, hh1, hh2, hrow, hpop, hlen⟩ := id hW
  have hl : (pu_al C n n).length ≤ 10 := by omega
  obtain ⟨gn, gk, gP, gC, hG⟩ := hX.2.2.2.2.2.1.g
  obtain ⟨⟨x1, x2, x3, e0⟩, -, -, -, ⟨f4, e4⟩, ⟨f5, e5⟩, f6, e6⟩ := hX.2.2.2.2.2.1
  refine wp_aload_n (q := 1) d_K_explore_0 rfl rfl rfl ?_
  refine wp_get (q := 4) (k := 0) d_K_explore_1 rfl ok_K (Nat.le_of_ble_eq_true rfl) fk_K_12 e0 rfl ?_
  refine wp_aload_n (q := 5) d_K_explore_4 rfl rfl rfl ?_
  refine wp_cVN1g (q := 8) (bc1 := 0) (bs1 := 0) d_K_explore_5 rfl bd_G_copy lk_K_38 im_G_copy se_G_copy rfl (Nat.le_of_ble_eq_true rfl) (Nat.le_of_ble_eq_true rfl) hG.1 (Nat.le_of_ble_eq_true rfl) (c_G_copy hG hX.2.1 (by decide) (by decide) (by decide) (by decide) (by decide) (by decide)) (fun v w1 hF => ?_)
  obtain ⟨rfl, f1, hG1⟩ := hF
  have g0 := f1.at (by decide) e0
  have g4 := f1.at (by decide) e4
  have g5 := f1.at (by decide) e5
  have g6 := f1.at (by decide) e6
  refine wp_aload_n (q := 9) d_K_explore_8 rfl rfl rfl ?_
  refine wp_cV0g (q := 12) (bc1 := 0) (bs1 := 0) d_K_explore_9 rfl bd_K_listArcs lk_K_42 im_K_listArcs se_K_listArcs rfl (Nat.le_of_ble_eq_true rfl) (Nat.le_of_ble_eq_true rfl) g0 (Nat.le_of_ble_eq_true rfl) (c_K_list hG1 hn hC hl g0 g4 g5) (fun v w2 hF => ?_)
  obtain ⟨rfl, f2, k0, kL⟩ := hF
  have g6 := f2.at (by decide) g6
  have hG2 := hG1.at f2 (by decide) (by decide) (by decide)
  refine wp_aload_n (q := 13) d_K_explore_12 rfl rfl rfl ?_
  refine wp_get (q := 16) (k := 4) d_K_explore_13 rfl ok_K (Nat.le_of_ble_eq_true rfl) fk_K_29 k0 rfl ?_
  refine wp_iconst (q := 17) (v := 0) d_K_explore_16 rfl (by decide) ?_
  refine wp_cS2v (q := 20) d_K_explore_17 rfl bd_A_fillI lk_K_45 sm_A_fillI (Nat.le_of_ble_eq_true rfl) (Nat.le_of_ble_eq_true rfl) (Nat.le_of_ble_eq_true rfl) (c_fill g6 (by decide)) ?_
  refine wp_aload_n (q := 21) d_K_explore_20 rfl rfl rfl ?_
  refine wp_iconst (q := 22) (v := 0) d_K_explore_21 rfl (by decide) ?_
  refine wp_put (q := 25) (k := 5) d_K_explore_22 rfl ok_K (Nat.le_of_ble_eq_true rfl) fk_K_32 rfl am_fit_i (am_at_ne (by decide) k0) (Nat.le_of_ble_eq_true rfl) rfl ?_
  refine wp_aload_n (q := 26) d_K_explore_25 rfl rfl rfl ?_
  refine wp_iconst (q := 27) (v := 0) d_K_explore_26 rfl (by decide) ?_
  refine wp_put (q := 30) (k := 6) d_K_explore_27 rfl ok_K (Nat.le_of_ble_eq_true rfl) fk_K_35 rfl am_fit_i (am_at_eq (am_at_ne (by decide) k0)) (Nat.le_of_ble_eq_true rfl) rfl ?_
  refine wp_aload_n (q := 31) d_K_explore_30 rfl rfl rfl ?_
  refine wp_iconst (q := 32) (v := 0) d_K_explore_31 rfl (by decide) ?_
  refine wp_iconst (q := 33) (v := 0) d_K_explore_32 rfl (by decide) ?_
  refine wp_cV2g (q := 36) (bc1 := 0) (bs1 := 0) (d1 := 24) d_K_explore_33 rfl bd_K_direct lk_K_51 im_K_direct se_K_direct rfl (Nat.le_of_ble_eq_true rfl) (Nat.le_of_ble_eq_true rfl) (am_at_eq (am_at_eq (am_at_ne (by decide) k0))) (Nat.le_of_ble_eq_true rfl) (c_K_direct0 (s := (fun _ => 0, 0, 0)) hP hl (pu_al_q hn) (fun _ => (by decide : (0 : Nat) < 256)) ⟨am_at_eq (am_at_eq (am_at_ne (a := 26) (by decide) k0)), ((kL.at (am_fr.rf.put (D := [26]) (by simp)) (by decide) (by decide)).at (am_fr.rf.put (D := [20]) (by simp)) (by decide) (by decide)).at (am_fr.rf.put (D := [20]) (by simp)) (by decide) (by decide), ((hG2.at (am_fr.rf.put (D := [26]) (by simp)) (by decide) (by decide) (by decide)).at (am_fr.rf.put (D := [20]) (by simp)) (by decide) (by decide) (by decide)).at (am_fr.rf.put (D := [20]) (by simp)) (by decide) (by decide) (by decide), am_at_ne (by decide) (am_at_ne (by decide) (am_at_eq g6))⟩) (fun v w3 hF => ?_)
  obtain ⟨rfl, f5, hKK⟩ := hF
  exact wp_return rfl d_K_explore_36 ⟨rfl, (f1.up (by decide)).tr ((f2.up (by decide)).tr ((((am_fr.rf.put (a := 26) (by simp)).put (a := 20) (by simp)).put (a := 20) (by simp)).tr (f5.up (by decide)))), hKK⟩
set_option maxHeartbeats 4000000 in
set_option maxRecDepth 100000 in
theorem c_X_clear {n k : Nat} {P C : Nat → Nat} {kn kk : Nat} {KP KC : Nat → Nat} {ak : Bool} {E : Nat → Nat → Nat} {hd hv : Nat} {w : am_W} (hX : XI n k P C kn kk KP KC ak E hd hv w) (hW : XW n k P C kn kk KP KC E hd hv) : am_Wp none m_X_clear 2 0 0 0 [(0, .ref 0)] [] w (fun v w1 => v = some (.int (nI n)) ∧ am_fr DX w w1 ∧ XI 0 0 (fun _ => 0) (fun _ => 0) kn kk KP KC false E 0 0 w1) := by
  obtain ⟨hn, hk, hP, hC, hkn, hKP, hKC, hE, hh1, hh2, hrow, hpop, hlen⟩ := id hW
  refine wp_aload_n (q := 1) d_X_clear_0 rfl rfl rfl ?_
  refine wp_get (q := 4) (k := 0) d_X_clear_1 rfl ok_X (Nat.le_of_ble_eq_true rfl) fk_X_12 hX.1 rfl ?_
  refine wp_getN (q := 7) (k := 0) d_X_clear_4 rfl ok_G (Nat.le_of_ble_eq_true rfl) fk_X_60 hX.2.1.1 rfl ?_
  refine wp_istore_n (q := 8) d_X_clear_7 rfl rfl (Nat.le_of_ble_eq_true rfl) rfl ?_
  refine wp_aload_n (q := 9) d_X_clear_8 rfl rfl rfl ?_
  refine wp_get (q := 12) (k := 0) d_X_clear_9 rfl ok_X (Nat.le_of_ble_eq_true rfl) fk_X_12 hX.1 rfl ?_
  refine wp_cVN0g (q := 15) (bc1 := 0) (bs1 := 0) d_X_clear_12 rfl bd_G_empty lk_X_64 im_G_empty se_G_empty rfl (Nat.le_of_ble_eq_true rfl) (Nat.le_of_ble_eq_true rfl) hX.2.1.1 (Nat.le_of_ble_eq_true rfl) (c_G_empty hX.2.1 (by decide) (by decide) (by decide)) (fun v w1 hF => ?_)
  obtain ⟨rfl, f1, hG1⟩ := hF
  have hX1 := hX.g f1 hG1
  refine wp_aload_n (q := 16) d_X_clear_15 rfl rfl rfl ?_
  refine wp_get (q := 19) (k := 3) d_X_clear_16 rfl ok_X (Nat.le_of_ble_eq_true rfl) fk_X_26 hX1.1 rfl ?_
  refine wp_cVN0v (q := 22) d_X_clear_19 rfl bd_T_releaseAll lk_X_67 im_T_releaseAll se_T_releaseAll rfl (Nat.le_of_ble_eq_true rfl) (Nat.le_of_ble_eq_true rfl) hX1.2.2.2.1.1 (Nat.le_of_ble_eq_true rfl) (c_T_releaseAll hX1.2.2.2.1) ?_
  have f2 : am_fr [7, 9, 10, 11, 12, 13, 14, 15, 16] w1 (w1.set 7 (.inr (4, [.ref 8, .int (nI 0), .int (nI 0)]))) := am_fr.rf.put (by simp)
  have hX2 := hX1.t f2 (h1 := 0) (h2 := 0) (E1 := E) ⟨am_at_eq hX1.2.2.2.1.1, am_at_ne (by decide) hX1.2.2.2.1.2.1, fun i hi => am_at_ne (by omega) (hX1.2.2.2.1.2.2 i hi)⟩
  have f3 := (f1.x (by decide)).tr (f2.x (by decide))
  generalize (w1.set 7 (.inr (4, [.ref 8, .int (nI 0), .int (nI 0)]))) = w2 at hX2 f3 ⊢
  refine wp_aload_n (q := 23) d_X_clear_22 rfl rfl rfl ?_
  refine wp_iconst (q := 24) (v := 0) d_X_clear_23 rfl (by decide) ?_
  refine wp_put (q := 27) (k := 2) d_X_clear_24 rfl ok_X (Nat.le_of_ble_eq_true rfl) fk_X_19 rfl (am_fit_b (b := false)) hX2.1 (Nat.le_of_ble_eq_true rfl) rfl ?_
  refine wp_iload_n (q := 28) d_X_clear_27 rfl rfl rfl ?_
  exact wp_ireturn rfl d_X_clear_28 ⟨rfl, f3.tr ((am_fr.rf.put (D := [0]) (by simp)).x (by decide)), hX2.o (b := false) (am_fr.rf.put (by simp)) (am_at_eq hX2.1)⟩
set_option maxHeartbeats 4000000 in
set_option maxRecDepth 100000 in
theorem c_X_place_full {n k : Nat} {P C : Nat → Nat} {kn kk : Nat} {KP KC : Nat → Nat} {ak : Bool} {E : Nat → Nat → Nat} {hd hv : Nat} {w : am_W} (hX : XI n k P C kn kk KP KC ak E hd hv w) (hW : XW n k P C kn kk KP KC E hd hv) (h8 : n = 8) : am_Wp none m_X_place 0 0 0 0 [(0, .ref 0)] [] w (am_R (some (.int (-3))) w) := by
  obtain ⟨hn, hk, hP, hC, hkn, hKP, hKC, hE, hh1, hh2, hrow, hpop, hlen⟩ := id hW
  refine wp_aload_n (q := 1) d_X_place_0 rfl rfl rfl ?_
  refine wp_get (q := 4) (k := 0) d_X_place_1 rfl ok_X (Nat.le_of_ble_eq_true rfl) fk_X_12 hX.1 rfl ?_
  refine wp_getN (q := 7) (k := 0) d_X_place_4 rfl ok_G (Nat.le_of_ble_eq_true rfl) fk_X_60 hX.2.1.1 rfl ?_
  refine wp_bipush (q := 9) (v := 8) d_X_place_7 rfl (by decide) ?_
  refine wp_icmp_lt (q := 12) (tgt := 15) d_X_place_9 (by decide) rfl (fun c9 => absurd c9 (by rw [h8]; decide)) (fun _ => ?_)
  refine wp_bipush (q := 14) (v := -3) d_X_place_12 rfl (by decide) ?_
  exact wp_ireturn rfl d_X_place_14 ⟨rfl, rfl⟩
set_option maxHeartbeats 4000000 in
set_option maxRecDepth 100000 in
theorem c_X_place {n k : Nat} {P C : Nat → Nat} {kn kk : Nat} {KP KC : Nat → Nat} {ak : Bool} {E : Nat → Nat → Nat} {hd hv : Nat} {w : am_W} (hX : XI n k P C kn kk KP KC ak E hd hv w) (hW : XW n k P C kn kk KP KC E hd hv) (h8 : n < 8) : am_Wp none m_X_place 2 0 0 0 [(0, .ref 0)] [] w (fun v w1 => v = some (.int (nI n)) ∧ am_fr DX w w1 ∧ XI (n + 1) k P C kn kk KP KC ak (pu_setE E n (fun _ => 4)) hd hv w1) := by
  obtain ⟨hn, hk, hP, hC, hkn, hKP, hKC, hE, hh1, hh2, hrow, hpop, hlen⟩ := id hW
  refine wp_aload_n (q := 1) d_X_place_0 rfl rfl rfl ?_
  refine wp_get (q := 4) (k := 0) d_X_place_1 rfl ok_X (Nat.le_of_ble_eq_true rfl) fk_X_12 hX.1 rfl ?_
  refine wp_getN (q := 7) (k := 0) d_X_place_4 rfl ok_G (Nat.le_of_ble_eq_true rfl) fk_X_60 hX.2.1.1 rfl ?_
  refine wp_bipush (q := 9) (v := 8) d_X_place_7 rfl (by decide) ?_
  refine wp_icmp_lt (q := 12) (tgt := 15) d_X_place_9 (by decide) rfl (fun _ => ?_) (fun c9 => absurd (by rw [show (8 : Int32) = nI 8 from rfl]; exact nI_lt h8 (by decide)) c9)
  refine wp_aload_n (q := 16) d_X_place_15 rfl rfl rfl ?_
  refine wp_get (q := 19) (k := 0) d_X_place_16 rfl ok_X (Nat.le_of_ble_eq_true rfl) fk_X_12 hX.1 rfl ?_
  refine wp_getN (q := 22) (k := 0) d_X_place_19 rfl ok_G (Nat.le_of_ble_eq_true rfl) fk_X_60 hX.2.1.1 rfl ?_
  refine wp_istore_n (q := 23) d_X_place_22 rfl rfl (Nat.le_of_ble_eq_true rfl) rfl ?_
  refine wp_aload_n (q := 24) d_X_place_23 rfl rfl rfl ?_
  refine wp_get (q := 27) (k := 0) d_X_place_24 rfl ok_X (Nat.le_of_ble_eq_true rfl) fk_X_12 hX.1 rfl ?_
  refine wp_iload_n (q := 28) d_X_place_27 rfl rfl rfl ?_
  refine wp_iconst (q := 29) (v := 1) d_X_place_28 rfl (by decide) ?_
  refine wp_iadd (q := 30) d_X_place_29 rfl ?_
  rw [nI_1]
  refine wp_putN (q := 33) (k := 0) d_X_place_30 rfl ok_G (Nat.le_of_ble_eq_true rfl) fk_X_60 rfl am_fit_i hX.2.1.1 (Nat.le_of_ble_eq_true rfl) rfl ?_
  have f1 : am_fr [1, 2, 3] w (w.set 1 (.inr (1, [.int (nI (n + 1)), .int (nI k), .ref 2, .ref 3]))) := am_fr.rf.put (by simp)
  have hX1 := hX.g f1 (n1 := n + 1) (k1 := k) (P1 := P) (C1 := C) ⟨am_at_eq hX.2.1.1, am_at_ne (by decide) hX.2.1.2.1, am_at_ne (by decide) hX.2.1.2.2⟩
  show am_Wp _ _ _ _ _ _ _ _ (w.set 1 (.inr (1, [.int (nI (n + 1)), .int (nI k), .ref 2, .ref 3]))) _
  generalize (w.set 1 (.inr (1, [.int (nI (n + 1)), .int (nI k), .ref 2, .ref 3]))) = w1 at hX1 f1 ⊢
  refine wp_aload_n (q := 34) d_X_place_33 rfl rfl rfl ?_
  refine wp_get (q := 37) (k := 3) d_X_place_34 rfl ok_X (Nat.le_of_ble_eq_true rfl) fk_X_26 hX1.1 rfl ?_
  refine wp_iload_n (q := 38) d_X_place_37 rfl rfl rfl ?_
  refine wp_cVN1v (q := 41) d_X_place_38 rfl bd_T_startRows lk_X_70 im_T_startRows se_T_startRows rfl (Nat.le_of_ble_eq_true rfl) (Nat.le_of_ble_eq_true rfl) hX1.2.2.2.1.1 (Nat.le_of_ble_eq_true rfl) (c_T_startRows hX1.2.2.2.1 h8) ?_
  refine wp_iload_n (q := 42) d_X_place_41 rfl rfl rfl ?_
  exact wp_ireturn rfl d_X_place_42 ⟨rfl, (f1.x (by decide)).tr ((am_frow h8).x (by decide)), hX1.t (am_frow h8) (hX1.2.2.2.1.row h8 _)⟩
set_option maxHeartbeats 4000000 in
set_option maxRecDepth 100000 in
theorem c_X_arc_bad {n k : Nat} {P C : Nat → Nat} {kn kk : Nat} {KP KC : Nat → Nat} {ak : Bool} {E : Nat → Nat → Nat} {hd hv : Nat} {w : am_W} (hX : XI n k P C kn kk KP KC ak E hd hv w) (hW : XW n k P C kn kk KP KC E hd hv) {x y : Int32} (hb : ¬ PR n x y) : am_Wp none m_X_arc 2 0 0 0 [(0, .ref 0), (1, .int x), (2, .int y)] [] w (am_R (some (.int (-2))) w) := by
  obtain ⟨hn, hk, hP, hC, hkn, hKP, hKC, hE, hh1, hh2, hrow, hpop, hlen⟩ := id hW
  refine wp_aload_n (q := 1) d_X_arc_0 rfl rfl rfl ?_
  refine wp_iload_n (q := 2) d_X_arc_1 rfl rfl rfl ?_
  refine wp_iload_n (q := 3) d_X_arc_2 rfl rfl rfl ?_
  refine wp_cV2r (q := 6) d_X_arc_3 rfl bd_X_isPair lk_X_74 im_X_isPair se_X_isPair rfl (Nat.le_of_ble_eq_true rfl) (Nat.le_of_ble_eq_true rfl) hX.1 (Nat.le_of_ble_eq_true rfl) (c_isPair hX hn) ?_
  refine wp_if_ne (q := 9) (tgt := 12) d_X_arc_6 (by decide) rfl (fun c6 => absurd (pu_q_f hb) c6) (fun _ => ?_)
  refine wp_bipush (q := 11) (v := -2) d_X_arc_9 rfl (by decide) ?_
  exact wp_ireturn rfl d_X_arc_11 ⟨rfl, rfl⟩
set_option maxHeartbeats 4000000 in
set_option maxRecDepth 100000 in
theorem c_X_arc_joined {n k : Nat} {P C : Nat → Nat} {kn kk : Nat} {KP KC : Nat → Nat} {ak : Bool} {E : Nat → Nat → Nat} {hd hv : Nat} {w : am_W} (hX : XI n k P C kn kk KP KC ak E hd hv w) (hW : XW n k P C kn kk KP KC E hd hv) {i j : Nat} (hi : i < n) (hj : j < n) (hij : i ≠ j) (h1 : (P i ||| C i).testBit j = true) : am_Wp none m_X_arc 3 0 0 0 [(0, .ref 0), (1, .int (nI i)), (2, .int (nI j))] [] w (am_R (some (.int (-4))) w) := by
  obtain ⟨hn, hk, hP, hC, hkn, hKP, hKC, hE, hh1, hh2, hrow, hpop, hlen⟩ := id hW
  refine wp_aload_n (q := 1) d_X_arc_0 rfl rfl rfl ?_
  refine wp_iload_n (q := 2) d_X_arc_1 rfl rfl rfl ?_
  refine wp_iload_n (q := 3) d_X_arc_2 rfl rfl rfl ?_
  refine wp_cV2r (q := 6) d_X_arc_3 rfl bd_X_isPair lk_X_74 im_X_isPair se_X_isPair rfl (Nat.le_of_ble_eq_true rfl) (Nat.le_of_ble_eq_true rfl) hX.1 (Nat.le_of_ble_eq_true rfl) (c_isPair hX hn) ?_
  refine wp_if_ne (q := 9) (tgt := 12) d_X_arc_6 (by decide) rfl (fun _ => ?_) (fun c6 => absurd c6 (by rw [pu_q_t ⟨i, j, hi, hj, hij, rfl, rfl⟩]; decide))
  refine wp_aload_n (q := 13) d_X_arc_12 rfl rfl rfl ?_
  refine wp_get (q := 16) (k := 0) d_X_arc_13 rfl ok_X (Nat.le_of_ble_eq_true rfl) fk_X_12 hX.1 rfl ?_
  refine wp_iload_n (q := 17) d_X_arc_16 rfl rfl rfl ?_
  refine wp_cVN1r (q := 20) d_X_arc_17 rfl bd_G_neighbours lk_X_78 im_G_neighbours se_G_neighbours rfl (Nat.le_of_ble_eq_true rfl) (Nat.le_of_ble_eq_true rfl) hX.2.1.1 (Nat.le_of_ble_eq_true rfl) (c_G_neighbours hX.2.1 (by omega)) ?_
  refine wp_iload_n (q := 21) d_X_arc_20 rfl rfl rfl ?_
  refine wp_cS2r (q := 24) d_X_arc_21 rfl bd_X_has lk_X_82 sm_X_has (Nat.le_of_ble_eq_true rfl) (Nat.le_of_ble_eq_true rfl) (Nat.le_of_ble_eq_true rfl) (c_has (Nat.lt_trans (pu_or_lt (hP i) (hC i)) (by decide)) (by omega)) ?_
  refine wp_if_eq (q := 27) (tgt := 30) d_X_arc_24 (by decide) rfl (fun c24 => absurd c24 (by rw [h1]; decide)) (fun _ => ?_)
  refine wp_bipush (q := 29) (v := -4) d_X_arc_27 rfl (by decide) ?_
  exact wp_ireturn rfl d_X_arc_29 ⟨rfl, rfl⟩
set_option maxHeartbeats 4000000 in
set_option maxRecDepth 100000 in
theorem c_X_arc_ring {n k : Nat} {P C : Nat → Nat} {kn kk : Nat} {KP KC : Nat → Nat} {ak : Bool} {E : Nat → Nat → Nat} {hd hv : Nat} {w : am_W} (hX : XI n k P C kn kk KP KC ak E hd hv w) (hW : XW n k P C kn kk KP KC E hd hv) {i j : Nat} (hi : i < n) (hj : j < n) (hij : i ≠ j) (h1 : (P i ||| C i).testBit j = false) (h2 : (pu_cl C 8 8 (2 ^ j)).testBit i = true) : am_Wp none m_X_arc 3 0 0 0 [(0, .ref 0), (1, .int (nI i)), (2, .int (nI j))] [] w (am_R (some (.int (-5))) w) := by
  obtain ⟨hn, hk, hP, hC, hkn, hKP, hKC, hE, hh1, hh2, hrow, hpop, hlen⟩ := id hW
  refine wp_aload_n (q := 1) d_X_arc_0 rfl rfl rfl ?_
  refine wp_iload_n (q := 2) d_X_arc_1 rfl rfl rfl ?_
  refine wp_iload_n (q := 3) d_X_arc_2 rfl rfl rfl ?_
  refine wp_cV2r (q := 6) d_X_arc_3 rfl bd_X_isPair lk_X_74 im_X_isPair se_X_isPair rfl (Nat.le_of_ble_eq_true rfl) (Nat.le_of_ble_eq_true rfl) hX.1 (Nat.le_of_ble_eq_true rfl) (c_isPair hX hn) ?_
  refine wp_if_ne (q := 9) (tgt := 12) d_X_arc_6 (by decide) rfl (fun _ => ?_) (fun c6 => absurd c6 (by rw [pu_q_t ⟨i, j, hi, hj, hij, rfl, rfl⟩]; decide))
  refine wp_aload_n (q := 13) d_X_arc_12 rfl rfl rfl ?_
  refine wp_get (q := 16) (k := 0) d_X_arc_13 rfl ok_X (Nat.le_of_ble_eq_true rfl) fk_X_12 hX.1 rfl ?_
  refine wp_iload_n (q := 17) d_X_arc_16 rfl rfl rfl ?_
  refine wp_cVN1r (q := 20) d_X_arc_17 rfl bd_G_neighbours lk_X_78 im_G_neighbours se_G_neighbours rfl (Nat.le_of_ble_eq_true rfl) (Nat.le_of_ble_eq_true rfl) hX.2.1.1 (Nat.le_of_ble_eq_true rfl) (c_G_neighbours hX.2.1 (by omega)) ?_
  refine wp_iload_n (q := 21) d_X_arc_20 rfl rfl rfl ?_
  refine wp_cS2r (q := 24) d_X_arc_21 rfl bd_X_has lk_X_82 sm_X_has (Nat.le_of_ble_eq_true rfl) (Nat.le_of_ble_eq_true rfl) (Nat.le_of_ble_eq_true rfl) (c_has (Nat.lt_trans (pu_or_lt (hP i) (hC i)) (by decide)) (by omega)) ?_
  refine wp_if_eq (q := 27) (tgt := 30) d_X_arc_24 (by decide) rfl (fun _ => ?_) (fun c24 => absurd (by rw [h1]; rfl) c24)
  refine wp_aload_n (q := 31) d_X_arc_30 rfl rfl rfl ?_
  refine wp_get (q := 34) (k := 0) d_X_arc_31 rfl ok_X (Nat.le_of_ble_eq_true rfl) fk_X_12 hX.1 rfl ?_
  refine wp_getN (q := 37) (k := 3) d_X_arc_34 rfl ok_G (Nat.le_of_ble_eq_true rfl) fk_X_85 hX.2.1.1 rfl ?_
  refine wp_iload_n (q := 38) d_X_arc_37 rfl rfl rfl ?_
  refine wp_cS1r (q := 41) d_X_arc_38 rfl bd_X_bit lk_X_89 sm_X_bit (Nat.le_of_ble_eq_true rfl) (Nat.le_of_ble_eq_true rfl) (Nat.le_of_ble_eq_true rfl) (c_bit (by omega)) ?_
  refine wp_cS2r (q := 44) d_X_arc_41 rfl bd_X_closure lk_X_92 sm_X_closure (Nat.le_of_ble_eq_true rfl) (Nat.le_of_ble_eq_true rfl) (Nat.le_of_ble_eq_true rfl) (c_closure hX.2.1.2.2 (by decide) hC (pu_p2 (by omega))) ?_
  refine wp_iload_n (q := 45) d_X_arc_44 rfl rfl rfl ?_
  refine wp_cS2r (q := 48) d_X_arc_45 rfl bd_X_has lk_X_82 sm_X_has (Nat.le_of_ble_eq_true rfl) (Nat.le_of_ble_eq_true rfl) (Nat.le_of_ble_eq_true rfl) (c_has (Nat.lt_trans (pu_cl_lt hC (pu_p2 (by omega))) (by decide)) (by omega)) ?_
  refine wp_if_eq (q := 51) (tgt := 54) d_X_arc_48 (by decide) rfl (fun c48 => absurd c48 (by rw [h2]; decide)) (fun _ => ?_)
  refine wp_bipush (q := 53) (v := -5) d_X_arc_51 rfl (by decide) ?_
  exact wp_ireturn rfl d_X_arc_53 ⟨rfl, rfl⟩
set_option maxHeartbeats 4000000 in
set_option maxRecDepth 100000 in
theorem c_X_arc_full {n k : Nat} {P C : Nat → Nat} {kn kk : Nat} {KP KC : Nat → Nat} {ak : Bool} {E : Nat → Nat → Nat} {hd hv : Nat} {w : am_W} (hX : XI n k P C kn kk KP KC ak E hd hv w) (hW : XW n k P C kn kk KP KC E hd hv) {i j : Nat} (hi : i < n) (hj : j < n) (hij : i ≠ j) (h1 : (P i ||| C i).testBit j = false) (h2 : (pu_cl C 8 8 (2 ^ j)).testBit i = false) (h3 : k = 10) : am_Wp none m_X_arc 3 0 0 0 [(0, .ref 0), (1, .int (nI i)), (2, .int (nI j))] [] w (am_R (some (.int (-3))) w) := by
  obtain ⟨hn, hk, hP, hC, hkn, hKP, hKC, hE, hh1, hh2, hrow, hpop, hlen⟩ := id hW
  refine wp_aload_n (q := 1) d_X_arc_0 rfl rfl rfl ?_
  refine wp_iload_n (q := 2) d_X_arc_1 rfl rfl rfl ?_
  refine wp_iload_n (q := 3) d_X_arc_2 rfl rfl rfl ?_
  refine wp_cV2r (q := 6) d_X_arc_3 rfl bd_X_isPair lk_X_74 im_X_isPair se_X_isPair rfl (Nat.le_of_ble_eq_true rfl) (Nat.le_of_ble_eq_true rfl) hX.1 (Nat.le_of_ble_eq_true rfl) (c_isPair hX hn) ?_
  refine wp_if_ne (q := 9) (tgt := 12) d_X_arc_6 (by decide) rfl (fun _ => ?_) (fun c6 => absurd c6 (by rw [pu_q_t ⟨i, j, hi, hj, hij, rfl, rfl⟩]; decide))
  refine wp_aload_n (q := 13) d_X_arc_12 rfl rfl rfl ?_
  refine wp_get (q := 16) (k := 0) d_X_arc_13 rfl ok_X (Nat.le_of_ble_eq_true rfl) fk_X_12 hX.1 rfl ?_
  refine wp_iload_n (q := 17) d_X_arc_16 rfl rfl rfl ?_
  refine wp_cVN1r (q := 20) d_X_arc_17 rfl bd_G_neighbours lk_X_78 im_G_neighbours se_G_neighbours rfl (Nat.le_of_ble_eq_true rfl) (Nat.le_of_ble_eq_true rfl) hX.2.1.1 (Nat.le_of_ble_eq_true rfl) (c_G_neighbours hX.2.1 (by omega)) ?_
  refine wp_iload_n (q := 21) d_X_arc_20 rfl rfl rfl ?_
  refine wp_cS2r (q := 24) d_X_arc_21 rfl bd_X_has lk_X_82 sm_X_has (Nat.le_of_ble_eq_true rfl) (Nat.le_of_ble_eq_true rfl) (Nat.le_of_ble_eq_true rfl) (c_has (Nat.lt_trans (pu_or_lt (hP i) (hC i)) (by decide)) (by omega)) ?_
  refine wp_if_eq (q := 27) (tgt := 30) d_X_arc_24 (by decide) rfl (fun _ => ?_) (fun c24 => absurd (by rw [h1]; rfl) c24)
  refine wp_aload_n (q := 31) d_X_arc_30 rfl rfl rfl ?_
  refine wp_get (q := 34) (k := 0) d_X_arc_31 rfl ok_X (Nat.le_of_ble_eq_true rfl) fk_X_12 hX.1 rfl ?_
  refine wp_getN (q := 37) (k := 3) d_X_arc_34 rfl ok_G (Nat.le_of_ble_eq_true rfl) fk_X_85 hX.2.1.1 rfl ?_
  refine wp_iload_n (q := 38) d_X_arc_37 rfl rfl rfl ?_
  refine wp_cS1r (q := 41) d_X_arc_38 rfl bd_X_bit lk_X_89 sm_X_bit (Nat.le_of_ble_eq_true rfl) (Nat.le_of_ble_eq_true rfl) (Nat.le_of_ble_eq_true rfl) (c_bit (by omega)) ?_
  refine wp_cS2r (q := 44) d_X_arc_41 rfl bd_X_closure lk_X_92 sm_X_closure (Nat.le_of_ble_eq_true rfl) (Nat.le_of_ble_eq_true rfl) (Nat.le_of_ble_eq_true rfl) (c_closure hX.2.1.2.2 (by decide) hC (pu_p2 (by omega))) ?_
  refine wp_iload_n (q := 45) d_X_arc_44 rfl rfl rfl ?_
  refine wp_cS2r (q := 48) d_X_arc_45 rfl bd_X_has lk_X_82 sm_X_has (Nat.le_of_ble_eq_true rfl) (Nat.le_of_ble_eq_true rfl) (Nat.le_of_ble_eq_true rfl) (c_has (Nat.lt_trans (pu_cl_lt hC (pu_p2 (by omega))) (by decide)) (by omega)) ?_
  refine wp_if_eq (q := 51) (tgt := 54) d_X_arc_48 (by decide) rfl (fun _ => ?_) (fun c48 => absurd (by rw [h2]; rfl) c48)
  refine wp_aload_n (q := 55) d_X_arc_54 rfl rfl rfl ?_
  refine wp_get (q := 58) (k := 0) d_X_arc_55 rfl ok_X (Nat.le_of_ble_eq_true rfl) fk_X_12 hX.1 rfl ?_
  refine wp_getN (q := 61) (k := 1) d_X_arc_58 rfl ok_G (Nat.le_of_ble_eq_true rfl) fk_X_96 hX.2.1.1 rfl ?_
  refine wp_bipush (q := 63) (v := 10) d_X_arc_61 rfl (by decide) ?_
  refine wp_icmp_lt (q := 66) (tgt := 69) d_X_arc_63 (by decide) rfl (fun c63 => absurd c63 (by rw [h3]; decide)) (fun _ => ?_)
  refine wp_bipush (q := 68) (v := -3) d_X_arc_66 rfl (by decide) ?_
  exact wp_ireturn rfl d_X_arc_68 ⟨rfl, rfl⟩
set_option maxHeartbeats 4000000 in
set_option maxRecDepth 100000 in
theorem c_X_arc {n k : Nat} {P C : Nat → Nat} {kn kk : Nat} {KP KC : Nat → Nat} {ak : Bool} {E : Nat → Nat → Nat} {hd hv : Nat} {w : am_W} (hX : XI n k P C kn kk KP KC ak E hd hv w) (hW : XW n k P C kn kk KP KC E hd hv) {i j : Nat} (hi : i < n) (hj : j < n) (hij : i ≠ j) (h1 : (P i ||| C i).testBit j = false) (h2 : (pu_cl C 8 8 (2 ^ j)).testBit i = false) (h3 : k < 10) : am_Wp none m_X_arc 3 0 0 0 [(0, .ref 0), (1, .int (nI i)), (2, .int (nI j))] [] w (fun v w1 => v = some (.int (nI (k + 1))) ∧ am_fr DX w w1 ∧ XI n (k + 1) (pu_set P j (P j ||| 2 ^ i)) (pu_set C i (C i ||| 2 ^ j)) kn kk KP KC ak (pu_setE E j (fun _ => 4)) hd hv w1) := by
  obtain ⟨hn, hk, hP, hC, hkn, hKP, hKC, hE, hh1, hh2, hrow, hpop, hlen⟩ := id hW
  refine wp_aload_n (q := 1) d_X_arc_0 rfl rfl rfl ?_
  refine wp_iload_n (q := 2) d_X_arc_1 rfl rfl rfl ?_
  refine wp_iload_n (q := 3) d_X_arc_2 rfl rfl rfl ?_
  refine wp_cV2r (q := 6) d_X_arc_3 rfl bd_X_isPair lk_X_74 im_X_isPair se_X_isPair rfl (Nat.le_of_ble_eq_true rfl) (Nat.le_of_ble_eq_true rfl) hX.1 (Nat.le_of_ble_eq_true rfl) (c_isPair hX hn) ?_
  refine wp_if_ne (q := 9) (tgt := 12) d_X_arc_6 (by decide) rfl (fun _ => ?_) (fun c6 => absurd c6 (by rw [pu_q_t ⟨i, j, hi, hj, hij, rfl, rfl⟩]; decide))
  refine wp_aload_n (q := 13) d_X_arc_12 rfl rfl rfl ?_
  refine wp_get (q := 16) (k := 0) d_X_arc_13 rfl ok_X (Nat.le_of_ble_eq_true rfl) fk_X_12 hX.1 rfl ?_
  refine wp_iload_n (q := 17) d_X_arc_16 rfl rfl rfl ?_
  refine wp_cVN1r (q := 20) d_X_arc_17 rfl bd_G_neighbours lk_X_78 im_G_neighbours se_G_neighbours rfl (Nat.le_of_ble_eq_true rfl) (Nat.le_of_ble_eq_true rfl) hX.2.1.1 (Nat.le_of_ble_eq_true rfl) (c_G_neighbours hX.2.1 (by omega)) ?_
  refine wp_iload_n (q := 21) d_X_arc_20 rfl rfl rfl ?_
  refine wp_cS2r (q := 24) d_X_arc_21 rfl bd_X_has lk_X_82 sm_X_has (Nat.le_of_ble_eq_true rfl) (Nat.le_of_ble_eq_true rfl) (Nat.le_of_ble_eq_true rfl) (c_has (Nat.lt_trans (pu_or_lt (hP i) (hC i)) (by decide)) (by omega)) ?_
  refine wp_if_eq (q := 27) (tgt := 30) d_X_arc_24 (by decide) rfl (fun _ => ?_) (fun c24 => absurd (by rw [h1]; rfl) c24)
  refine wp_aload_n (q := 31) d_X_arc_30 rfl rfl rfl ?_
  refine wp_get (q := 34) (k := 0) d_X_arc_31 rfl ok_X (Nat.le_of_ble_eq_true rfl) fk_X_12 hX.1 rfl ?_
  refine wp_getN (q := 37) (k := 3) d_X_arc_34 rfl ok_G (Nat.le_of_ble_eq_true rfl) fk_X_85 hX.2.1.1 rfl ?_
  refine wp_iload_n (q := 38) d_X_arc_37 rfl rfl rfl ?_
  refine wp_cS1r (q := 41) d_X_arc_38 rfl bd_X_bit lk_X_89 sm_X_bit (Nat.le_of_ble_eq_true rfl) (Nat.le_of_ble_eq_true rfl) (Nat.le_of_ble_eq_true rfl) (c_bit (by omega)) ?_
  refine wp_cS2r (q := 44) d_X_arc_41 rfl bd_X_closure lk_X_92 sm_X_closure (Nat.le_of_ble_eq_true rfl) (Nat.le_of_ble_eq_true rfl) (Nat.le_of_ble_eq_true rfl) (c_closure hX.2.1.2.2 (by decide) hC (pu_p2 (by omega))) ?_
  refine wp_iload_n (q := 45) d_X_arc_44 rfl rfl rfl ?_
  refine wp_cS2r (q := 48) d_X_arc_45 rfl bd_X_has lk_X_82 sm_X_has (Nat.le_of_ble_eq_true rfl) (Nat.le_of_ble_eq_true rfl) (Nat.le_of_ble_eq_true rfl) (c_has (Nat.lt_trans (pu_cl_lt hC (pu_p2 (by omega))) (by decide)) (by omega)) ?_
  refine wp_if_eq (q := 51) (tgt := 54) d_X_arc_48 (by decide) rfl (fun _ => ?_) (fun c48 => absurd (by rw [h2]; rfl) c48)
  refine wp_aload_n (q := 55) d_X_arc_54 rfl rfl rfl ?_
  refine wp_get (q := 58) (k := 0) d_X_arc_55 rfl ok_X (Nat.le_of_ble_eq_true rfl) fk_X_12 hX.1 rfl ?_
  refine wp_getN (q := 61) (k := 1) d_X_arc_58 rfl ok_G (Nat.le_of_ble_eq_true rfl) fk_X_96 hX.2.1.1 rfl ?_
  refine wp_bipush (q := 63) (v := 10) d_X_arc_61 rfl (by decide) ?_
  refine wp_icmp_lt (q := 66) (tgt := 69) d_X_arc_63 (by decide) rfl (fun _ => ?_) (fun c63 => absurd (by rw [show (10 : Int32) = nI 10 from rfl]; exact nI_lt h3 (by decide)) c63)
  refine wp_aload_n (q := 70) d_X_arc_69 rfl rfl rfl ?_
  refine wp_get (q := 73) (k := 0) d_X_arc_70 rfl ok_X (Nat.le_of_ble_eq_true rfl) fk_X_12 hX.1 rfl ?_
  refine wp_iload_n (q := 74) d_X_arc_73 rfl rfl rfl ?_
  refine wp_iload_n (q := 75) d_X_arc_74 rfl rfl rfl ?_
  refine wp_cVN2g (q := 78) (bc1 := 0) (bs1 := 0) d_X_arc_75 rfl bd_G_join lk_X_99 im_G_join se_G_join rfl (Nat.le_of_ble_eq_true rfl) (Nat.le_of_ble_eq_true rfl) hX.2.1.1 (Nat.le_of_ble_eq_true rfl) (c_G_join hX.2.1 (i := i) (j := j) (by omega) (by omega) (by decide) (by decide) (by decide)) (fun v w1 hF => ?_)
  obtain ⟨rfl, f1, hG1⟩ := hF
  have hX1 := hX.g f1 hG1
  refine wp_aload_n (q := 79) d_X_arc_78 rfl rfl rfl ?_
  refine wp_get (q := 82) (k := 3) d_X_arc_79 rfl ok_X (Nat.le_of_ble_eq_true rfl) fk_X_26 hX1.1 rfl ?_
  refine wp_iload_n (q := 83) d_X_arc_82 rfl rfl rfl ?_
  refine wp_cVN1v (q := 86) d_X_arc_83 rfl bd_T_startRows lk_X_70 im_T_startRows se_T_startRows rfl (Nat.le_of_ble_eq_true rfl) (Nat.le_of_ble_eq_true rfl) hX1.2.2.2.1.1 (Nat.le_of_ble_eq_true rfl) (c_T_startRows hX1.2.2.2.1 (i := j) (by omega)) ?_
  have hj8 : j < 8 := by omega
  have hX2 := hX1.t (am_frow hj8) (hX1.2.2.2.1.row hj8 (fun _ => 4))
  have f2 := (f1.x (by decide)).tr ((am_frow (w := w1) (c := am_ar 128 (fun _ => 4)) hj8).x (by decide))
  generalize (w1.set (9 + j) (am_ar 128 (fun _ => 4))) = w2 at hX2 f2 ⊢
  refine wp_aload_n (q := 87) d_X_arc_86 rfl rfl rfl ?_
  refine wp_get (q := 90) (k := 0) d_X_arc_87 rfl ok_X (Nat.le_of_ble_eq_true rfl) fk_X_12 hX2.1 rfl ?_
  refine wp_getN (q := 93) (k := 1) d_X_arc_90 rfl ok_G (Nat.le_of_ble_eq_true rfl) fk_X_96 hX2.2.1.1 rfl ?_
  exact wp_ireturn rfl d_X_arc_93 ⟨rfl, f2, hX2⟩
set_option maxHeartbeats 4000000 in
set_option maxRecDepth 100000 in
theorem c_X_cut_bad {n k : Nat} {P C : Nat → Nat} {kn kk : Nat} {KP KC : Nat → Nat} {ak : Bool} {E : Nat → Nat → Nat} {hd hv : Nat} {w : am_W} (hX : XI n k P C kn kk KP KC ak E hd hv w) (hW : XW n k P C kn kk KP KC E hd hv) {x y : Int32} (hb : ¬ PR n x y) : am_Wp none m_X_cut 2 0 0 0 [(0, .ref 0), (1, .int x), (2, .int y)] [] w (am_R (some (.int (-2))) w) := by
  obtain ⟨hn, hk, hP, hC, hkn, hKP, hKC, hE, hh1, hh2, hrow, hpop, hlen⟩ := id hW
  refine wp_aload_n (q := 1) d_X_cut_0 rfl rfl rfl ?_
  refine wp_iload_n (q := 2) d_X_cut_1 rfl rfl rfl ?_
  refine wp_iload_n (q := 3) d_X_cut_2 rfl rfl rfl ?_
  refine wp_cV2r (q := 6) d_X_cut_3 rfl bd_X_isPair lk_X_74 im_X_isPair se_X_isPair rfl (Nat.le_of_ble_eq_true rfl) (Nat.le_of_ble_eq_true rfl) hX.1 (Nat.le_of_ble_eq_true rfl) (c_isPair hX hn) ?_
  refine wp_if_ne (q := 9) (tgt := 12) d_X_cut_6 (by decide) rfl (fun c6 => absurd (pu_q_f hb) c6) (fun _ => ?_)
  refine wp_bipush (q := 11) (v := -2) d_X_cut_9 rfl (by decide) ?_
  exact wp_ireturn rfl d_X_cut_11 ⟨rfl, rfl⟩
set_option maxHeartbeats 4000000 in
set_option maxRecDepth 100000 in
theorem c_X_cut_none {n k : Nat} {P C : Nat → Nat} {kn kk : Nat} {KP KC : Nat → Nat} {ak : Bool} {E : Nat → Nat → Nat} {hd hv : Nat} {w : am_W} (hX : XI n k P C kn kk KP KC ak E hd hv w) (hW : XW n k P C kn kk KP KC E hd hv) {i j : Nat} (hi : i < n) (hj : j < n) (hij : i ≠ j) (h1 : (C i).testBit j = false) : am_Wp none m_X_cut 2 0 0 0 [(0, .ref 0), (1, .int (nI i)), (2, .int (nI j))] [] w (am_R (some (.int (-1))) w) := by
  obtain ⟨hn, hk, hP, hC, hkn, hKP, hKC, hE, hh1, hh2, hrow, hpop, hlen⟩ := id hW
  refine wp_aload_n (q := 1) d_X_cut_0 rfl rfl rfl ?_
  refine wp_iload_n (q := 2) d_X_cut_1 rfl rfl rfl ?_
  refine wp_iload_n (q := 3) d_X_cut_2 rfl rfl rfl ?_
  refine wp_cV2r (q := 6) d_X_cut_3 rfl bd_X_isPair lk_X_74 im_X_isPair se_X_isPair rfl (Nat.le_of_ble_eq_true rfl) (Nat.le_of_ble_eq_true rfl) hX.1 (Nat.le_of_ble_eq_true rfl) (c_isPair hX hn) ?_
  refine wp_if_ne (q := 9) (tgt := 12) d_X_cut_6 (by decide) rfl (fun _ => ?_) (fun c6 => absurd c6 (by rw [pu_q_t ⟨i, j, hi, hj, hij, rfl, rfl⟩]; decide))
  refine wp_aload_n (q := 13) d_X_cut_12 rfl rfl rfl ?_
  refine wp_get (q := 16) (k := 0) d_X_cut_13 rfl ok_X (Nat.le_of_ble_eq_true rfl) fk_X_12 hX.1 rfl ?_
  refine wp_getN (q := 19) (k := 3) d_X_cut_16 rfl ok_G (Nat.le_of_ble_eq_true rfl) fk_X_85 hX.2.1.1 rfl ?_
  refine wp_iload_n (q := 20) d_X_cut_19 rfl rfl rfl ?_
  refine wp_ialoadN (q := 21) d_X_cut_20 rfl hX.2.1.2.2 rfl (by omega) (by decide) ?_
  refine wp_iload_n (q := 22) d_X_cut_21 rfl rfl rfl ?_
  refine wp_cS2r (q := 25) d_X_cut_22 rfl bd_X_has lk_X_82 sm_X_has (Nat.le_of_ble_eq_true rfl) (Nat.le_of_ble_eq_true rfl) (Nat.le_of_ble_eq_true rfl) (c_has (Nat.lt_trans (hC i) (by decide)) (by omega)) ?_
  refine wp_if_ne (q := 28) (tgt := 30) d_X_cut_25 (by decide) rfl (fun c25 => absurd (by rw [h1]; rfl) c25) (fun _ => ?_)
  refine wp_iconst (q := 29) (v := -1) d_X_cut_28 rfl (by decide) ?_
  exact wp_ireturn rfl d_X_cut_29 ⟨rfl, rfl⟩
set_option maxHeartbeats 4000000 in
set_option maxRecDepth 100000 in
theorem c_X_cut {n k : Nat} {P C : Nat → Nat} {kn kk : Nat} {KP KC : Nat → Nat} {ak : Bool} {E : Nat → Nat → Nat} {hd hv : Nat} {w : am_W} (hX : XI n k P C kn kk KP KC ak E hd hv w) (hW : XW n k P C kn kk KP KC E hd hv) {i j : Nat} (hi : i < n) (hj : j < n) (hij : i ≠ j) (hk1 : 1 ≤ k) (h1 : (C i).testBit j = true) : am_Wp none m_X_cut 2 0 0 0 [(0, .ref 0), (1, .int (nI i)), (2, .int (nI j))] [] w (fun v w1 => v = some (.int (nI (k - 1))) ∧ am_fr DX w w1 ∧ XI n (k - 1) (pu_set P j (pu_dif (P j) (2 ^ i))) (pu_set C i (pu_dif (C i) (2 ^ j))) kn kk KP KC ak (pu_setE E j (fun _ => 4)) hd hv w1) := by
  obtain ⟨hn, hk, hP, hC, hkn, hKP, hKC, hE, hh1, hh2, hrow, hpop, hlen⟩ := id hW
  refine wp_aload_n (q := 1) d_X_cut_0 rfl rfl rfl ?_
  refine wp_iload_n (q := 2) d_X_cut_1 rfl rfl rfl ?_
  refine wp_iload_n (q := 3) d_X_cut_2 rfl rfl rfl ?_
  refine wp_cV2r (q := 6) d_X_cut_3 rfl bd_X_isPair lk_X_74 im_X_isPair se_X_isPair rfl (Nat.le_of_ble_eq_true rfl) (Nat.le_of_ble_eq_true rfl) hX.1 (Nat.le_of_ble_eq_true rfl) (c_isPair hX hn) ?_
  refine wp_if_ne (q := 9) (tgt := 12) d_X_cut_6 (by decide) rfl (fun _ => ?_) (fun c6 => absurd c6 (by rw [pu_q_t ⟨i, j, hi, hj, hij, rfl, rfl⟩]; decide))
  refine wp_aload_n (q := 13) d_X_cut_12 rfl rfl rfl ?_
  refine wp_get (q := 16) (k := 0) d_X_cut_13 rfl ok_X (Nat.le_of_ble_eq_true rfl) fk_X_12 hX.1 rfl ?_
  refine wp_getN (q := 19) (k := 3) d_X_cut_16 rfl ok_G (Nat.le_of_ble_eq_true rfl) fk_X_85 hX.2.1.1 rfl ?_
  refine wp_iload_n (q := 20) d_X_cut_19 rfl rfl rfl ?_
  refine wp_ialoadN (q := 21) d_X_cut_20 rfl hX.2.1.2.2 rfl (by omega) (by decide) ?_
  refine wp_iload_n (q := 22) d_X_cut_21 rfl rfl rfl ?_
  refine wp_cS2r (q := 25) d_X_cut_22 rfl bd_X_has lk_X_82 sm_X_has (Nat.le_of_ble_eq_true rfl) (Nat.le_of_ble_eq_true rfl) (Nat.le_of_ble_eq_true rfl) (c_has (Nat.lt_trans (hC i) (by decide)) (by omega)) ?_
  refine wp_if_ne (q := 28) (tgt := 30) d_X_cut_25 (by decide) rfl (fun _ => ?_) (fun c25 => absurd c25 (by rw [h1]; decide))
  refine wp_aload_n (q := 31) d_X_cut_30 rfl rfl rfl ?_
  refine wp_get (q := 34) (k := 0) d_X_cut_31 rfl ok_X (Nat.le_of_ble_eq_true rfl) fk_X_12 hX.1 rfl ?_
  refine wp_iload_n (q := 35) d_X_cut_34 rfl rfl rfl ?_
  refine wp_iload_n (q := 36) d_X_cut_35 rfl rfl rfl ?_
  refine wp_cVN2g (q := 39) (bc1 := 0) (bs1 := 0) d_X_cut_36 rfl bd_G_part lk_X_103 im_G_part se_G_part rfl (Nat.le_of_ble_eq_true rfl) (Nat.le_of_ble_eq_true rfl) hX.2.1.1 (Nat.le_of_ble_eq_true rfl) (c_G_part hX.2.1 (i := i) (j := j) (by omega) (by omega) hk1 (by decide) (by decide) (by decide)) (fun v w1 hF => ?_)
  obtain ⟨rfl, f1, hG1⟩ := hF
  have hX1 := hX.g f1 hG1
  refine wp_aload_n (q := 40) d_X_cut_39 rfl rfl rfl ?_
  refine wp_get (q := 43) (k := 3) d_X_cut_40 rfl ok_X (Nat.le_of_ble_eq_true rfl) fk_X_26 hX1.1 rfl ?_
  refine wp_iload_n (q := 44) d_X_cut_43 rfl rfl rfl ?_
  refine wp_cVN1v (q := 47) d_X_cut_44 rfl bd_T_startRows lk_X_70 im_T_startRows se_T_startRows rfl (Nat.le_of_ble_eq_true rfl) (Nat.le_of_ble_eq_true rfl) hX1.2.2.2.1.1 (Nat.le_of_ble_eq_true rfl) (c_T_startRows hX1.2.2.2.1 (i := j) (by omega)) ?_
  have hj8 : j < 8 := by omega
  have hX2 := hX1.t (am_frow hj8) (hX1.2.2.2.1.row hj8 (fun _ => 4))
  have f2 := (f1.x (by decide)).tr ((am_frow (w := w1) (c := am_ar 128 (fun _ => 4)) hj8).x (by decide))
  generalize (w1.set (9 + j) (am_ar 128 (fun _ => 4))) = w2 at hX2 f2 ⊢
  refine wp_aload_n (q := 48) d_X_cut_47 rfl rfl rfl ?_
  refine wp_get (q := 51) (k := 0) d_X_cut_48 rfl ok_X (Nat.le_of_ble_eq_true rfl) fk_X_12 hX2.1 rfl ?_
  refine wp_getN (q := 54) (k := 1) d_X_cut_51 rfl ok_G (Nat.le_of_ble_eq_true rfl) fk_X_96 hX2.2.1.1 rfl ?_
  exact wp_ireturn rfl d_X_cut_54 ⟨rfl, f2, hX2⟩
set_option maxHeartbeats 4000000 in
set_option maxRecDepth 100000 in
theorem c_X_odds_bad {n k : Nat} {P C : Nat → Nat} {kn kk : Nat} {KP KC : Nat → Nat} {ak : Bool} {E : Nat → Nat → Nat} {hd hv : Nat} {w : am_W} (hX : XI n k P C kn kk KP KC ak E hd hv w) (hW : XW n k P C kn kk KP KC E hd hv) {x y z : Int32} (hb : ¬ (RO n P x y ∧ ∃ e, e ≤ 8 ∧ z = nI e)) : am_Wp none m_X_odds 3 0 0 0 [(0, .ref 0), (1, .int x), (2, .int y), (3, .int z)] [] w (am_R (some (.int (-2))) w) := by
  obtain ⟨hn, hk, hP, hC, hkn, hKP, hKC, hE, hh1, hh2, hrow, hpop, hlen⟩ := id hW
  refine wp_aload_n (q := 1) d_X_odds_0 rfl rfl rfl ?_
  refine wp_iload_n (q := 2) d_X_odds_1 rfl rfl rfl ?_
  refine wp_iload_n (q := 3) d_X_odds_2 rfl rfl rfl ?_
  refine wp_cV2r (q := 6) d_X_odds_3 rfl bd_X_isRow lk_X_106 im_X_isRow se_X_isRow rfl (Nat.le_of_ble_eq_true rfl) (Nat.le_of_ble_eq_true rfl) hX.1 (Nat.le_of_ble_eq_true rfl) (c_isRow hX hn hP) ?_
  refine wp_if_eq (q := 9) (tgt := 19) d_X_odds_6 (by decide) rfl (fun c6 => ?_) (fun c6 => ?_)
  · refine wp_bipush (q := 21) (v := -2) d_X_odds_19 rfl (by decide) ?_
    exact wp_ireturn rfl d_X_odds_21 ⟨rfl, rfl⟩
  · refine wp_iload_n (q := 10) d_X_odds_9 rfl rfl rfl ?_
    refine wp_if_lt (q := 13) (tgt := 19) d_X_odds_10 (by decide) rfl (fun c10 => ?_) (fun c10 => ?_)
    · refine wp_bipush (q := 21) (v := -2) d_X_odds_19 rfl (by decide) ?_
      exact wp_ireturn rfl d_X_odds_21 ⟨rfl, rfl⟩
    · refine wp_iload_n (q := 14) d_X_odds_13 rfl rfl rfl ?_
      refine wp_bipush (q := 16) (v := 8) d_X_odds_14 rfl (by decide) ?_
      refine wp_icmp_le (q := 19) (tgt := 22) d_X_odds_16 (by decide) rfl (fun c16 => absurd c16 (fun h => hb ⟨pu_q1 c6, nI_of2 (n := 8) rfl c10 h⟩)) (fun _ => ?_)
      refine wp_bipush (q := 21) (v := -2) d_X_odds_19 rfl (by decide) ?_
      exact wp_ireturn rfl d_X_odds_21 ⟨rfl, rfl⟩
set_option maxHeartbeats 4000000 in
set_option maxRecDepth 100000 in
theorem c_X_odds {n k : Nat} {P C : Nat → Nat} {kn kk : Nat} {KP KC : Nat → Nat} {ak : Bool} {E : Nat → Nat → Nat} {hd hv : Nat} {w : am_W} (hX : XI n k P C kn kk KP KC ak E hd hv w) (hW : XW n k P C kn kk KP KC E hd hv) {i j : Nat} (hi : i < n) (hj : j < 2 ^ pu_pop 8 (P i)) {e : Nat} (he : e ≤ 8) : am_Wp none m_X_odds 3 0 0 0 [(0, .ref 0), (1, .int (nI i)), (2, .int (nI j)), (3, .int (nI e))] [] w (fun v w1 => v = some (.int (nI (E i j))) ∧ am_fr DX w w1 ∧ XI n k P C kn kk KP KC ak (pu_setE E i (pu_set (E i) j e)) hd hv w1) := by
  obtain ⟨hn, hk, hP, hC, hkn, hKP, hKC, hE, hh1, hh2, hrow, hpop, hlen⟩ := id hW
  have hj2 : j < 128 := Nat.lt_of_lt_of_le hj (Nat.pow_le_pow_right (n := 2) (by decide) (hpop i hi))
  have hi8 : i < 8 := by omega
  refine wp_aload_n (q := 1) d_X_odds_0 rfl rfl rfl ?_
  refine wp_iload_n (q := 2) d_X_odds_1 rfl rfl rfl ?_
  refine wp_iload_n (q := 3) d_X_odds_2 rfl rfl rfl ?_
  refine wp_cV2r (q := 6) d_X_odds_3 rfl bd_X_isRow lk_X_106 im_X_isRow se_X_isRow rfl (Nat.le_of_ble_eq_true rfl) (Nat.le_of_ble_eq_true rfl) hX.1 (Nat.le_of_ble_eq_true rfl) (c_isRow hX hn hP) ?_
  refine wp_if_eq (q := 9) (tgt := 19) d_X_odds_6 (by decide) rfl (fun c6 => absurd c6 (by rw [pu_q_t ⟨i, j, hi, hj, rfl, rfl⟩]; decide)) (fun _ => ?_)
  refine wp_iload_n (q := 10) d_X_odds_9 rfl rfl rfl ?_
  refine wp_if_lt (q := 13) (tgt := 19) d_X_odds_10 (by decide) rfl (fun c10 => absurd c10 (nI_pos (by omega))) (fun _ => ?_)
  refine wp_iload_n (q := 14) d_X_odds_13 rfl rfl rfl ?_
  refine wp_bipush (q := 16) (v := 8) d_X_odds_14 rfl (by decide) ?_
  refine wp_icmp_le (q := 19) (tgt := 22) d_X_odds_16 (by decide) rfl (fun _ => ?_) (fun c16 => absurd (by rw [show (8 : Int32) = nI 8 from rfl]; exact nI_le he (by decide)) c16)
  refine wp_aload_n (q := 23) d_X_odds_22 rfl rfl rfl ?_
  refine wp_get (q := 26) (k := 3) d_X_odds_23 rfl ok_X (Nat.le_of_ble_eq_true rfl) fk_X_26 hX.1 rfl ?_
  refine wp_getN (q := 29) (k := 0) d_X_odds_26 rfl ok_T (Nat.le_of_ble_eq_true rfl) fk_X_109 hX.2.2.2.1.1 rfl ?_
  refine wp_iload_n (q := 30) d_X_odds_29 rfl rfl rfl ?_
  refine wp_aaloadN (q := 31) d_X_odds_30 rfl hX.2.2.2.1.2.1 rfl hi8 (by decide) (if_pos hi8) ?_
  refine wp_iload_n (q := 32) d_X_odds_31 rfl rfl rfl ?_
  refine wp_ialoadN (q := 33) d_X_odds_32 rfl (hX.2.2.2.1.2.2 i hi8) rfl hj2 (by decide) ?_
  refine wp_istore (q := 35) d_X_odds_33 rfl (Nat.le_of_ble_eq_true rfl) rfl ?_
  refine wp_aload_n (q := 36) d_X_odds_35 rfl rfl rfl ?_
  refine wp_get (q := 39) (k := 3) d_X_odds_36 rfl ok_X (Nat.le_of_ble_eq_true rfl) fk_X_26 hX.1 rfl ?_
  refine wp_getN (q := 42) (k := 0) d_X_odds_39 rfl ok_T (Nat.le_of_ble_eq_true rfl) fk_X_109 hX.2.2.2.1.1 rfl ?_
  refine wp_iload_n (q := 43) d_X_odds_42 rfl rfl rfl ?_
  refine wp_aaloadN (q := 44) d_X_odds_43 rfl hX.2.2.2.1.2.1 rfl hi8 (by decide) (if_pos hi8) ?_
  refine wp_iload_n (q := 45) d_X_odds_44 rfl rfl rfl ?_
  refine wp_iload_n (q := 46) d_X_odds_45 rfl rfl rfl ?_
  refine wp_iastoreN (q := 47) d_X_odds_46 rfl (hX.2.2.2.1.2.2 i hi8) rfl hj2 (by decide) rfl ?_
  rw [pu_upd]
  refine wp_iload (q := 49) d_X_odds_47 rfl rfl ?_
  exact wp_ireturn rfl d_X_odds_49 ⟨rfl, (am_frow hi8).x (by decide), hX.t (am_frow hi8) (hX.2.2.2.1.row hi8 _)⟩
set_option maxHeartbeats 4000000 in
set_option maxRecDepth 100000 in
theorem c_X_told_bad {n k : Nat} {P C : Nat → Nat} {kn kk : Nat} {KP KC : Nat → Nat} {ak : Bool} {E : Nat → Nat → Nat} {hd hv : Nat} {w : am_W} (hX : XI n k P C kn kk KP KC ak E hd hv w) (hW : XW n k P C kn kk KP KC E hd hv) {x y : Int32} (hb : ¬ RO n P x y) : am_Wp none m_X_told 3 0 0 0 [(0, .ref 0), (1, .int x), (2, .int y)] [] w (am_R (some (.int (-2))) w) := by
  obtain ⟨hn, hk, hP, hC, hkn, hKP, hKC, hE, hh1, hh2, hrow, hpop, hlen⟩ := id hW
  refine wp_aload_n (q := 1) d_X_told_0 rfl rfl rfl ?_
  refine wp_iload_n (q := 2) d_X_told_1 rfl rfl rfl ?_
  refine wp_iload_n (q := 3) d_X_told_2 rfl rfl rfl ?_
  refine wp_cV2r (q := 6) d_X_told_3 rfl bd_X_isRow lk_X_106 im_X_isRow se_X_isRow rfl (Nat.le_of_ble_eq_true rfl) (Nat.le_of_ble_eq_true rfl) hX.1 (Nat.le_of_ble_eq_true rfl) (c_isRow hX hn hP) ?_
  refine wp_if_eq (q := 9) (tgt := 23) d_X_told_6 (by decide) rfl (fun _ => ?_) (fun c6 => absurd (pu_q_f hb) c6)
  refine wp_bipush (q := 25) (v := -2) d_X_told_23 rfl (by decide) ?_
  exact wp_ireturn rfl d_X_told_25 ⟨rfl, rfl⟩
set_option maxHeartbeats 4000000 in
set_option maxRecDepth 100000 in
theorem c_X_told {n k : Nat} {P C : Nat → Nat} {kn kk : Nat} {KP KC : Nat → Nat} {ak : Bool} {E : Nat → Nat → Nat} {hd hv : Nat} {w : am_W} (hX : XI n k P C kn kk KP KC ak E hd hv w) (hW : XW n k P C kn kk KP KC E hd hv) {i j : Nat} (hi : i < n) (hj : j < 2 ^ pu_pop 8 (P i)) : am_Wp none m_X_told 3 0 0 0 [(0, .ref 0), (1, .int (nI i)), (2, .int (nI j))] [] w (am_R (some (.int (nI (E i j)))) w) := by
  obtain ⟨hn, hk, hP, hC, hkn, hKP, hKC, hE, hh1, hh2, hrow, hpop, hlen⟩ := id hW
  have hj2 : j < 128 := Nat.lt_of_lt_of_le hj (Nat.pow_le_pow_right (n := 2) (by decide) (hpop i hi))
  have hi8 : i < 8 := by omega
  refine wp_aload_n (q := 1) d_X_told_0 rfl rfl rfl ?_
  refine wp_iload_n (q := 2) d_X_told_1 rfl rfl rfl ?_
  refine wp_iload_n (q := 3) d_X_told_2 rfl rfl rfl ?_
  refine wp_cV2r (q := 6) d_X_told_3 rfl bd_X_isRow lk_X_106 im_X_isRow se_X_isRow rfl (Nat.le_of_ble_eq_true rfl) (Nat.le_of_ble_eq_true rfl) hX.1 (Nat.le_of_ble_eq_true rfl) (c_isRow hX hn hP) ?_
  refine wp_if_eq (q := 9) (tgt := 23) d_X_told_6 (by decide) rfl (fun c6 => absurd c6 (by rw [pu_q_t ⟨i, j, hi, hj, rfl, rfl⟩]; decide)) (fun _ => ?_)
  refine wp_aload_n (q := 10) d_X_told_9 rfl rfl rfl ?_
  refine wp_get (q := 13) (k := 3) d_X_told_10 rfl ok_X (Nat.le_of_ble_eq_true rfl) fk_X_26 hX.1 rfl ?_
  refine wp_getN (q := 16) (k := 0) d_X_told_13 rfl ok_T (Nat.le_of_ble_eq_true rfl) fk_X_109 hX.2.2.2.1.1 rfl ?_
  refine wp_iload_n (q := 17) d_X_told_16 rfl rfl rfl ?_
  refine wp_aaloadN (q := 18) d_X_told_17 rfl hX.2.2.2.1.2.1 rfl hi8 (by decide) (if_pos hi8) ?_
  refine wp_iload_n (q := 19) d_X_told_18 rfl rfl rfl ?_
  refine wp_ialoadN (q := 20) d_X_told_19 rfl (hX.2.2.2.1.2.2 i hi8) rfl hj2 (by decide) ?_
  refine wp_goto (tgt := 25) d_X_told_20 (by decide) ?_
  exact wp_ireturn rfl d_X_told_25 ⟨rfl, rfl⟩
set_option maxHeartbeats 4000000 in
set_option maxRecDepth 100000 in
theorem c_X_hold_bad {n k : Nat} {P C : Nat → Nat} {kn kk : Nat} {KP KC : Nat → Nat} {ak : Bool} {E : Nat → Nat → Nat} {hd hv : Nat} {w : am_W} (hX : XI n k P C kn kk KP KC ak E hd hv w) (hW : XW n k P C kn kk KP KC E hd hv) {x z : Int32} (hb : ¬ (PL n x ∧ (z = -1 ∨ z = 0 ∨ z = 1))) : am_Wp none m_X_hold 2 0 0 0 [(0, .ref 0), (1, .int x), (2, .int z)] [] w (am_R (some (.int (-2))) w) := by
  obtain ⟨hn, hk, hP, hC, hkn, hKP, hKC, hE, hh1, hh2, hrow, hpop, hlen⟩ := id hW
  refine wp_aload_n (q := 1) d_X_hold_0 rfl rfl rfl ?_
  refine wp_iload_n (q := 2) d_X_hold_1 rfl rfl rfl ?_
  refine wp_cV1r (q := 5) d_X_hold_2 rfl bd_X_isPlace lk_X_113 im_X_isPlace se_X_isPlace rfl (Nat.le_of_ble_eq_true rfl) (Nat.le_of_ble_eq_true rfl) hX.1 (Nat.le_of_ble_eq_true rfl) (c_isPlace hX hn) ?_
  refine wp_if_eq (q := 8) (tgt := 18) d_X_hold_5 (by decide) rfl (fun c5 => ?_) (fun c5 => ?_)
  · refine wp_bipush (q := 20) (v := -2) d_X_hold_18 rfl (by decide) ?_
    exact wp_ireturn rfl d_X_hold_20 ⟨rfl, rfl⟩
  · refine wp_iload_n (q := 9) d_X_hold_8 rfl rfl rfl ?_
    refine wp_iconst (q := 10) (v := -1) d_X_hold_9 rfl (by decide) ?_
    refine wp_icmp_lt (q := 13) (tgt := 18) d_X_hold_10 (by decide) rfl (fun c10 => ?_) (fun c10 => ?_)
    · refine wp_bipush (q := 20) (v := -2) d_X_hold_18 rfl (by decide) ?_
      exact wp_ireturn rfl d_X_hold_20 ⟨rfl, rfl⟩
    · refine wp_iload_n (q := 14) d_X_hold_13 rfl rfl rfl ?_
      refine wp_iconst (q := 15) (v := 1) d_X_hold_14 rfl (by decide) ?_
      refine wp_icmp_le (q := 18) (tgt := 21) d_X_hold_15 (by decide) rfl (fun c15 => absurd c15 (fun h => hb ⟨pu_q1 c5, pu_hz c10 h⟩)) (fun _ => ?_)
      refine wp_bipush (q := 20) (v := -2) d_X_hold_18 rfl (by decide) ?_
      exact wp_ireturn rfl d_X_hold_20 ⟨rfl, rfl⟩
set_option maxHeartbeats 4000000 in
set_option maxRecDepth 100000 in
theorem c_X_hold0 {n k : Nat} {P C : Nat → Nat} {kn kk : Nat} {KP KC : Nat → Nat} {ak : Bool} {E : Nat → Nat → Nat} {hd hv : Nat} {w : am_W} (hX : XI n k P C kn kk KP KC ak E hd hv w) (hW : XW n k P C kn kk KP KC E hd hv) {i : Nat} (hi : i < n) : am_Wp none m_X_hold 2 0 0 0 [(0, .ref 0), (1, .int (nI i)), (2, .int (-1))] [] w (fun v w1 => v = some (.int (pu_ha hd hv i)) ∧ am_fr DX w w1 ∧ XI n k P C kn kk KP KC ak E (pu_dif hd (2 ^ i)) (pu_dif hv (2 ^ i)) w1) := by
  obtain ⟨hn, hk, hP, hC, hkn, hKP, hKC, hE, hh1, hh2, hrow, hpop, hlen⟩ := id hW
  refine wp_aload_n (q := 1) d_X_hold_0 rfl rfl rfl ?_
  refine wp_iload_n (q := 2) d_X_hold_1 rfl rfl rfl ?_
  refine wp_cV1r (q := 5) d_X_hold_2 rfl bd_X_isPlace lk_X_113 im_X_isPlace se_X_isPlace rfl (Nat.le_of_ble_eq_true rfl) (Nat.le_of_ble_eq_true rfl) hX.1 (Nat.le_of_ble_eq_true rfl) (c_isPlace hX hn) ?_
  refine wp_if_eq (q := 8) (tgt := 18) d_X_hold_5 (by decide) rfl (fun c5 => absurd c5 (by rw [pu_q_t ⟨i, hi, rfl⟩]; decide)) (fun _ => ?_)
  refine wp_iload_n (q := 9) d_X_hold_8 rfl rfl rfl ?_
  refine wp_iconst (q := 10) (v := -1) d_X_hold_9 rfl (by decide) ?_
  refine wp_icmp_lt (q := 13) (tgt := 18) d_X_hold_10 (by decide) rfl (fun c10 => absurd c10 (by decide)) (fun _ => ?_)
  refine wp_iload_n (q := 14) d_X_hold_13 rfl rfl rfl ?_
  refine wp_iconst (q := 15) (v := 1) d_X_hold_14 rfl (by decide) ?_
  refine wp_icmp_le (q := 18) (tgt := 21) d_X_hold_15 (by decide) rfl (fun _ => ?_) (fun c15 => absurd (by decide) c15)
  refine wp_aload_n (q := 22) d_X_hold_21 rfl rfl rfl ?_
  refine wp_get (q := 25) (k := 3) d_X_hold_22 rfl ok_X (Nat.le_of_ble_eq_true rfl) fk_X_26 hX.1 rfl ?_
  refine wp_iload_n (q := 26) d_X_hold_25 rfl rfl rfl ?_
  refine wp_cVN1r (q := 29) d_X_hold_26 rfl bd_T_heldAt lk_X_117 im_T_heldAt se_T_heldAt rfl (Nat.le_of_ble_eq_true rfl) (Nat.le_of_ble_eq_true rfl) hX.2.2.2.1.1 (Nat.le_of_ble_eq_true rfl) (c_T_heldAt hX.2.2.2.1 hh1 hh2 (by omega)) ?_
  refine wp_istore_n (q := 30) d_X_hold_29 rfl rfl (Nat.le_of_ble_eq_true rfl) rfl ?_
  refine wp_aload_n (q := 31) d_X_hold_30 rfl rfl rfl ?_
  refine wp_get (q := 34) (k := 3) d_X_hold_31 rfl ok_X (Nat.le_of_ble_eq_true rfl) fk_X_26 hX.1 rfl ?_
  refine wp_iload_n (q := 35) d_X_hold_34 rfl rfl rfl ?_
  refine wp_iload_n (q := 36) d_X_hold_35 rfl rfl rfl ?_
  refine wp_cVN2v (q := 39) d_X_hold_36 rfl bd_T_setHeld lk_X_120 im_T_setHeld se_T_setHeld rfl (Nat.le_of_ble_eq_true rfl) (Nat.le_of_ble_eq_true rfl) hX.2.2.2.1.1 (Nat.le_of_ble_eq_true rfl) (c_T_setHeld0 hX.2.2.2.1 (by omega)) ?_
  refine wp_iload_n (q := 40) d_X_hold_39 rfl rfl rfl ?_
  exact wp_ireturn rfl d_X_hold_40 ⟨rfl, (am_fr.rf.put (D := [7, 9, 10, 11, 12, 13, 14, 15, 16]) (by simp)).x (by decide), hX.t (am_fr.rf.put (by simp)) ⟨am_at_eq hX.2.2.2.1.1, am_at_ne (by decide) hX.2.2.2.1.2.1, fun i hi => am_at_ne (by omega) (hX.2.2.2.1.2.2 i hi)⟩⟩
set_option maxHeartbeats 4000000 in
set_option maxRecDepth 100000 in
theorem c_X_hold1 {n k : Nat} {P C : Nat → Nat} {kn kk : Nat} {KP KC : Nat → Nat} {ak : Bool} {E : Nat → Nat → Nat} {hd hv : Nat} {w : am_W} (hX : XI n k P C kn kk KP KC ak E hd hv w) (hW : XW n k P C kn kk KP KC E hd hv) {i : Nat} (hi : i < n) (b : Bool) : am_Wp none m_X_hold 2 0 0 0 [(0, .ref 0), (1, .int (nI i)), (2, .int (pu_b b))] [] w (fun v w1 => v = some (.int (pu_ha hd hv i)) ∧ am_fr DX w w1 ∧ XI n k P C kn kk KP KC ak E (pu_dif hd (2 ^ i) ||| 2 ^ i) (pu_dif hv (2 ^ i) ||| (if b then 2 ^ i else 0)) w1) := by
  obtain ⟨hn, hk, hP, hC, hkn, hKP, hKC, hE, hh1, hh2, hrow, hpop, hlen⟩ := id hW
  refine wp_aload_n (q := 1) d_X_hold_0 rfl rfl rfl ?_
  refine wp_iload_n (q := 2) d_X_hold_1 rfl rfl rfl ?_
  refine wp_cV1r (q := 5) d_X_hold_2 rfl bd_X_isPlace lk_X_113 im_X_isPlace se_X_isPlace rfl (Nat.le_of_ble_eq_true rfl) (Nat.le_of_ble_eq_true rfl) hX.1 (Nat.le_of_ble_eq_true rfl) (c_isPlace hX hn) ?_
  refine wp_if_eq (q := 8) (tgt := 18) d_X_hold_5 (by decide) rfl (fun c5 => absurd c5 (by rw [pu_q_t ⟨i, hi, rfl⟩]; decide)) (fun _ => ?_)
  refine wp_iload_n (q := 9) d_X_hold_8 rfl rfl rfl ?_
  refine wp_iconst (q := 10) (v := -1) d_X_hold_9 rfl (by decide) ?_
  refine wp_icmp_lt (q := 13) (tgt := 18) d_X_hold_10 (by decide) rfl (fun c10 => absurd c10 (by cases b <;> decide)) (fun _ => ?_)
  refine wp_iload_n (q := 14) d_X_hold_13 rfl rfl rfl ?_
  refine wp_iconst (q := 15) (v := 1) d_X_hold_14 rfl (by decide) ?_
  refine wp_icmp_le (q := 18) (tgt := 21) d_X_hold_15 (by decide) rfl (fun _ => ?_) (fun c15 => absurd (by cases b <;> decide) c15)
  refine wp_aload_n (q := 22) d_X_hold_21 rfl rfl rfl ?_
  refine wp_get (q := 25) (k := 3) d_X_hold_22 rfl ok_X (Nat.le_of_ble_eq_true rfl) fk_X_26 hX.1 rfl ?_
  refine wp_iload_n (q := 26) d_X_hold_25 rfl rfl rfl ?_
  refine wp_cVN1r (q := 29) d_X_hold_26 rfl bd_T_heldAt lk_X_117 im_T_heldAt se_T_heldAt rfl (Nat.le_of_ble_eq_true rfl) (Nat.le_of_ble_eq_true rfl) hX.2.2.2.1.1 (Nat.le_of_ble_eq_true rfl) (c_T_heldAt hX.2.2.2.1 hh1 hh2 (by omega)) ?_
  refine wp_istore_n (q := 30) d_X_hold_29 rfl rfl (Nat.le_of_ble_eq_true rfl) rfl ?_
  refine wp_aload_n (q := 31) d_X_hold_30 rfl rfl rfl ?_
  refine wp_get (q := 34) (k := 3) d_X_hold_31 rfl ok_X (Nat.le_of_ble_eq_true rfl) fk_X_26 hX.1 rfl ?_
  refine wp_iload_n (q := 35) d_X_hold_34 rfl rfl rfl ?_
  refine wp_iload_n (q := 36) d_X_hold_35 rfl rfl rfl ?_
  refine wp_cVN2v (q := 39) d_X_hold_36 rfl bd_T_setHeld lk_X_120 im_T_setHeld se_T_setHeld rfl (Nat.le_of_ble_eq_true rfl) (Nat.le_of_ble_eq_true rfl) hX.2.2.2.1.1 (Nat.le_of_ble_eq_true rfl) (c_T_setHeld1 hX.2.2.2.1 (by omega) b) ?_
  refine wp_iload_n (q := 40) d_X_hold_39 rfl rfl rfl ?_
  exact wp_ireturn rfl d_X_hold_40 ⟨rfl, (am_fr.rf.put (D := [7, 9, 10, 11, 12, 13, 14, 15, 16]) (by simp)).x (by decide), hX.t (am_fr.rf.put (by simp)) ⟨am_at_eq hX.2.2.2.1.1, am_at_ne (by decide) hX.2.2.2.1.2.1, fun i hi => am_at_ne (by omega) (hX.2.2.2.1.2.2 i hi)⟩⟩
