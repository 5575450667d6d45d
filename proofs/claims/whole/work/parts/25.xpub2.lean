/-! CONTRACTS of X's public methods (2) -/
set_option maxHeartbeats 4000000 in
set_option maxRecDepth 100000 in
theorem c_X_of_bad {n k : Nat} {P C : Nat → Nat} {kn kk : Nat} {KP KC : Nat → Nat} {ak : Bool} {E : Nat → Nat → Nat} {hd hv : Nat} {w : am_W} (hX : XI n k P C kn kk KP KC ak E hd hv w) (hW : XW n k P C kn kk KP KC E hd hv) {x y : Int32} (hb : ¬ PL n x) : am_Wp none m_X_of 2 0 0 0 [(0, .ref 0), (1, .int x), (2, .int y)] [] w (am_R (some (.int (-2))) w) := by
  obtain ⟨hn, hk, hP, hC, hkn, hKP, hKC, hE, hh1, hh2, hrow, hpop, hlen⟩ := id hW
  refine wp_aload_n (q := 1) d_X_of_0 rfl rfl rfl ?_
  refine wp_iload_n (q := 2) d_X_of_1 rfl rfl rfl ?_
  refine wp_cV1r (q := 5) d_X_of_2 rfl bd_X_isPlace lk_X_113 im_X_isPlace se_X_isPlace rfl (Nat.le_of_ble_eq_true rfl) (Nat.le_of_ble_eq_true rfl) hX.1 (Nat.le_of_ble_eq_true rfl) (c_isPlace hX hn) ?_
  refine wp_if_ne (q := 8) (tgt := 11) d_X_of_5 (by decide) rfl (fun c5 => absurd (pu_q_f hb) c5) (fun _ => ?_)
  refine wp_bipush (q := 10) (v := -2) d_X_of_8 rfl (by decide) ?_
  exact wp_ireturn rfl d_X_of_10 ⟨rfl, rfl⟩
set_option maxHeartbeats 4000000 in
set_option maxRecDepth 100000 in
theorem c_X_of0 {n k : Nat} {P C : Nat → Nat} {kn kk : Nat} {KP KC : Nat → Nat} {ak : Bool} {E : Nat → Nat → Nat} {hd hv : Nat} {w : am_W} (hX : XI n k P C kn kk KP KC ak E hd hv w) (hW : XW n k P C kn kk KP KC E hd hv) {i : Nat} (hi : i < n) : am_Wp none m_X_of 2 0 0 0 [(0, .ref 0), (1, .int (nI i)), (2, .int 0)] [] w (am_R (some (.int (nI (P i)))) w) := by
  obtain ⟨hn, hk, hP, hC, hkn, hKP, hKC, hE, hh1, hh2, hrow, hpop, hlen⟩ := id hW
  refine wp_aload_n (q := 1) d_X_of_0 rfl rfl rfl ?_
  refine wp_iload_n (q := 2) d_X_of_1 rfl rfl rfl ?_
  refine wp_cV1r (q := 5) d_X_of_2 rfl bd_X_isPlace lk_X_113 im_X_isPlace se_X_isPlace rfl (Nat.le_of_ble_eq_true rfl) (Nat.le_of_ble_eq_true rfl) hX.1 (Nat.le_of_ble_eq_true rfl) (c_isPlace hX hn) ?_
  refine wp_if_ne (q := 8) (tgt := 11) d_X_of_5 (by decide) rfl (fun _ => ?_) (fun c5 => absurd c5 (by rw [pu_q_t ⟨i, hi, rfl⟩]; decide))
  refine wp_iload_n (q := 12) d_X_of_11 rfl rfl rfl ?_
  refine wp_tableIn (tgt := 48) (by decide) (by decide) (by rfl) (by decide) d_X_of_12 ?_
  refine wp_aload_n (q := 49) d_X_of_48 rfl rfl rfl ?_
  refine wp_get (q := 52) (k := 0) d_X_of_49 rfl ok_X (Nat.le_of_ble_eq_true rfl) fk_X_12 hX.1 rfl ?_
  refine wp_getN (q := 55) (k := 2) d_X_of_52 rfl ok_G (Nat.le_of_ble_eq_true rfl) fk_X_123 hX.2.1.1 rfl ?_
  refine wp_iload_n (q := 56) d_X_of_55 rfl rfl rfl ?_
  refine wp_ialoadN (q := 57) d_X_of_56 rfl hX.2.1.2.1 rfl (by omega) (by decide) ?_
  exact wp_ireturn rfl d_X_of_57 ⟨rfl, rfl⟩
set_option maxHeartbeats 4000000 in
set_option maxRecDepth 100000 in
theorem c_X_of1 {n k : Nat} {P C : Nat → Nat} {kn kk : Nat} {KP KC : Nat → Nat} {ak : Bool} {E : Nat → Nat → Nat} {hd hv : Nat} {w : am_W} (hX : XI n k P C kn kk KP KC ak E hd hv w) (hW : XW n k P C kn kk KP KC E hd hv) {i : Nat} (hi : i < n) : am_Wp none m_X_of 2 0 0 0 [(0, .ref 0), (1, .int (nI i)), (2, .int 1)] [] w (am_R (some (.int (nI (C i)))) w) := by
  obtain ⟨hn, hk, hP, hC, hkn, hKP, hKC, hE, hh1, hh2, hrow, hpop, hlen⟩ := id hW
  refine wp_aload_n (q := 1) d_X_of_0 rfl rfl rfl ?_
  refine wp_iload_n (q := 2) d_X_of_1 rfl rfl rfl ?_
  refine wp_cV1r (q := 5) d_X_of_2 rfl bd_X_isPlace lk_X_113 im_X_isPlace se_X_isPlace rfl (Nat.le_of_ble_eq_true rfl) (Nat.le_of_ble_eq_true rfl) hX.1 (Nat.le_of_ble_eq_true rfl) (c_isPlace hX hn) ?_
  refine wp_if_ne (q := 8) (tgt := 11) d_X_of_5 (by decide) rfl (fun _ => ?_) (fun c5 => absurd c5 (by rw [pu_q_t ⟨i, hi, rfl⟩]; decide))
  refine wp_iload_n (q := 12) d_X_of_11 rfl rfl rfl ?_
  refine wp_tableIn (tgt := 58) (by decide) (by decide) (by rfl) (by decide) d_X_of_12 ?_
  refine wp_aload_n (q := 59) d_X_of_58 rfl rfl rfl ?_
  refine wp_get (q := 62) (k := 0) d_X_of_59 rfl ok_X (Nat.le_of_ble_eq_true rfl) fk_X_12 hX.1 rfl ?_
  refine wp_getN (q := 65) (k := 3) d_X_of_62 rfl ok_G (Nat.le_of_ble_eq_true rfl) fk_X_85 hX.2.1.1 rfl ?_
  refine wp_iload_n (q := 66) d_X_of_65 rfl rfl rfl ?_
  refine wp_ialoadN (q := 67) d_X_of_66 rfl hX.2.1.2.2 rfl (by omega) (by decide) ?_
  exact wp_ireturn rfl d_X_of_67 ⟨rfl, rfl⟩
set_option maxHeartbeats 4000000 in
set_option maxRecDepth 100000 in
theorem c_X_of2 {n k : Nat} {P C : Nat → Nat} {kn kk : Nat} {KP KC : Nat → Nat} {ak : Bool} {E : Nat → Nat → Nat} {hd hv : Nat} {w : am_W} (hX : XI n k P C kn kk KP KC ak E hd hv w) (hW : XW n k P C kn kk KP KC E hd hv) {i : Nat} (hi : i < n) : am_Wp none m_X_of 4 0 0 0 [(0, .ref 0), (1, .int (nI i)), (2, .int 2)] [] w (fun v w1 => v = some (.int (nI (pu_cl (pu_go C hd 0) 8 8 (pu_go C hd 0 i)))) ∧ am_fr DX w w1 ∧ XI n k P C kn kk KP KC ak E hd hv w1) := by
  obtain ⟨hn, hk, hP, hC, hkn, hKP, hKC, hE, hh1, hh2, hrow, hpop, hlen⟩ := id hW
  obtain ⟨⟨x1, x2, x3, x4, x5, x6, v17⟩, ⟨f18, v18⟩, f19, v19⟩ := hX.2.2.2.2.1
  refine wp_aload_n (q := 1) d_X_of_0 rfl rfl rfl ?_
  refine wp_iload_n (q := 2) d_X_of_1 rfl rfl rfl ?_
  refine wp_cV1r (q := 5) d_X_of_2 rfl bd_X_isPlace lk_X_113 im_X_isPlace se_X_isPlace rfl (Nat.le_of_ble_eq_true rfl) (Nat.le_of_ble_eq_true rfl) hX.1 (Nat.le_of_ble_eq_true rfl) (c_isPlace hX hn) ?_
  refine wp_if_ne (q := 8) (tgt := 11) d_X_of_5 (by decide) rfl (fun _ => ?_) (fun c5 => absurd c5 (by rw [pu_q_t ⟨i, hi, rfl⟩]; decide))
  refine wp_iload_n (q := 12) d_X_of_11 rfl rfl rfl ?_
  refine wp_tableIn (tgt := 68) (by decide) (by decide) (by rfl) (by decide) d_X_of_12 ?_
  refine wp_aload_n (q := 69) d_X_of_68 rfl rfl rfl ?_
  refine wp_get (q := 72) (k := 4) d_X_of_69 rfl ok_X (Nat.le_of_ble_eq_true rfl) fk_X_33 hX.1 rfl ?_
  refine wp_aload_n (q := 73) d_X_of_72 rfl rfl rfl ?_
  refine wp_get (q := 76) (k := 0) d_X_of_73 rfl ok_X (Nat.le_of_ble_eq_true rfl) fk_X_12 hX.1 rfl ?_
  refine wp_aload_n (q := 77) d_X_of_76 rfl rfl rfl ?_
  refine wp_get (q := 80) (k := 3) d_X_of_77 rfl ok_X (Nat.le_of_ble_eq_true rfl) fk_X_26 hX.1 rfl ?_
  refine wp_getN (q := 83) (k := 1) d_X_of_80 rfl ok_T (Nat.le_of_ble_eq_true rfl) fk_X_126 hX.2.2.2.1.1 rfl ?_
  refine wp_iconst (q := 84) (v := 0) d_X_of_83 rfl (by decide) ?_
  refine wp_cVN3g (q := 87) (bc1 := 0) (bs1 := 0) d_X_of_84 rfl bd_V_lookAt lk_X_129 im_V_lookAt se_V_lookAt rfl (Nat.le_of_ble_eq_true rfl) (Nat.le_of_ble_eq_true rfl) v17 (Nat.le_of_ble_eq_true rfl) (c_V_lookAt (no := 0) v17 hX.2.1 (by decide) (by decide) (by decide) hh1 (by decide) v18 v19) (fun v w1 hF => ?_)
  obtain ⟨rfl, f1, hI⟩ := hF
  have v17 := f1.at (by decide) v17
  have hX1 := hX.v (f1.up (by decide)) ⟨⟨_, _, _, _, _, _, v17⟩, ⟨_, hI.1⟩, _, hI.2⟩
  refine wp_aload_n (q := 88) d_X_of_87 rfl rfl rfl ?_
  refine wp_get (q := 91) (k := 4) d_X_of_88 rfl ok_X (Nat.le_of_ble_eq_true rfl) fk_X_33 hX1.1 rfl ?_
  refine wp_iload_n (q := 92) d_X_of_91 rfl rfl rfl ?_
  refine wp_cVN1r (q := 95) d_X_of_92 rfl bd_V_below lk_X_133 im_V_below se_V_below rfl (Nat.le_of_ble_eq_true rfl) (Nat.le_of_ble_eq_true rfl) v17 (Nat.le_of_ble_eq_true rfl) (c_V_below v17 hI (pu_gi_lt hP hd 0) (pu_go_lt hC hd 0) (by omega)) ?_
  exact wp_ireturn rfl d_X_of_95 ⟨rfl, f1.x (by decide), hX1⟩
set_option maxHeartbeats 4000000 in
set_option maxRecDepth 100000 in
theorem c_X_of3 {n k : Nat} {P C : Nat → Nat} {kn kk : Nat} {KP KC : Nat → Nat} {ak : Bool} {E : Nat → Nat → Nat} {hd hv : Nat} {w : am_W} (hX : XI n k P C kn kk KP KC ak E hd hv w) (hW : XW n k P C kn kk KP KC E hd hv) {i : Nat} (hi : i < n) : am_Wp none m_X_of 2 0 0 0 [(0, .ref 0), (1, .int (nI i)), (2, .int 3)] [] w (am_R (some (.int (pu_ha hd hv i))) w) := by
  obtain ⟨hn, hk, hP, hC, hkn, hKP, hKC, hE, hh1, hh2, hrow, hpop, hlen⟩ := id hW
  refine wp_aload_n (q := 1) d_X_of_0 rfl rfl rfl ?_
  refine wp_iload_n (q := 2) d_X_of_1 rfl rfl rfl ?_
  refine wp_cV1r (q := 5) d_X_of_2 rfl bd_X_isPlace lk_X_113 im_X_isPlace se_X_isPlace rfl (Nat.le_of_ble_eq_true rfl) (Nat.le_of_ble_eq_true rfl) hX.1 (Nat.le_of_ble_eq_true rfl) (c_isPlace hX hn) ?_
  refine wp_if_ne (q := 8) (tgt := 11) d_X_of_5 (by decide) rfl (fun _ => ?_) (fun c5 => absurd c5 (by rw [pu_q_t ⟨i, hi, rfl⟩]; decide))
  refine wp_iload_n (q := 12) d_X_of_11 rfl rfl rfl ?_
  refine wp_tableIn (tgt := 96) (by decide) (by decide) (by rfl) (by decide) d_X_of_12 ?_
  refine wp_aload_n (q := 97) d_X_of_96 rfl rfl rfl ?_
  refine wp_get (q := 100) (k := 3) d_X_of_97 rfl ok_X (Nat.le_of_ble_eq_true rfl) fk_X_26 hX.1 rfl ?_
  refine wp_iload_n (q := 101) d_X_of_100 rfl rfl rfl ?_
  refine wp_cVN1r (q := 104) d_X_of_101 rfl bd_T_heldAt lk_X_117 im_T_heldAt se_T_heldAt rfl (Nat.le_of_ble_eq_true rfl) (Nat.le_of_ble_eq_true rfl) hX.2.2.2.1.1 (Nat.le_of_ble_eq_true rfl) (c_T_heldAt hX.2.2.2.1 hh1 hh2 (by omega)) ?_
  exact wp_ireturn rfl d_X_of_104 ⟨rfl, rfl⟩
set_option maxHeartbeats 4000000 in
set_option maxRecDepth 100000 in
theorem c_X_of4 {n k : Nat} {P C : Nat → Nat} {kn kk : Nat} {KP KC : Nat → Nat} {ak : Bool} {E : Nat → Nat → Nat} {hd hv : Nat} {w : am_W} (hX : XI n k P C kn kk KP KC ak E hd hv w) (hW : XW n k P C kn kk KP KC E hd hv) {i : Nat} (hi : i < n) : am_Wp none m_X_of 2 0 0 0 [(0, .ref 0), (1, .int (nI i)), (2, .int 4)] [] w (am_R (some (.int (nI (2 ^ pu_pop 8 (P i))))) w) := by
  obtain ⟨hn, hk, hP, hC, hkn, hKP, hKC, hE, hh1, hh2, hrow, hpop, hlen⟩ := id hW
  refine wp_aload_n (q := 1) d_X_of_0 rfl rfl rfl ?_
  refine wp_iload_n (q := 2) d_X_of_1 rfl rfl rfl ?_
  refine wp_cV1r (q := 5) d_X_of_2 rfl bd_X_isPlace lk_X_113 im_X_isPlace se_X_isPlace rfl (Nat.le_of_ble_eq_true rfl) (Nat.le_of_ble_eq_true rfl) hX.1 (Nat.le_of_ble_eq_true rfl) (c_isPlace hX hn) ?_
  refine wp_if_ne (q := 8) (tgt := 11) d_X_of_5 (by decide) rfl (fun _ => ?_) (fun c5 => absurd c5 (by rw [pu_q_t ⟨i, hi, rfl⟩]; decide))
  refine wp_iload_n (q := 12) d_X_of_11 rfl rfl rfl ?_
  refine wp_tableIn (tgt := 105) (by decide) (by decide) (by rfl) (by decide) d_X_of_12 ?_
  refine wp_aload_n (q := 106) d_X_of_105 rfl rfl rfl ?_
  refine wp_get (q := 109) (k := 0) d_X_of_106 rfl ok_X (Nat.le_of_ble_eq_true rfl) fk_X_12 hX.1 rfl ?_
  refine wp_iload_n (q := 110) d_X_of_109 rfl rfl rfl ?_
  refine wp_cVN1r (q := 113) d_X_of_110 rfl bd_G_rows lk_X_136 im_G_rows se_G_rows rfl (Nat.le_of_ble_eq_true rfl) (Nat.le_of_ble_eq_true rfl) hX.2.1.1 (Nat.le_of_ble_eq_true rfl) (c_G_rows hX.2.1 hP (by omega)) ?_
  exact wp_ireturn rfl d_X_of_113 ⟨rfl, rfl⟩
set_option maxHeartbeats 4000000 in
set_option maxRecDepth 100000 in
theorem c_X_of_out {n k : Nat} {P C : Nat → Nat} {kn kk : Nat} {KP KC : Nat → Nat} {ak : Bool} {E : Nat → Nat → Nat} {hd hv : Nat} {w : am_W} (hX : XI n k P C kn kk KP KC ak E hd hv w) (hW : XW n k P C kn kk KP KC E hd hv) {i : Nat} (hi : i < n) {y : Int32} (hy : y.toInt < 0 ∨ 4 < y.toInt) : am_Wp none m_X_of 2 0 0 0 [(0, .ref 0), (1, .int (nI i)), (2, .int y)] [] w (am_R (some (.int (-2))) w) := by
  obtain ⟨hn, hk, hP, hC, hkn, hKP, hKC, hE, hh1, hh2, hrow, hpop, hlen⟩ := id hW
  refine wp_aload_n (q := 1) d_X_of_0 rfl rfl rfl ?_
  refine wp_iload_n (q := 2) d_X_of_1 rfl rfl rfl ?_
  refine wp_cV1r (q := 5) d_X_of_2 rfl bd_X_isPlace lk_X_113 im_X_isPlace se_X_isPlace rfl (Nat.le_of_ble_eq_true rfl) (Nat.le_of_ble_eq_true rfl) hX.1 (Nat.le_of_ble_eq_true rfl) (c_isPlace hX hn) ?_
  refine wp_if_ne (q := 8) (tgt := 11) d_X_of_5 (by decide) rfl (fun _ => ?_) (fun c5 => absurd c5 (by rw [pu_q_t ⟨i, hi, rfl⟩]; decide))
  refine wp_iload_n (q := 12) d_X_of_11 rfl rfl rfl ?_
  refine wp_tableOut (tgt := 114) hy (by decide) d_X_of_12 ?_
  refine wp_bipush (q := 116) (v := -2) d_X_of_114 rfl (by decide) ?_
  exact wp_ireturn rfl d_X_of_116 ⟨rfl, rfl⟩
set_option maxHeartbeats 4000000 in
set_option maxRecDepth 100000 in
theorem c_X_separated_bad {n k : Nat} {P C : Nat → Nat} {kn kk : Nat} {KP KC : Nat → Nat} {ak : Bool} {E : Nat → Nat → Nat} {hd hv : Nat} {w : am_W} (hX : XI n k P C kn kk KP KC ak E hd hv w) (hW : XW n k P C kn kk KP KC E hd hv) {x y s : Int32} (hb : ¬ QU n x y s) : am_Wp none m_X_separated 4 0 0 0 [(0, .ref 0), (1, .int x), (2, .int y), (3, .int s)] [] w (am_R (some (.int (-2))) w) := by
  obtain ⟨hn, hk, hP, hC, hkn, hKP, hKC, hE, hh1, hh2, hrow, hpop, hlen⟩ := id hW
  refine wp_aload_n (q := 1) d_X_separated_0 rfl rfl rfl ?_
  refine wp_iload_n (q := 2) d_X_separated_1 rfl rfl rfl ?_
  refine wp_iload_n (q := 3) d_X_separated_2 rfl rfl rfl ?_
  refine wp_iload_n (q := 4) d_X_separated_3 rfl rfl rfl ?_
  refine wp_cV3r (q := 7) d_X_separated_4 rfl bd_X_isQuestion lk_X_139 im_X_isQuestion se_X_isQuestion rfl (Nat.le_of_ble_eq_true rfl) (Nat.le_of_ble_eq_true rfl) hX.1 (Nat.le_of_ble_eq_true rfl) (c_isQuestion hX hn) ?_
  refine wp_if_ne (q := 10) (tgt := 13) d_X_separated_7 (by decide) rfl (fun c7 => absurd (pu_q_f hb) c7) (fun _ => ?_)
  refine wp_bipush (q := 12) (v := -2) d_X_separated_10 rfl (by decide) ?_
  exact wp_ireturn rfl d_X_separated_12 ⟨rfl, rfl⟩
set_option maxHeartbeats 4000000 in
set_option maxRecDepth 100000 in
theorem c_X_walk_bad {n k : Nat} {P C : Nat → Nat} {kn kk : Nat} {KP KC : Nat → Nat} {ak : Bool} {E : Nat → Nat → Nat} {hd hv : Nat} {w : am_W} (hX : XI n k P C kn kk KP KC ak E hd hv w) (hW : XW n k P C kn kk KP KC E hd hv) {x y s : Int32} (hb : ¬ QU n x y s) : am_Wp none m_X_walk 4 0 0 0 [(0, .ref 0), (1, .int x), (2, .int y), (3, .int s)] [] w (am_R (some (.int (-2))) w) := by
  obtain ⟨hn, hk, hP, hC, hkn, hKP, hKC, hE, hh1, hh2, hrow, hpop, hlen⟩ := id hW
  refine wp_aload_n (q := 1) d_X_walk_0 rfl rfl rfl ?_
  refine wp_iload_n (q := 2) d_X_walk_1 rfl rfl rfl ?_
  refine wp_iload_n (q := 3) d_X_walk_2 rfl rfl rfl ?_
  refine wp_iload_n (q := 4) d_X_walk_3 rfl rfl rfl ?_
  refine wp_cV3r (q := 7) d_X_walk_4 rfl bd_X_isQuestion lk_X_139 im_X_isQuestion se_X_isQuestion rfl (Nat.le_of_ble_eq_true rfl) (Nat.le_of_ble_eq_true rfl) hX.1 (Nat.le_of_ble_eq_true rfl) (c_isQuestion hX hn) ?_
  refine wp_if_ne (q := 10) (tgt := 13) d_X_walk_7 (by decide) rfl (fun c7 => absurd (pu_q_f hb) c7) (fun _ => ?_)
  refine wp_bipush (q := 12) (v := -2) d_X_walk_10 rfl (by decide) ?_
  exact wp_ireturn rfl d_X_walk_12 ⟨rfl, rfl⟩
set_option maxHeartbeats 4000000 in
set_option maxRecDepth 100000 in
theorem c_X_enough_bad {n k : Nat} {P C : Nat → Nat} {kn kk : Nat} {KP KC : Nat → Nat} {ak : Bool} {E : Nat → Nat → Nat} {hd hv : Nat} {w : am_W} (hX : XI n k P C kn kk KP KC ak E hd hv w) (hW : XW n k P C kn kk KP KC E hd hv) {x y s : Int32} (hb : ¬ QU n x y s) : am_Wp none m_X_enough 4 0 0 0 [(0, .ref 0), (1, .int x), (2, .int y), (3, .int s)] [] w (am_R (some (.int (-2))) w) := by
  obtain ⟨hn, hk, hP, hC, hkn, hKP, hKC, hE, hh1, hh2, hrow, hpop, hlen⟩ := id hW
  refine wp_aload_n (q := 1) d_X_enough_0 rfl rfl rfl ?_
  refine wp_iload_n (q := 2) d_X_enough_1 rfl rfl rfl ?_
  refine wp_iload_n (q := 3) d_X_enough_2 rfl rfl rfl ?_
  refine wp_iload_n (q := 4) d_X_enough_3 rfl rfl rfl ?_
  refine wp_cV3r (q := 7) d_X_enough_4 rfl bd_X_isQuestion lk_X_139 im_X_isQuestion se_X_isQuestion rfl (Nat.le_of_ble_eq_true rfl) (Nat.le_of_ble_eq_true rfl) hX.1 (Nat.le_of_ble_eq_true rfl) (c_isQuestion hX hn) ?_
  refine wp_if_ne (q := 10) (tgt := 13) d_X_enough_7 (by decide) rfl (fun c7 => absurd (pu_q_f hb) c7) (fun _ => ?_)
  refine wp_bipush (q := 12) (v := -2) d_X_enough_10 rfl (by decide) ?_
  exact wp_ireturn rfl d_X_enough_12 ⟨rfl, rfl⟩
set_option maxHeartbeats 4000000 in
set_option maxRecDepth 100000 in
theorem c_X_independent_bad {n k : Nat} {P C : Nat → Nat} {kn kk : Nat} {KP KC : Nat → Nat} {ak : Bool} {E : Nat → Nat → Nat} {hd hv : Nat} {w : am_W} (hX : XI n k P C kn kk KP KC ak E hd hv w) (hW : XW n k P C kn kk KP KC E hd hv) {x y s : Int32} (hb : ¬ QU n x y s) : am_Wp none m_X_independent 4 0 0 0 [(0, .ref 0), (1, .int x), (2, .int y), (3, .int s)] [] w (am_R (some (.int (-2))) w) := by
  obtain ⟨hn, hk, hP, hC, hkn, hKP, hKC, hE, hh1, hh2, hrow, hpop, hlen⟩ := id hW
  refine wp_aload_n (q := 1) d_X_independent_0 rfl rfl rfl ?_
  refine wp_iload_n (q := 2) d_X_independent_1 rfl rfl rfl ?_
  refine wp_iload_n (q := 3) d_X_independent_2 rfl rfl rfl ?_
  refine wp_iload_n (q := 4) d_X_independent_3 rfl rfl rfl ?_
  refine wp_cV3r (q := 7) d_X_independent_4 rfl bd_X_isQuestion lk_X_139 im_X_isQuestion se_X_isQuestion rfl (Nat.le_of_ble_eq_true rfl) (Nat.le_of_ble_eq_true rfl) hX.1 (Nat.le_of_ble_eq_true rfl) (c_isQuestion hX hn) ?_
  refine wp_if_ne (q := 10) (tgt := 13) d_X_independent_7 (by decide) rfl (fun c7 => absurd (pu_q_f hb) c7) (fun _ => ?_)
  refine wp_bipush (q := 12) (v := -2) d_X_independent_10 rfl (by decide) ?_
  exact wp_ireturn rfl d_X_independent_12 ⟨rfl, rfl⟩
set_option maxHeartbeats 4000000 in
set_option maxRecDepth 100000 in
theorem c_X_differ_bad {n k : Nat} {P C : Nat → Nat} {kn kk : Nat} {KP KC : Nat → Nat} {ak : Bool} {E : Nat → Nat → Nat} {hd hv : Nat} {w : am_W} (hX : XI n k P C kn kk KP KC ak E hd hv w) (hW : XW n k P C kn kk KP KC E hd hv) {x y s : Int32} (hb : ¬ QU n x y s) : am_Wp none m_X_differ 4 0 0 0 [(0, .ref 0), (1, .int x), (2, .int y), (3, .int s)] [] w (am_R (some (.int (-2))) w) := by
  obtain ⟨hn, hk, hP, hC, hkn, hKP, hKC, hE, hh1, hh2, hrow, hpop, hlen⟩ := id hW
  refine wp_aload_n (q := 1) d_X_differ_0 rfl rfl rfl ?_
  refine wp_iload_n (q := 2) d_X_differ_1 rfl rfl rfl ?_
  refine wp_iload_n (q := 3) d_X_differ_2 rfl rfl rfl ?_
  refine wp_iload_n (q := 4) d_X_differ_3 rfl rfl rfl ?_
  refine wp_cV3r (q := 7) d_X_differ_4 rfl bd_X_isQuestion lk_X_139 im_X_isQuestion se_X_isQuestion rfl (Nat.le_of_ble_eq_true rfl) (Nat.le_of_ble_eq_true rfl) hX.1 (Nat.le_of_ble_eq_true rfl) (c_isQuestion hX hn) ?_
  refine wp_if_eq (q := 10) (tgt := 20) d_X_differ_7 (by decide) rfl (fun _ => ?_) (fun c7 => absurd (pu_q_f hb) c7)
  refine wp_bipush (q := 22) (v := -2) d_X_differ_20 rfl (by decide) ?_
  exact wp_ireturn rfl d_X_differ_22 ⟨rfl, rfl⟩
set_option maxHeartbeats 4000000 in
set_option maxRecDepth 100000 in
theorem c_X_walk {n k : Nat} {P C : Nat → Nat} {kn kk : Nat} {KP KC : Nat → Nat} {ak : Bool} {E : Nat → Nat → Nat} {hd hv : Nat} {w : am_W} (hX : XI n k P C kn kk KP KC ak E hd hv w) (hW : XW n k P C kn kk KP KC E hd hv) {i j t : Nat} (hi : i < n) (hj : j < n) (hij : i ≠ j) (ht : t < 2 ^ n) (hti : t.testBit i = false) (htj : t.testBit j = false) : am_Wp none m_X_walk 5 0 0 0 [(0, .ref 0), (1, .int (nI i)), (2, .int (nI j)), (3, .int (nI t))] [] w (fun v w1 => v = some (.int (pu_wk P C hd 0 i j t)) ∧ am_fr DX w w1 ∧ XI n k P C kn kk KP KC ak E hd hv w1) := by
  obtain ⟨hn, hk, hP, hC, hkn, hKP, hKC, hE, hh1, hh2, hrow, hpop, hlen⟩ := id hW
  obtain ⟨⟨x1, x2, x3, x4, x5, x6, v17⟩, ⟨f18, v18⟩, f19, v19⟩ := hX.2.2.2.2.1
  have hp2 := pu_p2e hn
  refine wp_aload_n (q := 1) d_X_walk_0 rfl rfl rfl ?_
  refine wp_iload_n (q := 2) d_X_walk_1 rfl rfl rfl ?_
  refine wp_iload_n (q := 3) d_X_walk_2 rfl rfl rfl ?_
  refine wp_iload_n (q := 4) d_X_walk_3 rfl rfl rfl ?_
  refine wp_cV3r (q := 7) d_X_walk_4 rfl bd_X_isQuestion lk_X_139 im_X_isQuestion se_X_isQuestion rfl (Nat.le_of_ble_eq_true rfl) (Nat.le_of_ble_eq_true rfl) hX.1 (Nat.le_of_ble_eq_true rfl) (c_isQuestion hX hn) ?_
  refine wp_if_ne (q := 10) (tgt := 13) d_X_walk_7 (by decide) rfl (fun _ => ?_) (fun c7 => absurd c7 (by rw [pu_q_t ⟨i, j, t, hi, hj, hij, ht, rfl, rfl, rfl, hti, htj⟩]; decide))
  refine wp_aload_n (q := 14) d_X_walk_13 rfl rfl rfl ?_
  refine wp_get (q := 17) (k := 4) d_X_walk_14 rfl ok_X (Nat.le_of_ble_eq_true rfl) fk_X_33 hX.1 rfl ?_
  refine wp_aload_n (q := 18) d_X_walk_17 rfl rfl rfl ?_
  refine wp_get (q := 21) (k := 0) d_X_walk_18 rfl ok_X (Nat.le_of_ble_eq_true rfl) fk_X_12 hX.1 rfl ?_
  refine wp_aload_n (q := 22) d_X_walk_21 rfl rfl rfl ?_
  refine wp_get (q := 25) (k := 3) d_X_walk_22 rfl ok_X (Nat.le_of_ble_eq_true rfl) fk_X_26 hX.1 rfl ?_
  refine wp_getN (q := 28) (k := 1) d_X_walk_25 rfl ok_T (Nat.le_of_ble_eq_true rfl) fk_X_126 hX.2.2.2.1.1 rfl ?_
  refine wp_iconst (q := 29) (v := 0) d_X_walk_28 rfl (by decide) ?_
  refine wp_cVN3g (q := 32) (bc1 := 0) (bs1 := 0) d_X_walk_29 rfl bd_V_lookAt lk_X_129 im_V_lookAt se_V_lookAt rfl (Nat.le_of_ble_eq_true rfl) (Nat.le_of_ble_eq_true rfl) v17 (Nat.le_of_ble_eq_true rfl) (c_V_lookAt (no := 0) v17 hX.2.1 (by decide) (by decide) (by decide) hh1 (by decide) v18 v19) (fun v w1 hF => ?_)
  obtain ⟨rfl, f1, hI⟩ := hF
  have v17 := f1.at (by decide) v17
  have hX1 := hX.v (f1.up (by decide)) ⟨⟨_, _, _, _, _, _, v17⟩, ⟨_, hI.1⟩, _, hI.2⟩
  refine wp_aload_n (q := 33) d_X_walk_32 rfl rfl rfl ?_
  refine wp_get (q := 36) (k := 4) d_X_walk_33 rfl ok_X (Nat.le_of_ble_eq_true rfl) fk_X_33 hX1.1 rfl ?_
  refine wp_iload_n (q := 37) d_X_walk_36 rfl rfl rfl ?_
  refine wp_iload_n (q := 38) d_X_walk_37 rfl rfl rfl ?_
  refine wp_iload_n (q := 39) d_X_walk_38 rfl rfl rfl ?_
  refine wp_cVN3g (q := 42) (bc1 := 0) (bs1 := 0) d_X_walk_39 rfl bd_V_shortest lk_X_143 im_V_shortest se_V_shortest rfl (Nat.le_of_ble_eq_true rfl) (Nat.le_of_ble_eq_true rfl) v17 (Nat.le_of_ble_eq_true rfl) (c_V_shortest v17 hI (pu_gi_lt hP hd 0) (pu_go_lt hC hd 0) (i := i) (b := j) (s := t) (by omega) (by omega) (by omega)) (fun v w2 hF => ?_)
  obtain ⟨rfl, f2, hS2⟩ := hF
  have hX2 := hX1.v (f2.up (by decide)) hS2
  have f3 := (f1.x (by decide)).tr (f2.x (by decide))
  exact wp_ireturn rfl d_X_walk_42 ⟨rfl, f3, hX2⟩
set_option maxHeartbeats 4000000 in
set_option maxRecDepth 100000 in
theorem c_X_separated {n k : Nat} {P C : Nat → Nat} {kn kk : Nat} {KP KC : Nat → Nat} {ak : Bool} {E : Nat → Nat → Nat} {hd hv : Nat} {w : am_W} (hX : XI n k P C kn kk KP KC ak E hd hv w) (hW : XW n k P C kn kk KP KC E hd hv) {i j t : Nat} (hi : i < n) (hj : j < n) (hij : i ≠ j) (ht : t < 2 ^ n) (hti : t.testBit i = false) (htj : t.testBit j = false) : am_Wp none m_X_separated 5 0 0 0 [(0, .ref 0), (1, .int (nI i)), (2, .int (nI j)), (3, .int (nI t))] [] w (fun v w1 => v = some (.int (pu_q (pu_wk P C hd 0 i j t = -1))) ∧ am_fr DX w w1 ∧ XI n k P C kn kk KP KC ak E hd hv w1) := by
  obtain ⟨hn, hk, hP, hC, hkn, hKP, hKC, hE, hh1, hh2, hrow, hpop, hlen⟩ := id hW
  obtain ⟨⟨x1, x2, x3, x4, x5, x6, v17⟩, ⟨f18, v18⟩, f19, v19⟩ := hX.2.2.2.2.1
  have hp2 := pu_p2e hn
  refine wp_aload_n (q := 1) d_X_separated_0 rfl rfl rfl ?_
  refine wp_iload_n (q := 2) d_X_separated_1 rfl rfl rfl ?_
  refine wp_iload_n (q := 3) d_X_separated_2 rfl rfl rfl ?_
  refine wp_iload_n (q := 4) d_X_separated_3 rfl rfl rfl ?_
  refine wp_cV3r (q := 7) d_X_separated_4 rfl bd_X_isQuestion lk_X_139 im_X_isQuestion se_X_isQuestion rfl (Nat.le_of_ble_eq_true rfl) (Nat.le_of_ble_eq_true rfl) hX.1 (Nat.le_of_ble_eq_true rfl) (c_isQuestion hX hn) ?_
  refine wp_if_ne (q := 10) (tgt := 13) d_X_separated_7 (by decide) rfl (fun _ => ?_) (fun c7 => absurd c7 (by rw [pu_q_t ⟨i, j, t, hi, hj, hij, ht, rfl, rfl, rfl, hti, htj⟩]; decide))
  refine wp_aload_n (q := 14) d_X_separated_13 rfl rfl rfl ?_
  refine wp_get (q := 17) (k := 4) d_X_separated_14 rfl ok_X (Nat.le_of_ble_eq_true rfl) fk_X_33 hX.1 rfl ?_
  refine wp_aload_n (q := 18) d_X_separated_17 rfl rfl rfl ?_
  refine wp_get (q := 21) (k := 0) d_X_separated_18 rfl ok_X (Nat.le_of_ble_eq_true rfl) fk_X_12 hX.1 rfl ?_
  refine wp_aload_n (q := 22) d_X_separated_21 rfl rfl rfl ?_
  refine wp_get (q := 25) (k := 3) d_X_separated_22 rfl ok_X (Nat.le_of_ble_eq_true rfl) fk_X_26 hX.1 rfl ?_
  refine wp_getN (q := 28) (k := 1) d_X_separated_25 rfl ok_T (Nat.le_of_ble_eq_true rfl) fk_X_126 hX.2.2.2.1.1 rfl ?_
  refine wp_iconst (q := 29) (v := 0) d_X_separated_28 rfl (by decide) ?_
  refine wp_cVN3g (q := 32) (bc1 := 0) (bs1 := 0) d_X_separated_29 rfl bd_V_lookAt lk_X_129 im_V_lookAt se_V_lookAt rfl (Nat.le_of_ble_eq_true rfl) (Nat.le_of_ble_eq_true rfl) v17 (Nat.le_of_ble_eq_true rfl) (c_V_lookAt (no := 0) v17 hX.2.1 (by decide) (by decide) (by decide) hh1 (by decide) v18 v19) (fun v w1 hF => ?_)
  obtain ⟨rfl, f1, hI⟩ := hF
  have v17 := f1.at (by decide) v17
  have hX1 := hX.v (f1.up (by decide)) ⟨⟨_, _, _, _, _, _, v17⟩, ⟨_, hI.1⟩, _, hI.2⟩
  refine wp_aload_n (q := 33) d_X_separated_32 rfl rfl rfl ?_
  refine wp_get (q := 36) (k := 4) d_X_separated_33 rfl ok_X (Nat.le_of_ble_eq_true rfl) fk_X_33 hX1.1 rfl ?_
  refine wp_iload_n (q := 37) d_X_separated_36 rfl rfl rfl ?_
  refine wp_iload_n (q := 38) d_X_separated_37 rfl rfl rfl ?_
  refine wp_iload_n (q := 39) d_X_separated_38 rfl rfl rfl ?_
  refine wp_cVN3g (q := 42) (bc1 := 0) (bs1 := 0) d_X_separated_39 rfl bd_V_shortest lk_X_143 im_V_shortest se_V_shortest rfl (Nat.le_of_ble_eq_true rfl) (Nat.le_of_ble_eq_true rfl) v17 (Nat.le_of_ble_eq_true rfl) (c_V_shortest v17 hI (pu_gi_lt hP hd 0) (pu_go_lt hC hd 0) (i := i) (b := j) (s := t) (by omega) (by omega) (by omega)) (fun v w2 hF => ?_)
  obtain ⟨rfl, f2, hS2⟩ := hF
  have hX2 := hX1.v (f2.up (by decide)) hS2
  have f3 := (f1.x (by decide)).tr (f2.x (by decide))
  refine wp_iconst (q := 43) (v := -1) d_X_separated_42 rfl (by decide) ?_
  refine wp_icmp_ne (q := 46) (tgt := 50) d_X_separated_43 (by decide) rfl (fun c43 => ?_) (fun c43 => ?_)
  · refine wp_iconst (q := 51) (v := 0) d_X_separated_50 rfl (by decide) ?_
    refine wp_cS1r (q := 54) d_X_separated_51 rfl bd_X_answer lk_X_147 sm_X_answer (Nat.le_of_ble_eq_true rfl) (Nat.le_of_ble_eq_true rfl) (Nat.le_of_ble_eq_true rfl) (c_answer (b := false)) ?_
    exact wp_ireturn rfl d_X_separated_54 ⟨congrArg (fun z => some (Value.int z)) (pu_q_f c43).symm, f3, hX2⟩
  · refine wp_iconst (q := 47) (v := 1) d_X_separated_46 rfl (by decide) ?_
    refine wp_goto (tgt := 51) d_X_separated_47 (by decide) ?_
    refine wp_cS1r (q := 54) d_X_separated_51 rfl bd_X_answer lk_X_147 sm_X_answer (Nat.le_of_ble_eq_true rfl) (Nat.le_of_ble_eq_true rfl) (Nat.le_of_ble_eq_true rfl) (c_answer (b := true)) ?_
    exact wp_ireturn rfl d_X_separated_54 ⟨congrArg (fun z => some (Value.int z)) (pu_q_t c43).symm, f3, hX2⟩
set_option maxHeartbeats 4000000 in
set_option maxRecDepth 100000 in
theorem c_X_enough0 {n k : Nat} {P C : Nat → Nat} {kn kk : Nat} {KP KC : Nat → Nat} {ak : Bool} {E : Nat → Nat → Nat} {hd hv : Nat} {w : am_W} (hX : XI n k P C kn kk KP KC ak E hd hv w) (hW : XW n k P C kn kk KP KC E hd hv) {i j t : Nat} (hi : i < n) (hj : j < n) (hij : i ≠ j) (ht : t < 2 ^ n) (hti : t.testBit i = false) (htj : t.testBit j = false) (h0 : ¬ (pu_cl (pu_go C hd 0) 8 8 (pu_go C hd 0 i) &&& t = 0)) : am_Wp none m_X_enough 5 0 0 0 [(0, .ref 0), (1, .int (nI i)), (2, .int (nI j)), (3, .int (nI t))] [] w (fun v w1 => v = some (.int (0)) ∧ am_fr DX w w1 ∧ XI n k P C kn kk KP KC ak E hd hv w1) := by
  obtain ⟨hn, hk, hP, hC, hkn, hKP, hKC, hE, hh1, hh2, hrow, hpop, hlen⟩ := id hW
  obtain ⟨⟨x1, x2, x3, x4, x5, x6, v17⟩, ⟨f18, v18⟩, f19, v19⟩ := hX.2.2.2.2.1
  have hp2 := pu_p2e hn
  refine wp_aload_n (q := 1) d_X_enough_0 rfl rfl rfl ?_
  refine wp_iload_n (q := 2) d_X_enough_1 rfl rfl rfl ?_
  refine wp_iload_n (q := 3) d_X_enough_2 rfl rfl rfl ?_
  refine wp_iload_n (q := 4) d_X_enough_3 rfl rfl rfl ?_
  refine wp_cV3r (q := 7) d_X_enough_4 rfl bd_X_isQuestion lk_X_139 im_X_isQuestion se_X_isQuestion rfl (Nat.le_of_ble_eq_true rfl) (Nat.le_of_ble_eq_true rfl) hX.1 (Nat.le_of_ble_eq_true rfl) (c_isQuestion hX hn) ?_
  refine wp_if_ne (q := 10) (tgt := 13) d_X_enough_7 (by decide) rfl (fun _ => ?_) (fun c7 => absurd c7 (by rw [pu_q_t ⟨i, j, t, hi, hj, hij, ht, rfl, rfl, rfl, hti, htj⟩]; decide))
  refine wp_aload_n (q := 14) d_X_enough_13 rfl rfl rfl ?_
  refine wp_get (q := 17) (k := 4) d_X_enough_14 rfl ok_X (Nat.le_of_ble_eq_true rfl) fk_X_33 hX.1 rfl ?_
  refine wp_aload_n (q := 18) d_X_enough_17 rfl rfl rfl ?_
  refine wp_get (q := 21) (k := 0) d_X_enough_18 rfl ok_X (Nat.le_of_ble_eq_true rfl) fk_X_12 hX.1 rfl ?_
  refine wp_aload_n (q := 22) d_X_enough_21 rfl rfl rfl ?_
  refine wp_get (q := 25) (k := 3) d_X_enough_22 rfl ok_X (Nat.le_of_ble_eq_true rfl) fk_X_26 hX.1 rfl ?_
  refine wp_getN (q := 28) (k := 1) d_X_enough_25 rfl ok_T (Nat.le_of_ble_eq_true rfl) fk_X_126 hX.2.2.2.1.1 rfl ?_
  refine wp_iconst (q := 29) (v := 0) d_X_enough_28 rfl (by decide) ?_
  refine wp_cVN3g (q := 32) (bc1 := 0) (bs1 := 0) d_X_enough_29 rfl bd_V_lookAt lk_X_129 im_V_lookAt se_V_lookAt rfl (Nat.le_of_ble_eq_true rfl) (Nat.le_of_ble_eq_true rfl) v17 (Nat.le_of_ble_eq_true rfl) (c_V_lookAt (no := 0) v17 hX.2.1 (by decide) (by decide) (by decide) hh1 (by decide) v18 v19) (fun v w1 hF => ?_)
  obtain ⟨rfl, f1, hI⟩ := hF
  have v17 := f1.at (by decide) v17
  have hX1 := hX.v (f1.up (by decide)) ⟨⟨_, _, _, _, _, _, v17⟩, ⟨_, hI.1⟩, _, hI.2⟩
  refine wp_aload_n (q := 33) d_X_enough_32 rfl rfl rfl ?_
  refine wp_get (q := 36) (k := 4) d_X_enough_33 rfl ok_X (Nat.le_of_ble_eq_true rfl) fk_X_33 hX1.1 rfl ?_
  refine wp_iload_n (q := 37) d_X_enough_36 rfl rfl rfl ?_
  refine wp_cVN1r (q := 40) d_X_enough_37 rfl bd_V_below lk_X_133 im_V_below se_V_below rfl (Nat.le_of_ble_eq_true rfl) (Nat.le_of_ble_eq_true rfl) v17 (Nat.le_of_ble_eq_true rfl) (c_V_below v17 hI (pu_gi_lt hP hd 0) (pu_go_lt hC hd 0) (by omega)) ?_
  refine wp_iload_n (q := 41) d_X_enough_40 rfl rfl rfl ?_
  refine wp_iand (q := 42) d_X_enough_41 rfl ?_
  rw [pu_and]
  refine wp_if_eq (q := 45) (tgt := 47) d_X_enough_42 (by decide) rfl (fun c42 => absurd c42 (fun e => h0 (pu_nI_inj (Nat.lt_of_le_of_lt Nat.and_le_right (by omega)) (by decide) (e.trans nI_0.symm)))) (fun _ => ?_)
  refine wp_iconst (q := 46) (v := 0) d_X_enough_45 rfl (by decide) ?_
  exact wp_ireturn rfl d_X_enough_46 ⟨rfl, f1.x (by decide), hX1⟩
set_option maxHeartbeats 4000000 in
set_option maxRecDepth 100000 in
theorem c_X_enough1 {n k : Nat} {P C : Nat → Nat} {kn kk : Nat} {KP KC : Nat → Nat} {ak : Bool} {E : Nat → Nat → Nat} {hd hv : Nat} {w : am_W} (hX : XI n k P C kn kk KP KC ak E hd hv w) (hW : XW n k P C kn kk KP KC E hd hv) {i j t : Nat} (hi : i < n) (hj : j < n) (hij : i ≠ j) (ht : t < 2 ^ n) (hti : t.testBit i = false) (htj : t.testBit j = false) (h0 : pu_cl (pu_go C hd 0) 8 8 (pu_go C hd 0 i) &&& t = 0) : am_Wp none m_X_enough 5 0 0 0 [(0, .ref 0), (1, .int (nI i)), (2, .int (nI j)), (3, .int (nI t))] [] w (fun v w1 => v = some (.int (pu_q (pu_wk P C hd (2 ^ i) i j t = -1))) ∧ am_fr DX w w1 ∧ XI n k P C kn kk KP KC ak E hd hv w1) := by
  obtain ⟨hn, hk, hP, hC, hkn, hKP, hKC, hE, hh1, hh2, hrow, hpop, hlen⟩ := id hW
  obtain ⟨⟨x1, x2, x3, x4, x5, x6, v17⟩, ⟨f18, v18⟩, f19, v19⟩ := hX.2.2.2.2.1
  have hp2 := pu_p2e hn
  refine wp_aload_n (q := 1) d_X_enough_0 rfl rfl rfl ?_
  refine wp_iload_n (q := 2) d_X_enough_1 rfl rfl rfl ?_
  refine wp_iload_n (q := 3) d_X_enough_2 rfl rfl rfl ?_
  refine wp_iload_n (q := 4) d_X_enough_3 rfl rfl rfl ?_
  refine wp_cV3r (q := 7) d_X_enough_4 rfl bd_X_isQuestion lk_X_139 im_X_isQuestion se_X_isQuestion rfl (Nat.le_of_ble_eq_true rfl) (Nat.le_of_ble_eq_true rfl) hX.1 (Nat.le_of_ble_eq_true rfl) (c_isQuestion hX hn) ?_
  refine wp_if_ne (q := 10) (tgt := 13) d_X_enough_7 (by decide) rfl (fun _ => ?_) (fun c7 => absurd c7 (by rw [pu_q_t ⟨i, j, t, hi, hj, hij, ht, rfl, rfl, rfl, hti, htj⟩]; decide))
  refine wp_aload_n (q := 14) d_X_enough_13 rfl rfl rfl ?_
  refine wp_get (q := 17) (k := 4) d_X_enough_14 rfl ok_X (Nat.le_of_ble_eq_true rfl) fk_X_33 hX.1 rfl ?_
  refine wp_aload_n (q := 18) d_X_enough_17 rfl rfl rfl ?_
  refine wp_get (q := 21) (k := 0) d_X_enough_18 rfl ok_X (Nat.le_of_ble_eq_true rfl) fk_X_12 hX.1 rfl ?_
  refine wp_aload_n (q := 22) d_X_enough_21 rfl rfl rfl ?_
  refine wp_get (q := 25) (k := 3) d_X_enough_22 rfl ok_X (Nat.le_of_ble_eq_true rfl) fk_X_26 hX.1 rfl ?_
  refine wp_getN (q := 28) (k := 1) d_X_enough_25 rfl ok_T (Nat.le_of_ble_eq_true rfl) fk_X_126 hX.2.2.2.1.1 rfl ?_
  refine wp_iconst (q := 29) (v := 0) d_X_enough_28 rfl (by decide) ?_
  refine wp_cVN3g (q := 32) (bc1 := 0) (bs1 := 0) d_X_enough_29 rfl bd_V_lookAt lk_X_129 im_V_lookAt se_V_lookAt rfl (Nat.le_of_ble_eq_true rfl) (Nat.le_of_ble_eq_true rfl) v17 (Nat.le_of_ble_eq_true rfl) (c_V_lookAt (no := 0) v17 hX.2.1 (by decide) (by decide) (by decide) hh1 (by decide) v18 v19) (fun v w1 hF => ?_)
  obtain ⟨rfl, f1, hI⟩ := hF
  have v17 := f1.at (by decide) v17
  have hX1 := hX.v (f1.up (by decide)) ⟨⟨_, _, _, _, _, _, v17⟩, ⟨_, hI.1⟩, _, hI.2⟩
  refine wp_aload_n (q := 33) d_X_enough_32 rfl rfl rfl ?_
  refine wp_get (q := 36) (k := 4) d_X_enough_33 rfl ok_X (Nat.le_of_ble_eq_true rfl) fk_X_33 hX1.1 rfl ?_
  refine wp_iload_n (q := 37) d_X_enough_36 rfl rfl rfl ?_
  refine wp_cVN1r (q := 40) d_X_enough_37 rfl bd_V_below lk_X_133 im_V_below se_V_below rfl (Nat.le_of_ble_eq_true rfl) (Nat.le_of_ble_eq_true rfl) v17 (Nat.le_of_ble_eq_true rfl) (c_V_below v17 hI (pu_gi_lt hP hd 0) (pu_go_lt hC hd 0) (by omega)) ?_
  refine wp_iload_n (q := 41) d_X_enough_40 rfl rfl rfl ?_
  refine wp_iand (q := 42) d_X_enough_41 rfl ?_
  rw [pu_and]
  refine wp_if_eq (q := 45) (tgt := 47) d_X_enough_42 (by decide) rfl (fun _ => ?_) (fun c42 => absurd (by rw [h0]; exact nI_0) c42)
  refine wp_aload_n (q := 48) d_X_enough_47 rfl rfl rfl ?_
  refine wp_get (q := 51) (k := 4) d_X_enough_48 rfl ok_X (Nat.le_of_ble_eq_true rfl) fk_X_33 hX1.1 rfl ?_
  refine wp_aload_n (q := 52) d_X_enough_51 rfl rfl rfl ?_
  refine wp_get (q := 55) (k := 0) d_X_enough_52 rfl ok_X (Nat.le_of_ble_eq_true rfl) fk_X_12 hX1.1 rfl ?_
  refine wp_aload_n (q := 56) d_X_enough_55 rfl rfl rfl ?_
  refine wp_get (q := 59) (k := 3) d_X_enough_56 rfl ok_X (Nat.le_of_ble_eq_true rfl) fk_X_26 hX1.1 rfl ?_
  refine wp_getN (q := 62) (k := 1) d_X_enough_59 rfl ok_T (Nat.le_of_ble_eq_true rfl) fk_X_126 hX1.2.2.2.1.1 rfl ?_
  refine wp_iload_n (q := 63) d_X_enough_62 rfl rfl rfl ?_
  refine wp_cS1r (q := 66) d_X_enough_63 rfl bd_X_bit lk_X_89 sm_X_bit (Nat.le_of_ble_eq_true rfl) (Nat.le_of_ble_eq_true rfl) (Nat.le_of_ble_eq_true rfl) (c_bit (by omega)) ?_
  refine wp_cVN3g (q := 69) (bc1 := 0) (bs1 := 0) d_X_enough_66 rfl bd_V_lookAt lk_X_129 im_V_lookAt se_V_lookAt rfl (Nat.le_of_ble_eq_true rfl) (Nat.le_of_ble_eq_true rfl) v17 (Nat.le_of_ble_eq_true rfl) (c_V_lookAt (no := 2 ^ i) v17 hX1.2.1 (by decide) (by decide) (by decide) hh1 (pu_p2 (by omega)) hI.1 hI.2) (fun v w2 hF => ?_)
  obtain ⟨rfl, f2, hI2⟩ := hF
  have v17 := f2.at (by decide) v17
  have hX2 := hX1.v (f2.up (by decide)) ⟨⟨_, _, _, _, _, _, v17⟩, ⟨_, hI2.1⟩, _, hI2.2⟩
  refine wp_aload_n (q := 70) d_X_enough_69 rfl rfl rfl ?_
  refine wp_get (q := 73) (k := 4) d_X_enough_70 rfl ok_X (Nat.le_of_ble_eq_true rfl) fk_X_33 hX2.1 rfl ?_
  refine wp_iload_n (q := 74) d_X_enough_73 rfl rfl rfl ?_
  refine wp_iload_n (q := 75) d_X_enough_74 rfl rfl rfl ?_
  refine wp_iload_n (q := 76) d_X_enough_75 rfl rfl rfl ?_
  refine wp_cVN3g (q := 79) (bc1 := 0) (bs1 := 0) d_X_enough_76 rfl bd_V_shortest lk_X_143 im_V_shortest se_V_shortest rfl (Nat.le_of_ble_eq_true rfl) (Nat.le_of_ble_eq_true rfl) v17 (Nat.le_of_ble_eq_true rfl) (c_V_shortest v17 hI2 (pu_gi_lt hP hd (2 ^ i)) (pu_go_lt hC hd (2 ^ i)) (i := i) (b := j) (s := t) (by omega) (by omega) (by omega)) (fun v w3 hF => ?_)
  obtain ⟨rfl, f3, hS3⟩ := hF
  have hX3 := hX2.v (f3.up (by decide)) hS3
  have f4 := ((f1.x (by decide)).tr (f2.x (by decide))).tr (f3.x (by decide))
  refine wp_iconst (q := 80) (v := -1) d_X_enough_79 rfl (by decide) ?_
  refine wp_icmp_ne (q := 83) (tgt := 87) d_X_enough_80 (by decide) rfl (fun c80 => ?_) (fun c80 => ?_)
  · refine wp_iconst (q := 88) (v := 0) d_X_enough_87 rfl (by decide) ?_
    refine wp_cS1r (q := 91) d_X_enough_88 rfl bd_X_answer lk_X_147 sm_X_answer (Nat.le_of_ble_eq_true rfl) (Nat.le_of_ble_eq_true rfl) (Nat.le_of_ble_eq_true rfl) (c_answer (b := false)) ?_
    exact wp_ireturn rfl d_X_enough_91 ⟨congrArg (fun z => some (Value.int z)) (pu_q_f c80).symm, f4, hX3⟩
  · refine wp_iconst (q := 84) (v := 1) d_X_enough_83 rfl (by decide) ?_
    refine wp_goto (tgt := 88) d_X_enough_84 (by decide) ?_
    refine wp_cS1r (q := 91) d_X_enough_88 rfl bd_X_answer lk_X_147 sm_X_answer (Nat.le_of_ble_eq_true rfl) (Nat.le_of_ble_eq_true rfl) (Nat.le_of_ble_eq_true rfl) (c_answer (b := true)) ?_
    exact wp_ireturn rfl d_X_enough_91 ⟨congrArg (fun z => some (Value.int z)) (pu_q_t c80).symm, f4, hX3⟩
set_option maxHeartbeats 4000000 in
set_option maxRecDepth 100000 in
theorem c_X_keep {n k : Nat} {P C : Nat → Nat} {kn kk : Nat} {KP KC : Nat → Nat} {ak : Bool} {E : Nat → Nat → Nat} {hd hv : Nat} {w : am_W} (hX : XI n k P C kn kk KP KC ak E hd hv w) (hW : XW n k P C kn kk KP KC E hd hv) : am_Wp none m_X_keep 2 0 0 0 [(0, .ref 0)] [] w (fun v w1 => v = some (.int (nI k)) ∧ am_fr DX w w1 ∧ XI n k P C n k P C true E hd hv w1) := by
  obtain ⟨hn, hk, hP, hC, hkn, hKP, hKC, hE, hh1, hh2, hrow, hpop, hlen⟩ := id hW
  refine wp_aload_n (q := 1) d_X_keep_0 rfl rfl rfl ?_
  refine wp_get (q := 4) (k := 1) d_X_keep_1 rfl ok_X (Nat.le_of_ble_eq_true rfl) fk_X_16 hX.1 rfl ?_
  refine wp_aload_n (q := 5) d_X_keep_4 rfl rfl rfl ?_
  refine wp_get (q := 8) (k := 0) d_X_keep_5 rfl ok_X (Nat.le_of_ble_eq_true rfl) fk_X_12 hX.1 rfl ?_
  refine wp_cVN1g (q := 11) (bc1 := 0) (bs1 := 0) d_X_keep_8 rfl bd_G_copy lk_X_170 im_G_copy se_G_copy rfl (Nat.le_of_ble_eq_true rfl) (Nat.le_of_ble_eq_true rfl) hX.2.2.1.1 (Nat.le_of_ble_eq_true rfl) (c_G_copy hX.2.2.1 hX.2.1 (by decide) (by decide) (by decide) (by decide) (by decide) (by decide)) (fun v w1 hF => ?_)
  obtain ⟨rfl, f1, hG1⟩ := hF
  have hX1 := hX.kp f1 hG1
  refine wp_aload_n (q := 12) d_X_keep_11 rfl rfl rfl ?_
  refine wp_iconst (q := 13) (v := 1) d_X_keep_12 rfl (by decide) ?_
  refine wp_put (q := 16) (k := 2) d_X_keep_13 rfl ok_X (Nat.le_of_ble_eq_true rfl) fk_X_19 rfl (am_fit_b (b := true)) hX1.1 (Nat.le_of_ble_eq_true rfl) rfl ?_
  have hX2 := hX1.o (b := true) (w1 := w1.set 0 (.inr (0, [.ref 1, .ref 4, .int (pu_b true), .ref 7, .ref 17, .ref 20, .ref 27, .ref 29, .ref 31, .ref 33]))) (am_fr.rf.put (by simp)) (am_at_eq hX1.1)
  have f2 := (f1.x (by decide)).tr ((am_fr.rf.put (D := [0]) (w := w1) (a := 0) (c := .inr (0, [.ref 1, .ref 4, .int (pu_b true), .ref 7, .ref 17, .ref 20, .ref 27, .ref 29, .ref 31, .ref 33])) (by simp)).x (by decide))
  show am_Wp _ _ _ _ _ _ _ _ (w1.set 0 (.inr (0, [.ref 1, .ref 4, .int (pu_b true), .ref 7, .ref 17, .ref 20, .ref 27, .ref 29, .ref 31, .ref 33]))) _
  generalize (w1.set 0 (.inr (0, [.ref 1, .ref 4, .int (pu_b true), .ref 7, .ref 17, .ref 20, .ref 27, .ref 29, .ref 31, .ref 33]))) = w2 at hX2 f2 ⊢
  refine wp_aload_n (q := 17) d_X_keep_16 rfl rfl rfl ?_
  refine wp_get (q := 20) (k := 1) d_X_keep_17 rfl ok_X (Nat.le_of_ble_eq_true rfl) fk_X_16 hX2.1 rfl ?_
  refine wp_getN (q := 23) (k := 1) d_X_keep_20 rfl ok_G (Nat.le_of_ble_eq_true rfl) fk_X_96 hX2.2.2.1.1 rfl ?_
  exact wp_ireturn rfl d_X_keep_23 ⟨rfl, f2, hX2⟩
set_option maxHeartbeats 4000000 in
set_option maxRecDepth 100000 in
theorem c_X_alike_none {n k : Nat} {P C : Nat → Nat} {kn kk : Nat} {KP KC : Nat → Nat} {ak : Bool} {E : Nat → Nat → Nat} {hd hv : Nat} {w : am_W} (hX : XI n k P C kn kk KP KC ak E hd hv w) (hW : XW n k P C kn kk KP KC E hd hv) (hb : ¬ (ak = true ∧ kn = n)) : am_Wp none m_X_alike 2 0 0 0 [(0, .ref 0)] [] w (am_R (some (.int (-1))) w) := by
  obtain ⟨hn, hk, hP, hC, hkn, hKP, hKC, hE, hh1, hh2, hrow, hpop, hlen⟩ := id hW
  refine wp_aload_n (q := 1) d_X_alike_0 rfl rfl rfl ?_
  refine wp_get (q := 4) (k := 2) d_X_alike_1 rfl ok_X (Nat.le_of_ble_eq_true rfl) fk_X_19 hX.1 rfl ?_
  refine wp_if_eq (q := 7) (tgt := 24) d_X_alike_4 (by decide) rfl (fun c4 => ?_) (fun c4 => ?_)
  · refine wp_iconst (q := 25) (v := -1) d_X_alike_24 rfl (by decide) ?_
    exact wp_ireturn rfl d_X_alike_25 ⟨rfl, rfl⟩
  · refine wp_aload_n (q := 8) d_X_alike_7 rfl rfl rfl ?_
    refine wp_get (q := 11) (k := 1) d_X_alike_8 rfl ok_X (Nat.le_of_ble_eq_true rfl) fk_X_16 hX.1 rfl ?_
    refine wp_getN (q := 14) (k := 0) d_X_alike_11 rfl ok_G (Nat.le_of_ble_eq_true rfl) fk_X_60 hX.2.2.1.1 rfl ?_
    refine wp_aload_n (q := 15) d_X_alike_14 rfl rfl rfl ?_
    refine wp_get (q := 18) (k := 0) d_X_alike_15 rfl ok_X (Nat.le_of_ble_eq_true rfl) fk_X_12 hX.1 rfl ?_
    refine wp_getN (q := 21) (k := 0) d_X_alike_18 rfl ok_G (Nat.le_of_ble_eq_true rfl) fk_X_60 hX.2.1.1 rfl ?_
    refine wp_icmp_eq (q := 24) (tgt := 26) d_X_alike_21 (by decide) rfl (fun c21 => absurd c21 (fun e => hb ⟨pu_b1 c4, pu_nI_inj (by omega) (by omega) e⟩)) (fun _ => ?_)
    refine wp_iconst (q := 25) (v := -1) d_X_alike_24 rfl (by decide) ?_
    exact wp_ireturn rfl d_X_alike_25 ⟨rfl, rfl⟩
set_option maxHeartbeats 4000000 in
set_option maxRecDepth 100000 in
theorem c_X_alike {n k : Nat} {P C : Nat → Nat} {kn kk : Nat} {KP KC : Nat → Nat} {ak : Bool} {E : Nat → Nat → Nat} {hd hv : Nat} {w : am_W} (hX : XI n k P C kn kk KP KC ak E hd hv w) (hW : XW n k P C kn kk KP KC E hd hv) (hak : ak = true) (hkn2 : kn = n) : am_Wp none m_X_alike 4 0 0 0 [(0, .ref 0)] [] w (am_R (some (.int (pu_q (∀ x, x < n → (P x ||| C x = KP x ||| KC x ∧ ∀ q, q < n → pu_st P C q x = pu_st KP KC q x))))) w) := by
  obtain ⟨hn, hk, hP, hC, hkn, hKP, hKC, hE, hh1, hh2, hrow, hpop, hlen⟩ := id hW
  refine wp_aload_n (q := 1) d_X_alike_0 rfl rfl rfl ?_
  refine wp_get (q := 4) (k := 2) d_X_alike_1 rfl ok_X (Nat.le_of_ble_eq_true rfl) fk_X_19 hX.1 rfl ?_
  refine wp_if_eq (q := 7) (tgt := 24) d_X_alike_4 (by decide) rfl (fun c4 => absurd c4 (by rw [hak]; decide)) (fun _ => ?_)
  refine wp_aload_n (q := 8) d_X_alike_7 rfl rfl rfl ?_
  refine wp_get (q := 11) (k := 1) d_X_alike_8 rfl ok_X (Nat.le_of_ble_eq_true rfl) fk_X_16 hX.1 rfl ?_
  refine wp_getN (q := 14) (k := 0) d_X_alike_11 rfl ok_G (Nat.le_of_ble_eq_true rfl) fk_X_60 hX.2.2.1.1 rfl ?_
  refine wp_aload_n (q := 15) d_X_alike_14 rfl rfl rfl ?_
  refine wp_get (q := 18) (k := 0) d_X_alike_15 rfl ok_X (Nat.le_of_ble_eq_true rfl) fk_X_12 hX.1 rfl ?_
  refine wp_getN (q := 21) (k := 0) d_X_alike_18 rfl ok_G (Nat.le_of_ble_eq_true rfl) fk_X_60 hX.2.1.1 rfl ?_
  refine wp_icmp_eq (q := 24) (tgt := 26) d_X_alike_21 (by decide) rfl (fun _ => ?_) (fun c21 => absurd (by rw [hkn2]) c21)
  refine wp_aload_n (q := 27) d_X_alike_26 rfl rfl rfl ?_
  refine wp_get (q := 30) (k := 0) d_X_alike_27 rfl ok_X (Nat.le_of_ble_eq_true rfl) fk_X_12 hX.1 rfl ?_
  refine wp_aload_n (q := 31) d_X_alike_30 rfl rfl rfl ?_
  refine wp_get (q := 34) (k := 1) d_X_alike_31 rfl ok_X (Nat.le_of_ble_eq_true rfl) fk_X_16 hX.1 rfl ?_
  refine wp_cVN1g (q := 37) (bc1 := 0) (bs1 := 0) d_X_alike_34 rfl bd_G_tellsTheSameAs lk_X_174 im_G_tellsTheSameAs se_G_tellsTheSameAs rfl (Nat.le_of_ble_eq_true rfl) (Nat.le_of_ble_eq_true rfl) hX.2.1.1 (Nat.le_of_ble_eq_true rfl) (c_G_tells hX.2.1 hX.2.2.1 hn hP hC hKP hKC) (fun v w1 hF => ?_)
  obtain ⟨b, rfl, hb, rfl⟩ := hF
  refine wp_cS1r (q := 40) d_X_alike_37 rfl bd_X_answer lk_X_147 sm_X_answer (Nat.le_of_ble_eq_true rfl) (Nat.le_of_ble_eq_true rfl) (Nat.le_of_ble_eq_true rfl) (c_answer) ?_
  exact wp_ireturn rfl d_X_alike_40 ⟨by cases b with | true => rw [pu_q_t (hb.mp rfl)]; rfl | false => rw [pu_q_f (fun e => absurd (hb.mpr e) (by decide))]; rfl, rfl⟩
set_option maxHeartbeats 4000000 in
set_option maxRecDepth 100000 in
theorem c_X_settled_bad {n k : Nat} {P C : Nat → Nat} {kn kk : Nat} {KP KC : Nat → Nat} {ak : Bool} {E : Nat → Nat → Nat} {hd hv : Nat} {w : am_W} (hX : XI n k P C kn kk KP KC ak E hd hv w) (hW : XW n k P C kn kk KP KC E hd hv) {x y : Int32} (hb : ¬ PR n x y) : am_Wp none m_X_settled 2 0 0 0 [(0, .ref 0), (1, .int x), (2, .int y)] [] w (am_R (some (.int (-2))) w) := by
  obtain ⟨hn, hk, hP, hC, hkn, hKP, hKC, hE, hh1, hh2, hrow, hpop, hlen⟩ := id hW
  refine wp_aload_n (q := 1) d_X_settled_0 rfl rfl rfl ?_
  refine wp_iload_n (q := 2) d_X_settled_1 rfl rfl rfl ?_
  refine wp_iload_n (q := 3) d_X_settled_2 rfl rfl rfl ?_
  refine wp_cV2r (q := 6) d_X_settled_3 rfl bd_X_isPair lk_X_74 im_X_isPair se_X_isPair rfl (Nat.le_of_ble_eq_true rfl) (Nat.le_of_ble_eq_true rfl) hX.1 (Nat.le_of_ble_eq_true rfl) (c_isPair hX hn) ?_
  refine wp_if_ne (q := 9) (tgt := 12) d_X_settled_6 (by decide) rfl (fun c6 => absurd (pu_q_f hb) c6) (fun _ => ?_)
  refine wp_bipush (q := 11) (v := -2) d_X_settled_9 rfl (by decide) ?_
  exact wp_ireturn rfl d_X_settled_11 ⟨rfl, rfl⟩
set_option maxHeartbeats 4000000 in
set_option maxRecDepth 100000 in
theorem c_X_settled_none {n k : Nat} {P C : Nat → Nat} {kn kk : Nat} {KP KC : Nat → Nat} {ak : Bool} {E : Nat → Nat → Nat} {hd hv : Nat} {w : am_W} (hX : XI n k P C kn kk KP KC ak E hd hv w) (hW : XW n k P C kn kk KP KC E hd hv) {i j : Nat} (hi : i < n) (hj : j < n) (hij : i ≠ j) (h1 : (C i).testBit j = false) : am_Wp none m_X_settled 2 0 0 0 [(0, .ref 0), (1, .int (nI i)), (2, .int (nI j))] [] w (am_R (some (.int (-1))) w) := by
  obtain ⟨hn, hk, hP, hC, hkn, hKP, hKC, hE, hh1, hh2, hrow, hpop, hlen⟩ := id hW
  refine wp_aload_n (q := 1) d_X_settled_0 rfl rfl rfl ?_
  refine wp_iload_n (q := 2) d_X_settled_1 rfl rfl rfl ?_
  refine wp_iload_n (q := 3) d_X_settled_2 rfl rfl rfl ?_
  refine wp_cV2r (q := 6) d_X_settled_3 rfl bd_X_isPair lk_X_74 im_X_isPair se_X_isPair rfl (Nat.le_of_ble_eq_true rfl) (Nat.le_of_ble_eq_true rfl) hX.1 (Nat.le_of_ble_eq_true rfl) (c_isPair hX hn) ?_
  refine wp_if_ne (q := 9) (tgt := 12) d_X_settled_6 (by decide) rfl (fun _ => ?_) (fun c6 => absurd c6 (by rw [pu_q_t ⟨i, j, hi, hj, hij, rfl, rfl⟩]; decide))
  refine wp_aload_n (q := 13) d_X_settled_12 rfl rfl rfl ?_
  refine wp_get (q := 16) (k := 0) d_X_settled_13 rfl ok_X (Nat.le_of_ble_eq_true rfl) fk_X_12 hX.1 rfl ?_
  refine wp_getN (q := 19) (k := 3) d_X_settled_16 rfl ok_G (Nat.le_of_ble_eq_true rfl) fk_X_85 hX.2.1.1 rfl ?_
  refine wp_iload_n (q := 20) d_X_settled_19 rfl rfl rfl ?_
  refine wp_ialoadN (q := 21) d_X_settled_20 rfl hX.2.1.2.2 rfl (by omega) (by decide) ?_
  refine wp_iload_n (q := 22) d_X_settled_21 rfl rfl rfl ?_
  refine wp_cS2r (q := 25) d_X_settled_22 rfl bd_X_has lk_X_82 sm_X_has (Nat.le_of_ble_eq_true rfl) (Nat.le_of_ble_eq_true rfl) (Nat.le_of_ble_eq_true rfl) (c_has (Nat.lt_trans (hC i) (by decide)) (by omega)) ?_
  refine wp_if_ne (q := 28) (tgt := 30) d_X_settled_25 (by decide) rfl (fun c25 => absurd (by rw [h1]; rfl) c25) (fun _ => ?_)
  refine wp_iconst (q := 29) (v := -1) d_X_settled_28 rfl (by decide) ?_
  exact wp_ireturn rfl d_X_settled_29 ⟨rfl, rfl⟩
set_option maxHeartbeats 4000000 in
set_option maxRecDepth 100000 in
theorem c_X_settled {n k : Nat} {P C : Nat → Nat} {kn kk : Nat} {KP KC : Nat → Nat} {ak : Bool} {E : Nat → Nat → Nat} {hd hv : Nat} {w : am_W} (hX : XI n k P C kn kk KP KC ak E hd hv w) (hW : XW n k P C kn kk KP KC E hd hv) {i j : Nat} (hi : i < n) (hj : j < n) (hij : i ≠ j) (h1 : (C i).testBit j = true) : am_Wp none m_X_settled 27 0 0 0 [(0, .ref 0), (1, .int (nI i)), (2, .int (nI j))] [] w (fun v w1 => v = some (.int (pu_b (!pu_it (pu_al C n n) (pu_kin P C n).2.2 i j (pu_al C n n).length 0))) ∧ am_fr DX w w1 ∧ XI n k P C kn kk KP KC ak E hd hv w1) := by
  obtain ⟨hn, hk, hP, hC, hkn, hKP, hKC, hE, hh1, hh2, hrow, hpop, hlen⟩ := id hW
  obtain ⟨kx1, kx2, kx3, k20⟩ := hX.2.2.2.2.2.1.1
  have hl : (pu_al C n n).length ≤ 10 := by omega
  refine wp_aload_n (q := 1) d_X_settled_0 rfl rfl rfl ?_
  refine wp_iload_n (q := 2) d_X_settled_1 rfl rfl rfl ?_
  refine wp_iload_n (q := 3) d_X_settled_2 rfl rfl rfl ?_
  refine wp_cV2r (q := 6) d_X_settled_3 rfl bd_X_isPair lk_X_74 im_X_isPair se_X_isPair rfl (Nat.le_of_ble_eq_true rfl) (Nat.le_of_ble_eq_true rfl) hX.1 (Nat.le_of_ble_eq_true rfl) (c_isPair hX hn) ?_
  refine wp_if_ne (q := 9) (tgt := 12) d_X_settled_6 (by decide) rfl (fun _ => ?_) (fun c6 => absurd c6 (by rw [pu_q_t ⟨i, j, hi, hj, hij, rfl, rfl⟩]; decide))
  refine wp_aload_n (q := 13) d_X_settled_12 rfl rfl rfl ?_
  refine wp_get (q := 16) (k := 0) d_X_settled_13 rfl ok_X (Nat.le_of_ble_eq_true rfl) fk_X_12 hX.1 rfl ?_
  refine wp_getN (q := 19) (k := 3) d_X_settled_16 rfl ok_G (Nat.le_of_ble_eq_true rfl) fk_X_85 hX.2.1.1 rfl ?_
  refine wp_iload_n (q := 20) d_X_settled_19 rfl rfl rfl ?_
  refine wp_ialoadN (q := 21) d_X_settled_20 rfl hX.2.1.2.2 rfl (by omega) (by decide) ?_
  refine wp_iload_n (q := 22) d_X_settled_21 rfl rfl rfl ?_
  refine wp_cS2r (q := 25) d_X_settled_22 rfl bd_X_has lk_X_82 sm_X_has (Nat.le_of_ble_eq_true rfl) (Nat.le_of_ble_eq_true rfl) (Nat.le_of_ble_eq_true rfl) (c_has (Nat.lt_trans (hC i) (by decide)) (by omega)) ?_
  refine wp_if_ne (q := 28) (tgt := 30) d_X_settled_25 (by decide) rfl (fun _ => ?_) (fun c25 => absurd c25 (by rw [h1]; decide))
  refine wp_aload_n (q := 31) d_X_settled_30 rfl rfl rfl ?_
  refine wp_get (q := 34) (k := 5) d_X_settled_31 rfl ok_X (Nat.le_of_ble_eq_true rfl) fk_X_40 hX.1 rfl ?_
  refine wp_aload_n (q := 35) d_X_settled_34 rfl rfl rfl ?_
  refine wp_get (q := 38) (k := 0) d_X_settled_35 rfl ok_X (Nat.le_of_ble_eq_true rfl) fk_X_12 hX.1 rfl ?_
  refine wp_cVN1g (q := 41) (bc1 := 0) (bs1 := 0) d_X_settled_38 rfl bd_K_explore lk_X_178 im_K_explore se_K_explore rfl (Nat.le_of_ble_eq_true rfl) (Nat.le_of_ble_eq_true rfl) k20 (Nat.le_of_ble_eq_true rfl) (c_K_explore hX hW) (fun v w1 hF => ?_)
  obtain ⟨rfl, f1, hKK⟩ := hF
  have hX1 := hX.k f1 hKK.s
  refine wp_aload_n (q := 42) d_X_settled_41 rfl rfl rfl ?_
  refine wp_get (q := 45) (k := 5) d_X_settled_42 rfl ok_X (Nat.le_of_ble_eq_true rfl) fk_X_40 hX1.1 rfl ?_
  refine wp_iload_n (q := 46) d_X_settled_45 rfl rfl rfl ?_
  refine wp_iload_n (q := 47) d_X_settled_46 rfl rfl rfl ?_
  refine wp_cVN2r (q := 50) d_X_settled_47 rfl bd_K_isTurned lk_X_181 im_K_isTurned se_K_isTurned rfl (Nat.le_of_ble_eq_true rfl) (Nat.le_of_ble_eq_true rfl) hKK.1 (Nat.le_of_ble_eq_true rfl) (c_K_isTurned hKK.1 hKK.2.1 hl (pu_kin_tu hl) (pu_al_q hn) (by omega) (by omega)) ?_
  refine wp_if_ne (q := 53) (tgt := 57) d_X_settled_50 (by decide) rfl (fun c50 => ?_) (fun c50 => ?_)
  · refine wp_iconst (q := 58) (v := 0) d_X_settled_57 rfl (by decide) ?_
    refine wp_cS1r (q := 61) d_X_settled_58 rfl bd_X_answer lk_X_147 sm_X_answer (Nat.le_of_ble_eq_true rfl) (Nat.le_of_ble_eq_true rfl) (Nat.le_of_ble_eq_true rfl) (c_answer (b := false)) ?_
    exact wp_ireturn rfl d_X_settled_61 ⟨by rw [pu_b1 c50]; rfl, f1.x (by decide), hX1⟩
  · refine wp_iconst (q := 54) (v := 1) d_X_settled_53 rfl (by decide) ?_
    refine wp_goto (tgt := 58) d_X_settled_54 (by decide) ?_
    refine wp_cS1r (q := 61) d_X_settled_58 rfl bd_X_answer lk_X_147 sm_X_answer (Nat.le_of_ble_eq_true rfl) (Nat.le_of_ble_eq_true rfl) (Nat.le_of_ble_eq_true rfl) (c_answer (b := true)) ?_
    exact wp_ireturn rfl d_X_settled_61 ⟨by rw [pu_b0.mp c50]; rfl, f1.x (by decide), hX1⟩
set_option maxHeartbeats 4000000 in
set_option maxRecDepth 100000 in
theorem c_X_family {n k : Nat} {P C : Nat → Nat} {kn kk : Nat} {KP KC : Nat → Nat} {ak : Bool} {E : Nat → Nat → Nat} {hd hv : Nat} {w : am_W} (hX : XI n k P C kn kk KP KC ak E hd hv w) (hW : XW n k P C kn kk KP KC E hd hv) : am_Wp none m_X_family 27 0 0 0 [(0, .ref 0)] [] w (fun v w1 => v = some (.int (nI (pu_kin P C n).2.1)) ∧ am_fr DX w w1 ∧ XI n k P C kn kk KP KC ak E hd hv w1) := by
  obtain ⟨hn, hk, hP, hC, hkn, hKP, hKC, hE, hh1, hh2, hrow, hpop, hlen⟩ := id hW
  obtain ⟨kx1, kx2, kx3, k20⟩ := hX.2.2.2.2.2.1.1
  have hl : (pu_al C n n).length ≤ 10 := by omega
  refine wp_aload_n (q := 1) d_X_family_0 rfl rfl rfl ?_
  refine wp_get (q := 4) (k := 5) d_X_family_1 rfl ok_X (Nat.le_of_ble_eq_true rfl) fk_X_40 hX.1 rfl ?_
  refine wp_aload_n (q := 5) d_X_family_4 rfl rfl rfl ?_
  refine wp_get (q := 8) (k := 0) d_X_family_5 rfl ok_X (Nat.le_of_ble_eq_true rfl) fk_X_12 hX.1 rfl ?_
  refine wp_cVN1g (q := 11) (bc1 := 0) (bs1 := 0) d_X_family_8 rfl bd_K_explore lk_X_178 im_K_explore se_K_explore rfl (Nat.le_of_ble_eq_true rfl) (Nat.le_of_ble_eq_true rfl) k20 (Nat.le_of_ble_eq_true rfl) (c_K_explore hX hW) (fun v w1 hF => ?_)
  obtain ⟨rfl, f1, hKK⟩ := hF
  have hX1 := hX.k f1 hKK.s
  refine wp_aload_n (q := 12) d_X_family_11 rfl rfl rfl ?_
  refine wp_get (q := 15) (k := 5) d_X_family_12 rfl ok_X (Nat.le_of_ble_eq_true rfl) fk_X_40 hX1.1 rfl ?_
  refine wp_getN (q := 18) (k := 5) d_X_family_15 rfl ok_K (Nat.le_of_ble_eq_true rfl) fk_X_184 hKK.1 rfl ?_
  exact wp_ireturn rfl d_X_family_18 ⟨rfl, f1.x (by decide), hX1⟩
set_option maxHeartbeats 4000000 in
set_option maxRecDepth 100000 in
theorem c_X_count0 {n k : Nat} {P C : Nat → Nat} {kn kk : Nat} {KP KC : Nat → Nat} {ak : Bool} {E : Nat → Nat → Nat} {hd hv : Nat} {w : am_W} (hX : XI n k P C kn kk KP KC ak E hd hv w) (hW : XW n k P C kn kk KP KC E hd hv) : am_Wp none m_X_count 2 0 0 0 [(0, .ref 0), (1, .int 0)] [] w (am_R (some (.int (nI n))) w) := by
  obtain ⟨hn, hk, hP, hC, hkn, hKP, hKC, hE, hh1, hh2, hrow, hpop, hlen⟩ := id hW
  refine wp_iload_n (q := 1) d_X_count_0 rfl rfl rfl ?_
  refine wp_tableIn (tgt := 32) (by decide) (by decide) (by rfl) (by decide) d_X_count_1 ?_
  refine wp_aload_n (q := 33) d_X_count_32 rfl rfl rfl ?_
  refine wp_get (q := 36) (k := 0) d_X_count_33 rfl ok_X (Nat.le_of_ble_eq_true rfl) fk_X_12 hX.1 rfl ?_
  refine wp_getN (q := 39) (k := 0) d_X_count_36 rfl ok_G (Nat.le_of_ble_eq_true rfl) fk_X_60 hX.2.1.1 rfl ?_
  exact wp_ireturn rfl d_X_count_39 ⟨rfl, rfl⟩
set_option maxHeartbeats 4000000 in
set_option maxRecDepth 100000 in
theorem c_X_count1 {n k : Nat} {P C : Nat → Nat} {kn kk : Nat} {KP KC : Nat → Nat} {ak : Bool} {E : Nat → Nat → Nat} {hd hv : Nat} {w : am_W} (hX : XI n k P C kn kk KP KC ak E hd hv w) (hW : XW n k P C kn kk KP KC E hd hv) : am_Wp none m_X_count 2 0 0 0 [(0, .ref 0), (1, .int 1)] [] w (am_R (some (.int (nI k))) w) := by
  obtain ⟨hn, hk, hP, hC, hkn, hKP, hKC, hE, hh1, hh2, hrow, hpop, hlen⟩ := id hW
  refine wp_iload_n (q := 1) d_X_count_0 rfl rfl rfl ?_
  refine wp_tableIn (tgt := 40) (by decide) (by decide) (by rfl) (by decide) d_X_count_1 ?_
  refine wp_aload_n (q := 41) d_X_count_40 rfl rfl rfl ?_
  refine wp_get (q := 44) (k := 0) d_X_count_41 rfl ok_X (Nat.le_of_ble_eq_true rfl) fk_X_12 hX.1 rfl ?_
  refine wp_getN (q := 47) (k := 1) d_X_count_44 rfl ok_G (Nat.le_of_ble_eq_true rfl) fk_X_96 hX.2.1.1 rfl ?_
  exact wp_ireturn rfl d_X_count_47 ⟨rfl, rfl⟩
set_option maxHeartbeats 4000000 in
set_option maxRecDepth 100000 in
theorem c_X_count2 {n k : Nat} {P C : Nat → Nat} {kn kk : Nat} {KP KC : Nat → Nat} {ak : Bool} {E : Nat → Nat → Nat} {hd hv : Nat} {w : am_W} (hX : XI n k P C kn kk KP KC ak E hd hv w) (hW : XW n k P C kn kk KP KC E hd hv) : am_Wp none m_X_count 27 0 0 0 [(0, .ref 0), (1, .int 2)] [] w (fun v w1 => v = some (.int (nI k - nI (pu_pop 10 (pu_kin P C n).2.2))) ∧ am_fr DX w w1 ∧ XI n k P C kn kk KP KC ak E hd hv w1) := by
  obtain ⟨hn, hk, hP, hC, hkn, hKP, hKC, hE, hh1, hh2, hrow, hpop, hlen⟩ := id hW
  obtain ⟨kx1, kx2, kx3, k20⟩ := hX.2.2.2.2.2.1.1
  have hl : (pu_al C n n).length ≤ 10 := by omega
  refine wp_iload_n (q := 1) d_X_count_0 rfl rfl rfl ?_
  refine wp_tableIn (tgt := 48) (by decide) (by decide) (by rfl) (by decide) d_X_count_1 ?_
  refine wp_aload_n (q := 49) d_X_count_48 rfl rfl rfl ?_
  refine wp_get (q := 52) (k := 5) d_X_count_49 rfl ok_X (Nat.le_of_ble_eq_true rfl) fk_X_40 hX.1 rfl ?_
  refine wp_aload_n (q := 53) d_X_count_52 rfl rfl rfl ?_
  refine wp_get (q := 56) (k := 0) d_X_count_53 rfl ok_X (Nat.le_of_ble_eq_true rfl) fk_X_12 hX.1 rfl ?_
  refine wp_cVN1g (q := 59) (bc1 := 0) (bs1 := 0) d_X_count_56 rfl bd_K_explore lk_X_178 im_K_explore se_K_explore rfl (Nat.le_of_ble_eq_true rfl) (Nat.le_of_ble_eq_true rfl) k20 (Nat.le_of_ble_eq_true rfl) (c_K_explore hX hW) (fun v w1 hF => ?_)
  obtain ⟨rfl, f1, hKK⟩ := hF
  have hX1 := hX.k f1 hKK.s
  refine wp_aload_n (q := 60) d_X_count_59 rfl rfl rfl ?_
  refine wp_get (q := 63) (k := 0) d_X_count_60 rfl ok_X (Nat.le_of_ble_eq_true rfl) fk_X_12 hX1.1 rfl ?_
  refine wp_getN (q := 66) (k := 1) d_X_count_63 rfl ok_G (Nat.le_of_ble_eq_true rfl) fk_X_96 hX1.2.1.1 rfl ?_
  refine wp_aload_n (q := 67) d_X_count_66 rfl rfl rfl ?_
  refine wp_get (q := 70) (k := 5) d_X_count_67 rfl ok_X (Nat.le_of_ble_eq_true rfl) fk_X_40 hX1.1 rfl ?_
  refine wp_getN (q := 73) (k := 6) d_X_count_70 rfl ok_K (Nat.le_of_ble_eq_true rfl) fk_X_187 hKK.1 rfl ?_
  refine wp_cS1r (q := 76) d_X_count_73 rfl bd_I_bitCount lk_X_190 sm_I_bitCount (Nat.le_of_ble_eq_true rfl) (Nat.le_of_ble_eq_true rfl) (Nat.le_of_ble_eq_true rfl) (c_bitCount (pu_kin_tu hl)) ?_
  refine wp_isub (q := 77) d_X_count_76 rfl ?_
  exact wp_ireturn rfl d_X_count_77 ⟨rfl, f1.x (by decide), hX1⟩
set_option maxHeartbeats 4000000 in
set_option maxRecDepth 100000 in
theorem c_X_count3 {n k : Nat} {P C : Nat → Nat} {kn kk : Nat} {KP KC : Nat → Nat} {ak : Bool} {E : Nat → Nat → Nat} {hd hv : Nat} {w : am_W} (hX : XI n k P C kn kk KP KC ak E hd hv w) (hW : XW n k P C kn kk KP KC E hd hv) : am_Wp none m_X_count 2 0 0 0 [(0, .ref 0), (1, .int 3)] [] w (am_R (some (.int (nI (pu_pop 8 hd)))) w) := by
  obtain ⟨hn, hk, hP, hC, hkn, hKP, hKC, hE, hh1, hh2, hrow, hpop, hlen⟩ := id hW
  refine wp_iload_n (q := 1) d_X_count_0 rfl rfl rfl ?_
  refine wp_tableIn (tgt := 78) (by decide) (by decide) (by rfl) (by decide) d_X_count_1 ?_
  refine wp_aload_n (q := 79) d_X_count_78 rfl rfl rfl ?_
  refine wp_get (q := 82) (k := 3) d_X_count_79 rfl ok_X (Nat.le_of_ble_eq_true rfl) fk_X_26 hX.1 rfl ?_
  refine wp_getN (q := 85) (k := 1) d_X_count_82 rfl ok_T (Nat.le_of_ble_eq_true rfl) fk_X_126 hX.2.2.2.1.1 rfl ?_
  refine wp_cS1r (q := 88) d_X_count_85 rfl bd_I_bitCount lk_X_190 sm_I_bitCount (Nat.le_of_ble_eq_true rfl) (Nat.le_of_ble_eq_true rfl) (Nat.le_of_ble_eq_true rfl) (c_bitCount (by omega)) ?_
  exact wp_ireturn rfl d_X_count_88 ⟨by rw [pu_pop8 hh1], rfl⟩
set_option maxHeartbeats 4000000 in
set_option maxRecDepth 100000 in
theorem c_X_count_out {n k : Nat} {P C : Nat → Nat} {kn kk : Nat} {KP KC : Nat → Nat} {ak : Bool} {E : Nat → Nat → Nat} {hd hv : Nat} {w : am_W} (hX : XI n k P C kn kk KP KC ak E hd hv w) (hW : XW n k P C kn kk KP KC E hd hv) {y : Int32} (hy : y.toInt < 0 ∨ 3 < y.toInt) : am_Wp none m_X_count 2 0 0 0 [(0, .ref 0), (1, .int y)] [] w (am_R (some (.int (-2))) w) := by
  obtain ⟨hn, hk, hP, hC, hkn, hKP, hKC, hE, hh1, hh2, hrow, hpop, hlen⟩ := id hW
  refine wp_iload_n (q := 1) d_X_count_0 rfl rfl rfl ?_
  refine wp_tableOut (tgt := 89) hy (by decide) d_X_count_1 ?_
  refine wp_bipush (q := 91) (v := -2) d_X_count_89 rfl (by decide) ?_
  exact wp_ireturn rfl d_X_count_91 ⟨rfl, rfl⟩
