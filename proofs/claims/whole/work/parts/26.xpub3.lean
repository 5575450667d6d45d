/-! CONTRACTS of X's public methods (3) -/
theorem pu_fs_le (re : Nat → Nat) (ban tar : Nat) : ∀ s, (pu_fs re ban tar s).2 ≤ 9
  | 0 => Nat.le_refl 9
  | s + 1 => by
    unfold pu_fs
    by_cases h : s &&& ban = 0 ∧ pu_pop 8 s < (pu_fs re ban tar s).2 ∧ pu_dif (re s &&& tar) s = 0
    · rw [if_pos h]; have := pu_pop_le 8 s; show pu_pop 8 s ≤ 9; omega
    · rw [if_neg h]; exact pu_fs_le re ban tar s
set_option maxHeartbeats 4000000 in
set_option maxRecDepth 100000 in
theorem c_X_fewest_L {n k : Nat} {P C : Nat → Nat} {kn kk : Nat} {KP KC : Nat → Nat} {ak : Bool} {E : Nat → Nat → Nat} {hd hv : Nat} {w : am_W} (hX : XI n k P C kn kk KP KC ak E hd hv w) (hW : XW n k P C kn kk KP KC E hd hv) {i ban tar : Nat} (hi : i < n) (hban : ban < 256) (htar : tar < 256) : ∀ s, s ≤ 2 ^ n → ∀ w1, am_fr DX w w1 → XI n k P C kn kk KP KC ak E hd hv w1 → VI (pu_gi P hd 0) (pu_go C hd 0) w1 → am_Wp none m_X_fewest 6 0 0 38 [(0, .ref 0), (1, .int (nI i)), (2, .int (nI ban)), (3, .int (nI tar)), (4, .int (pu_fs (pu_rc P C hd i) ban tar s).1), (5, .int (nI (pu_fs (pu_rc P C hd i) ban tar s).2)), (6, .int (nI (2 ^ n - 1))), (7, .int (nI s))] [] w1 (fun v w2 => v = some (.int (pu_fs (pu_rc P C hd i) ban tar (2 ^ n)).1) ∧ am_fr DX w w2 ∧ XI n k P C kn kk KP KC ak E hd hv w2) := by
  obtain ⟨hn, hk, hP, hC, hkn, hKP, hKC, hE, hh1, hh2, hrow, hpop, hlen⟩ := id hW
  have hp2 := pu_p2e hn
  have hp1 := pu_p1 n
  refine pu_up (P := fun s => ∀ w1, am_fr DX w w1 → XI n k P C kn kk KP KC ak E hd hv w1 → VI (pu_gi P hd 0) (pu_go C hd 0) w1 → am_Wp none m_X_fewest 6 0 0 38 [(0, .ref 0), (1, .int (nI i)), (2, .int (nI ban)), (3, .int (nI tar)), (4, .int (pu_fs (pu_rc P C hd i) ban tar s).1), (5, .int (nI (pu_fs (pu_rc P C hd i) ban tar s).2)), (6, .int (nI (2 ^ n - 1))), (7, .int (nI s))] [] w1 (fun v w2 => v = some (.int (pu_fs (pu_rc P C hd i) ban tar (2 ^ n)).1) ∧ am_fr DX w w2 ∧ XI n k P C kn kk KP KC ak E hd hv w2)) ?_ ?_
  · intro w1 fr hX1 hI
    refine wp_iload (q := 40) d_X_fewest_38 rfl rfl ?_
    refine wp_iload (q := 42) d_X_fewest_40 rfl rfl ?_
    refine wp_icmp_gt (q := 45) (tgt := 99) d_X_fewest_42 (by decide) rfl (fun _ => ?_) (fun c42 => absurd (nI_lt (by omega) (by omega)) c42)
    refine wp_iload (q := 101) d_X_fewest_99 rfl rfl ?_
    exact wp_ireturn rfl d_X_fewest_101 ⟨rfl, fr, hX1⟩
  · intro s hs ih w1 fr hX1 hI
    refine wp_iload (q := 40) d_X_fewest_38 rfl rfl ?_
    refine wp_iload (q := 42) d_X_fewest_40 rfl rfl ?_
    refine wp_icmp_gt (q := 45) (tgt := 99) d_X_fewest_42 (by decide) rfl (fun c42 => absurd c42 (nI_nlt (by omega) (by omega))) (fun _ => ?_)
    refine wp_iload (q := 47) d_X_fewest_45 rfl rfl ?_
    refine wp_iload_n (q := 48) d_X_fewest_47 rfl rfl rfl ?_
    refine wp_iand (q := 49) d_X_fewest_48 rfl ?_
    rw [pu_and]
    refine wp_if_ne (q := 52) (tgt := 93) d_X_fewest_49 (by decide) rfl (fun c49 => ?_) (fun c49 => ?_)
    · refine wp_inc1 (q := 96) d_X_fewest_93 rfl rfl (nI_1 _) (Nat.le_of_ble_eq_true rfl) rfl ?_
      refine wp_goto (tgt := 38) d_X_fewest_96 (by decide) ?_
      have e : (pu_fs (pu_rc P C hd i) ban tar (s + 1)) = (pu_fs (pu_rc P C hd i) ban tar s) := by simp only [pu_fs]; rw [if_neg (fun h => c49 (by rw [h.1]; exact nI_0))]
      have ih2 := ih w1 fr hX1 hI
      rw [e] at ih2
      exact ih2
    · have h49 : s &&& ban = 0 := pu_nI_inj (Nat.lt_of_le_of_lt Nat.and_le_right (by omega)) (by decide) (c49.trans nI_0.symm)
      refine wp_iload (q := 54) d_X_fewest_52 rfl rfl ?_
      refine wp_cS1r (q := 57) d_X_fewest_54 rfl bd_I_bitCount lk_X_190 sm_I_bitCount (Nat.le_of_ble_eq_true rfl) (Nat.le_of_ble_eq_true rfl) (Nat.le_of_ble_eq_true rfl) (c_bitCount (by omega)) ?_
      rw [pu_pop8 (show s < 256 by omega)]
      refine wp_iload (q := 59) d_X_fewest_57 rfl rfl ?_
      refine wp_icmp_ge (q := 62) (tgt := 93) d_X_fewest_59 (by decide) rfl (fun c59 => ?_) (fun c59 => ?_)
      · refine wp_inc1 (q := 96) d_X_fewest_93 rfl rfl (nI_1 _) (Nat.le_of_ble_eq_true rfl) rfl ?_
        refine wp_goto (tgt := 38) d_X_fewest_96 (by decide) ?_
        have e : (pu_fs (pu_rc P C hd i) ban tar (s + 1)) = (pu_fs (pu_rc P C hd i) ban tar s) := by simp only [pu_fs]; rw [if_neg (fun h => absurd c59 (nI_ge h.2.1 (by have := pu_fs_le (pu_rc P C hd i) ban tar s; omega)))]
        have ih2 := ih w1 fr hX1 hI
        rw [e] at ih2
        exact ih2
      · have h59 : pu_pop 8 s < (pu_fs (pu_rc P C hd i) ban tar s).2 := Nat.lt_of_not_le (fun h => c59 (nI_le h (by have := pu_pop_le 8 s; omega)))
        obtain ⟨⟨x1, x2, x3, x4, x5, x6, v17⟩, -⟩ := hX1.2.2.2.2.1
        refine wp_aload_n (q := 63) d_X_fewest_62 rfl rfl rfl ?_
        refine wp_get (q := 66) (k := 4) d_X_fewest_63 rfl ok_X (Nat.le_of_ble_eq_true rfl) fk_X_33 hX1.1 rfl ?_
        refine wp_iload_n (q := 67) d_X_fewest_66 rfl rfl rfl ?_
        refine wp_iload (q := 69) d_X_fewest_67 rfl rfl ?_
        refine wp_cVN2g (q := 72) (bc1 := 0) (bs1 := 0) d_X_fewest_69 rfl bd_V_reached lk_X_206 im_V_reached se_V_reached rfl (Nat.le_of_ble_eq_true rfl) (Nat.le_of_ble_eq_true rfl) v17 (Nat.le_of_ble_eq_true rfl) (c_V_reached v17 hI (pu_gi_lt hP hd 0) (pu_go_lt hC hd 0) (i := i) (s := s) (by omega) (by omega)) (fun v w2 hF => ?_)
        obtain ⟨rfl, f2, hS2⟩ := hF
        have hX2 := hX1.v (f2.up (by decide)) hS2
        have fr2 := fr.tr (f2.x (by decide))
        have hI2 := hI.at f2 (by decide) (by decide)
        have hrc : (pu_rc P C hd i) s < 256 := pu_re_lt (pu_gi_lt hP hd 0) (pu_go_lt hC hd 0) _ _ _ _ _ _ _ (pu_go_lt hC hd 0 i) (pu_gi_lt hP hd 0 i)
        show am_Wp _ _ _ _ _ _ _ (.int (nI ((pu_rc P C hd i) s)) :: []) _ _
        refine wp_iload_n (q := 73) d_X_fewest_72 rfl rfl rfl ?_
        refine wp_iand (q := 74) d_X_fewest_73 rfl ?_
        rw [pu_and]
        refine wp_iload (q := 76) d_X_fewest_74 rfl rfl ?_
        refine wp_iconst (q := 77) (v := -1) d_X_fewest_76 rfl (by decide) ?_
        refine wp_ixor (q := 78) d_X_fewest_77 rfl ?_
        refine wp_iand (q := 79) d_X_fewest_78 rfl ?_
        rw [pu_not]
        refine wp_if_ne (q := 82) (tgt := 93) d_X_fewest_79 (by decide) rfl (fun c79 => ?_) (fun c79 => ?_)
        · refine wp_inc1 (q := 96) d_X_fewest_93 rfl rfl (nI_1 _) (Nat.le_of_ble_eq_true rfl) rfl ?_
          refine wp_goto (tgt := 38) d_X_fewest_96 (by decide) ?_
          have e : (pu_fs (pu_rc P C hd i) ban tar (s + 1)) = (pu_fs (pu_rc P C hd i) ban tar s) := by simp only [pu_fs]; rw [if_neg (fun h => c79 (by rw [h.2.2]; exact nI_0))]
          have ih2 := ih w2 fr2 hX2 hI2
          rw [e] at ih2
          exact ih2
        · have h79 : pu_dif ((pu_rc P C hd i) s &&& tar) s = 0 := pu_nI_inj (Nat.lt_trans (pu_dif_lt (pu_and_lt hrc)) (by decide)) (by decide) (c79.trans nI_0.symm)
          refine wp_iload (q := 84) d_X_fewest_82 rfl rfl ?_
          refine wp_istore (q := 86) d_X_fewest_84 rfl (Nat.le_of_ble_eq_true rfl) rfl ?_
          refine wp_iload (q := 88) d_X_fewest_86 rfl rfl ?_
          refine wp_cS1r (q := 91) d_X_fewest_88 rfl bd_I_bitCount lk_X_190 sm_I_bitCount (Nat.le_of_ble_eq_true rfl) (Nat.le_of_ble_eq_true rfl) (Nat.le_of_ble_eq_true rfl) (c_bitCount (by omega)) ?_
          rw [pu_pop8 (show s < 256 by omega)]
          refine wp_istore (q := 93) d_X_fewest_91 rfl (Nat.le_of_ble_eq_true rfl) rfl ?_
          refine wp_inc1 (q := 96) d_X_fewest_93 rfl rfl (nI_1 _) (Nat.le_of_ble_eq_true rfl) rfl ?_
          refine wp_goto (tgt := 38) d_X_fewest_96 (by decide) ?_
          have e : (pu_fs (pu_rc P C hd i) ban tar (s + 1)) = (nI s, pu_pop 8 s) := by simp only [pu_fs]; rw [if_pos ⟨h49, h59, h79⟩]
          have ih2 := ih w2 fr2 hX2 hI2
          rw [e] at ih2
          exact ih2
set_option maxHeartbeats 4000000 in
set_option maxRecDepth 100000 in
theorem c_X_fewest {n k : Nat} {P C : Nat → Nat} {kn kk : Nat} {KP KC : Nat → Nat} {ak : Bool} {E : Nat → Nat → Nat} {hd hv : Nat} {w : am_W} (hX : XI n k P C kn kk KP KC ak E hd hv w) (hW : XW n k P C kn kk KP KC E hd hv) {i ban tar : Nat} (hi : i < n) (hban : ban < 256) (htar : tar < 256) : am_Wp none m_X_fewest 6 0 0 0 [(0, .ref 0), (1, .int (nI i)), (2, .int (nI ban)), (3, .int (nI tar))] [] w (fun v w2 => v = some (.int (pu_fs (pu_rc P C hd i) ban tar (2 ^ n)).1) ∧ am_fr DX w w2 ∧ XI n k P C kn kk KP KC ak E hd hv w2) := by
  obtain ⟨hn, hk, hP, hC, hkn, hKP, hKC, hE, hh1, hh2, hrow, hpop, hlen⟩ := id hW
  obtain ⟨⟨x1, x2, x3, x4, x5, x6, v17⟩, ⟨f18, v18⟩, f19, v19⟩ := hX.2.2.2.2.1
  refine wp_aload_n (q := 1) d_X_fewest_0 rfl rfl rfl ?_
  refine wp_get (q := 4) (k := 4) d_X_fewest_1 rfl ok_X (Nat.le_of_ble_eq_true rfl) fk_X_33 hX.1 rfl ?_
  refine wp_aload_n (q := 5) d_X_fewest_4 rfl rfl rfl ?_
  refine wp_get (q := 8) (k := 0) d_X_fewest_5 rfl ok_X (Nat.le_of_ble_eq_true rfl) fk_X_12 hX.1 rfl ?_
  refine wp_aload_n (q := 9) d_X_fewest_8 rfl rfl rfl ?_
  refine wp_get (q := 12) (k := 3) d_X_fewest_9 rfl ok_X (Nat.le_of_ble_eq_true rfl) fk_X_26 hX.1 rfl ?_
  refine wp_getN (q := 15) (k := 1) d_X_fewest_12 rfl ok_T (Nat.le_of_ble_eq_true rfl) fk_X_126 hX.2.2.2.1.1 rfl ?_
  refine wp_iconst (q := 16) (v := 0) d_X_fewest_15 rfl (by decide) ?_
  refine wp_cVN3g (q := 19) (bc1 := 0) (bs1 := 0) d_X_fewest_16 rfl bd_V_lookAt lk_X_129 im_V_lookAt se_V_lookAt rfl (Nat.le_of_ble_eq_true rfl) (Nat.le_of_ble_eq_true rfl) v17 (Nat.le_of_ble_eq_true rfl) (c_V_lookAt (no := 0) v17 hX.2.1 (by decide) (by decide) (by decide) hh1 (by decide) v18 v19) (fun v w1 hF => ?_)
  obtain ⟨rfl, f1, hI⟩ := hF
  have v17 := f1.at (by decide) v17
  have hX1 := hX.v (f1.up (by decide)) ⟨⟨_, _, _, _, _, _, v17⟩, ⟨_, hI.1⟩, _, hI.2⟩
  refine wp_iconst (q := 20) (v := -1) d_X_fewest_19 rfl (by decide) ?_
  refine wp_istore (q := 22) d_X_fewest_20 rfl (Nat.le_of_ble_eq_true rfl) rfl ?_
  refine wp_bipush (q := 24) (v := 9) d_X_fewest_22 rfl (by decide) ?_
  refine wp_istore (q := 26) d_X_fewest_24 rfl (Nat.le_of_ble_eq_true rfl) rfl ?_
  refine wp_aload_n (q := 27) d_X_fewest_26 rfl rfl rfl ?_
  refine wp_get (q := 30) (k := 0) d_X_fewest_27 rfl ok_X (Nat.le_of_ble_eq_true rfl) fk_X_12 hX1.1 rfl ?_
  refine wp_cVN0r (q := 33) d_X_fewest_30 rfl bd_G_everyPlace lk_X_156 im_G_everyPlace se_G_everyPlace rfl (Nat.le_of_ble_eq_true rfl) (Nat.le_of_ble_eq_true rfl) hX1.2.1.1 (Nat.le_of_ble_eq_true rfl) (c_G_everyPlace hX1.2.1 hn) ?_
  refine wp_istore (q := 35) d_X_fewest_33 rfl (Nat.le_of_ble_eq_true rfl) rfl ?_
  refine wp_iconst (q := 36) (v := 0) d_X_fewest_35 rfl (by decide) ?_
  refine wp_istore (q := 38) d_X_fewest_36 rfl (Nat.le_of_ble_eq_true rfl) rfl ?_
  exact c_X_fewest_L hX hW hi hban htar 0 (Nat.zero_le _) w1 (f1.x (by decide)) hX1 hI
set_option maxHeartbeats 4000000 in
set_option maxRecDepth 100000 in
theorem c_X_blanket_bad {n k : Nat} {P C : Nat → Nat} {kn kk : Nat} {KP KC : Nat → Nat} {ak : Bool} {E : Nat → Nat → Nat} {hd hv : Nat} {w : am_W} (hX : XI n k P C kn kk KP KC ak E hd hv w) (hW : XW n k P C kn kk KP KC E hd hv) {x : Int32} (hb : ¬ PL n x) : am_Wp none m_X_blanket 2 0 0 0 [(0, .ref 0), (1, .int x)] [] w (am_R (some (.int (-2))) w) := by
  obtain ⟨hn, hk, hP, hC, hkn, hKP, hKC, hE, hh1, hh2, hrow, hpop, hlen⟩ := id hW
  refine wp_aload_n (q := 1) d_X_blanket_0 rfl rfl rfl ?_
  refine wp_iload_n (q := 2) d_X_blanket_1 rfl rfl rfl ?_
  refine wp_cV1r (q := 5) d_X_blanket_2 rfl bd_X_isPlace lk_X_113 im_X_isPlace se_X_isPlace rfl (Nat.le_of_ble_eq_true rfl) (Nat.le_of_ble_eq_true rfl) hX.1 (Nat.le_of_ble_eq_true rfl) (c_isPlace hX hn) ?_
  refine wp_if_ne (q := 8) (tgt := 11) d_X_blanket_5 (by decide) rfl (fun c5 => absurd (pu_q_f hb) c5) (fun _ => ?_)
  refine wp_bipush (q := 10) (v := -2) d_X_blanket_8 rfl (by decide) ?_
  exact wp_ireturn rfl d_X_blanket_10 ⟨rfl, rfl⟩
set_option maxHeartbeats 4000000 in
set_option maxRecDepth 100000 in
theorem c_X_blanket {n k : Nat} {P C : Nat → Nat} {kn kk : Nat} {KP KC : Nat → Nat} {ak : Bool} {E : Nat → Nat → Nat} {hd hv : Nat} {w : am_W} (hX : XI n k P C kn kk KP KC ak E hd hv w) (hW : XW n k P C kn kk KP KC E hd hv) {i : Nat} (hi : i < n) : am_Wp none m_X_blanket 7 0 0 0 [(0, .ref 0), (1, .int (nI i))] [] w (fun v w1 => v = some (.int ((pu_fs (pu_rc P C hd i) (2 ^ i) (pu_dif (2 ^ n - 1) (2 ^ i)) (2 ^ n)).1)) ∧ am_fr DX w w1 ∧ XI n k P C kn kk KP KC ak E hd hv w1) := by
  obtain ⟨hn, hk, hP, hC, hkn, hKP, hKC, hE, hh1, hh2, hrow, hpop, hlen⟩ := id hW
  have hp2 := pu_p2e hn
  have hp1 := pu_p1 n
  refine wp_aload_n (q := 1) d_X_blanket_0 rfl rfl rfl ?_
  refine wp_iload_n (q := 2) d_X_blanket_1 rfl rfl rfl ?_
  refine wp_cV1r (q := 5) d_X_blanket_2 rfl bd_X_isPlace lk_X_113 im_X_isPlace se_X_isPlace rfl (Nat.le_of_ble_eq_true rfl) (Nat.le_of_ble_eq_true rfl) hX.1 (Nat.le_of_ble_eq_true rfl) (c_isPlace hX hn) ?_
  refine wp_if_ne (q := 8) (tgt := 11) d_X_blanket_5 (by decide) rfl (fun _ => ?_) (fun c5 => absurd c5 (by rw [pu_q_t ⟨i, hi, rfl⟩]; decide))
  refine wp_aload_n (q := 12) d_X_blanket_11 rfl rfl rfl ?_
  refine wp_iload_n (q := 13) d_X_blanket_12 rfl rfl rfl ?_
  refine wp_iload_n (q := 14) d_X_blanket_13 rfl rfl rfl ?_
  refine wp_cS1r (q := 17) d_X_blanket_14 rfl bd_X_bit lk_X_89 sm_X_bit (Nat.le_of_ble_eq_true rfl) (Nat.le_of_ble_eq_true rfl) (Nat.le_of_ble_eq_true rfl) (c_bit (by omega)) ?_
  refine wp_aload_n (q := 18) d_X_blanket_17 rfl rfl rfl ?_
  refine wp_get (q := 21) (k := 0) d_X_blanket_18 rfl ok_X (Nat.le_of_ble_eq_true rfl) fk_X_12 hX.1 rfl ?_
  refine wp_cVN0r (q := 24) d_X_blanket_21 rfl bd_G_everyPlace lk_X_156 im_G_everyPlace se_G_everyPlace rfl (Nat.le_of_ble_eq_true rfl) (Nat.le_of_ble_eq_true rfl) hX.2.1.1 (Nat.le_of_ble_eq_true rfl) (c_G_everyPlace hX.2.1 hn) ?_
  refine wp_iload_n (q := 25) d_X_blanket_24 rfl rfl rfl ?_
  refine wp_cS1r (q := 28) d_X_blanket_25 rfl bd_X_bit lk_X_89 sm_X_bit (Nat.le_of_ble_eq_true rfl) (Nat.le_of_ble_eq_true rfl) (Nat.le_of_ble_eq_true rfl) (c_bit (by omega)) ?_
  refine wp_iconst (q := 29) (v := -1) d_X_blanket_28 rfl (by decide) ?_
  refine wp_ixor (q := 30) d_X_blanket_29 rfl ?_
  refine wp_iand (q := 31) d_X_blanket_30 rfl ?_
  rw [pu_not]
  refine wp_cV3g (q := 34) (bc1 := 0) (bs1 := 0) d_X_blanket_31 rfl bd_X_fewest lk_X_167 im_X_fewest se_X_fewest rfl (Nat.le_of_ble_eq_true rfl) (Nat.le_of_ble_eq_true rfl) hX.1 (Nat.le_of_ble_eq_true rfl) (c_X_fewest hX hW hi (pu_p2 (by omega)) (pu_dif_lt (by omega))) (fun v w1 hF => ?_)
  obtain ⟨rfl, f1, hX1⟩ := hF
  exact wp_ireturn rfl d_X_blanket_34 ⟨rfl, f1, hX1⟩
set_option maxHeartbeats 4000000 in
set_option maxRecDepth 100000 in
theorem c_X_least_bad {n k : Nat} {P C : Nat → Nat} {kn kk : Nat} {KP KC : Nat → Nat} {ak : Bool} {E : Nat → Nat → Nat} {hd hv : Nat} {w : am_W} (hX : XI n k P C kn kk KP KC ak E hd hv w) (hW : XW n k P C kn kk KP KC E hd hv) {x y : Int32} (hb : ¬ PR n x y) : am_Wp none m_X_least 2 0 0 0 [(0, .ref 0), (1, .int x), (2, .int y)] [] w (am_R (some (.int (-2))) w) := by
  obtain ⟨hn, hk, hP, hC, hkn, hKP, hKC, hE, hh1, hh2, hrow, hpop, hlen⟩ := id hW
  refine wp_aload_n (q := 1) d_X_least_0 rfl rfl rfl ?_
  refine wp_iload_n (q := 2) d_X_least_1 rfl rfl rfl ?_
  refine wp_iload_n (q := 3) d_X_least_2 rfl rfl rfl ?_
  refine wp_cV2r (q := 6) d_X_least_3 rfl bd_X_isPair lk_X_74 im_X_isPair se_X_isPair rfl (Nat.le_of_ble_eq_true rfl) (Nat.le_of_ble_eq_true rfl) hX.1 (Nat.le_of_ble_eq_true rfl) (c_isPair hX hn) ?_
  refine wp_if_ne (q := 9) (tgt := 12) d_X_least_6 (by decide) rfl (fun c6 => absurd (pu_q_f hb) c6) (fun _ => ?_)
  refine wp_bipush (q := 11) (v := -2) d_X_least_9 rfl (by decide) ?_
  exact wp_ireturn rfl d_X_least_11 ⟨rfl, rfl⟩
set_option maxHeartbeats 4000000 in
set_option maxRecDepth 100000 in
theorem c_X_least {n k : Nat} {P C : Nat → Nat} {kn kk : Nat} {KP KC : Nat → Nat} {ak : Bool} {E : Nat → Nat → Nat} {hd hv : Nat} {w : am_W} (hX : XI n k P C kn kk KP KC ak E hd hv w) (hW : XW n k P C kn kk KP KC E hd hv) {i j : Nat} (hi : i < n) (hj : j < n) (hij : i ≠ j) : am_Wp none m_X_least 7 0 0 0 [(0, .ref 0), (1, .int (nI i)), (2, .int (nI j))] [] w (fun v w1 => v = some (.int ((pu_fs (pu_rc P C hd i) (2 ^ i ||| 2 ^ j) (2 ^ j) (2 ^ n)).1)) ∧ am_fr DX w w1 ∧ XI n k P C kn kk KP KC ak E hd hv w1) := by
  obtain ⟨hn, hk, hP, hC, hkn, hKP, hKC, hE, hh1, hh2, hrow, hpop, hlen⟩ := id hW
  have hp2 := pu_p2e hn
  refine wp_aload_n (q := 1) d_X_least_0 rfl rfl rfl ?_
  refine wp_iload_n (q := 2) d_X_least_1 rfl rfl rfl ?_
  refine wp_iload_n (q := 3) d_X_least_2 rfl rfl rfl ?_
  refine wp_cV2r (q := 6) d_X_least_3 rfl bd_X_isPair lk_X_74 im_X_isPair se_X_isPair rfl (Nat.le_of_ble_eq_true rfl) (Nat.le_of_ble_eq_true rfl) hX.1 (Nat.le_of_ble_eq_true rfl) (c_isPair hX hn) ?_
  refine wp_if_ne (q := 9) (tgt := 12) d_X_least_6 (by decide) rfl (fun _ => ?_) (fun c6 => absurd c6 (by rw [pu_q_t ⟨i, j, hi, hj, hij, rfl, rfl⟩]; decide))
  refine wp_aload_n (q := 13) d_X_least_12 rfl rfl rfl ?_
  refine wp_iload_n (q := 14) d_X_least_13 rfl rfl rfl ?_
  refine wp_iload_n (q := 15) d_X_least_14 rfl rfl rfl ?_
  refine wp_cS1r (q := 18) d_X_least_15 rfl bd_X_bit lk_X_89 sm_X_bit (Nat.le_of_ble_eq_true rfl) (Nat.le_of_ble_eq_true rfl) (Nat.le_of_ble_eq_true rfl) (c_bit (by omega)) ?_
  refine wp_iload_n (q := 19) d_X_least_18 rfl rfl rfl ?_
  refine wp_cS1r (q := 22) d_X_least_19 rfl bd_X_bit lk_X_89 sm_X_bit (Nat.le_of_ble_eq_true rfl) (Nat.le_of_ble_eq_true rfl) (Nat.le_of_ble_eq_true rfl) (c_bit (by omega)) ?_
  refine wp_ior (q := 23) d_X_least_22 rfl ?_
  rw [pu_or]
  refine wp_iload_n (q := 24) d_X_least_23 rfl rfl rfl ?_
  refine wp_cS1r (q := 27) d_X_least_24 rfl bd_X_bit lk_X_89 sm_X_bit (Nat.le_of_ble_eq_true rfl) (Nat.le_of_ble_eq_true rfl) (Nat.le_of_ble_eq_true rfl) (c_bit (by omega)) ?_
  refine wp_cV3g (q := 30) (bc1 := 0) (bs1 := 0) d_X_least_27 rfl bd_X_fewest lk_X_167 im_X_fewest se_X_fewest rfl (Nat.le_of_ble_eq_true rfl) (Nat.le_of_ble_eq_true rfl) hX.1 (Nat.le_of_ble_eq_true rfl) (c_X_fewest hX hW hi (pu_or_lt (pu_p2 (by omega)) (pu_p2 (by omega))) (pu_p2 (by omega))) (fun v w1 hF => ?_)
  obtain ⟨rfl, f1, hX1⟩ := hF
  exact wp_ireturn rfl d_X_least_30 ⟨rfl, f1, hX1⟩
set_option maxHeartbeats 4000000 in
set_option maxRecDepth 100000 in
theorem c_X_weight_bad {n k : Nat} {P C : Nat → Nat} {kn kk : Nat} {KP KC : Nat → Nat} {ak : Bool} {E : Nat → Nat → Nat} {hd hv : Nat} {w : am_W} (hX : XI n k P C kn kk KP KC ak E hd hv w) (hW : XW n k P C kn kk KP KC E hd hv) {x y : Int32} (hb : ¬ (SE n x ∧ SE n y)) : am_Wp none m_X_weight 3 0 0 0 [(0, .ref 0), (1, .int x), (2, .int y)] [] w (am_R (some (.long (-2))) w) := by
  obtain ⟨hn, hk, hP, hC, hkn, hKP, hKC, hE, hh1, hh2, hrow, hpop, hlen⟩ := id hW
  refine wp_aload_n (q := 1) d_X_weight_0 rfl rfl rfl ?_
  refine wp_iload_n (q := 2) d_X_weight_1 rfl rfl rfl ?_
  refine wp_cV1r (q := 5) d_X_weight_2 rfl bd_X_isSet lk_X_151 im_X_isSet se_X_isSet rfl (Nat.le_of_ble_eq_true rfl) (Nat.le_of_ble_eq_true rfl) hX.1 (Nat.le_of_ble_eq_true rfl) (c_isSet hX hn) ?_
  refine wp_if_eq (q := 8) (tgt := 16) d_X_weight_5 (by decide) rfl (fun c5 => ?_) (fun c5 => ?_)
  · refine wp_ldc2 (q := 19) d_X_weight_16 rfl kk_X_154 ?_
    exact wp_lreturn rfl d_X_weight_19 ⟨rfl, rfl⟩
  · refine wp_aload_n (q := 9) d_X_weight_8 rfl rfl rfl ?_
    refine wp_iload_n (q := 10) d_X_weight_9 rfl rfl rfl ?_
    refine wp_cV1r (q := 13) d_X_weight_10 rfl bd_X_isSet lk_X_151 im_X_isSet se_X_isSet rfl (Nat.le_of_ble_eq_true rfl) (Nat.le_of_ble_eq_true rfl) hX.1 (Nat.le_of_ble_eq_true rfl) (c_isSet hX hn) ?_
    refine wp_if_ne (q := 16) (tgt := 20) d_X_weight_13 (by decide) rfl (fun c13 => absurd (pu_q_f (fun h => hb ⟨pu_q1 c5, h⟩)) c13) (fun _ => ?_)
    refine wp_ldc2 (q := 19) d_X_weight_16 rfl kk_X_154 ?_
    exact wp_lreturn rfl d_X_weight_19 ⟨rfl, rfl⟩
set_option maxHeartbeats 4000000 in
set_option maxRecDepth 100000 in
theorem c_X_weight_L {n k : Nat} {P C : Nat → Nat} {kn kk : Nat} {KP KC : Nat → Nat} {ak : Bool} {E : Nat → Nat → Nat} {hd hv : Nat} {w : am_W} (hX : XI n k P C kn kk KP KC ak E hd hv w) (hW : XW n k P C kn kk KP KC E hd hv) {t v : Nat} (ht : t < 2 ^ n) (hv0 : v < 2 ^ n) : ∀ s, s ≤ 2 ^ n → am_Wp none m_X_weight 5 0 0 34 [(0, .ref 0), (1, .int (nI t)), (2, .int (nI v)), (3, .long (lN (pu_sm (pu_wt P E n hd hv) t v s))), (5, .int (nI (2 ^ n - 1))), (6, .int (nI s))] [] w (am_R (some (.long (lN (pu_sm (pu_wt P E n hd hv) t v (2 ^ n))))) w) := by
  obtain ⟨hn, hk, hP, hC, hkn, hKP, hKC, hE, hh1, hh2, hrow, hpop, hlen⟩ := id hW
  have hp2 := pu_p2e hn
  have hp1 := pu_p1 n
  refine pu_up (P := fun s => am_Wp none m_X_weight 5 0 0 34 [(0, .ref 0), (1, .int (nI t)), (2, .int (nI v)), (3, .long (lN (pu_sm (pu_wt P E n hd hv) t v s))), (5, .int (nI (2 ^ n - 1))), (6, .int (nI s))] [] w (am_R (some (.long (lN (pu_sm (pu_wt P E n hd hv) t v (2 ^ n))))) w)) ?_ ?_
  · show am_Wp _ _ _ _ _ _ _ _ _ _
    refine wp_iload (q := 36) d_X_weight_34 rfl rfl ?_
    refine wp_iload (q := 38) d_X_weight_36 rfl rfl ?_
    refine wp_icmp_gt (q := 41) (tgt := 72) d_X_weight_38 (by decide) rfl (fun _ => ?_) (fun c38 => absurd (nI_lt (by omega) (by omega)) c38)
    refine wp_lload_n (q := 73) d_X_weight_72 rfl rfl rfl ?_
    exact wp_lreturn rfl d_X_weight_73 ⟨rfl, rfl⟩
  · intro s hs ih
    have ih : am_Wp _ _ _ _ _ _ _ _ _ _ := ih
    show am_Wp _ _ _ _ _ _ _ _ _ _
    refine wp_iload (q := 36) d_X_weight_34 rfl rfl ?_
    refine wp_iload (q := 38) d_X_weight_36 rfl rfl ?_
    refine wp_icmp_gt (q := 41) (tgt := 72) d_X_weight_38 (by decide) rfl (fun c38 => absurd c38 (nI_nlt (by omega) (by omega))) (fun _ => ?_)
    refine wp_iload (q := 43) d_X_weight_41 rfl rfl ?_
    refine wp_iload_n (q := 44) d_X_weight_43 rfl rfl rfl ?_
    refine wp_ixor (q := 45) d_X_weight_44 rfl ?_
    rw [pu_xor]
    refine wp_iload_n (q := 46) d_X_weight_45 rfl rfl rfl ?_
    refine wp_iand (q := 47) d_X_weight_46 rfl ?_
    rw [pu_and]
    refine wp_if_ne (q := 50) (tgt := 66) d_X_weight_47 (by decide) rfl (fun c47 => ?_) (fun c47 => ?_)
    · refine wp_inc1 (q := 69) d_X_weight_66 rfl rfl (nI_1 _) (Nat.le_of_ble_eq_true rfl) rfl ?_
      refine wp_goto (tgt := 34) d_X_weight_69 (by decide) ?_
      have e : pu_sm (pu_wt P E n hd hv) t v (s + 1) = pu_sm (pu_wt P E n hd hv) t v s := by simp only [pu_sm]; rw [if_neg (fun h => c47 (by rw [h]; exact nI_0))]
      rw [e] at ih
      exact ih
    · have h47 : (s ^^^ v) &&& t = 0 := pu_nI_inj (Nat.lt_of_le_of_lt Nat.and_le_right (by omega)) (by decide) (c47.trans nI_0.symm)
      refine wp_lload_n (q := 51) d_X_weight_50 rfl rfl rfl ?_
      refine wp_aload_n (q := 52) d_X_weight_51 rfl rfl rfl ?_
      refine wp_get (q := 55) (k := 3) d_X_weight_52 rfl ok_X (Nat.le_of_ble_eq_true rfl) fk_X_26 hX.1 rfl ?_
      refine wp_aload_n (q := 56) d_X_weight_55 rfl rfl rfl ?_
      refine wp_get (q := 59) (k := 0) d_X_weight_56 rfl ok_X (Nat.le_of_ble_eq_true rfl) fk_X_12 hX.1 rfl ?_
      refine wp_iload (q := 61) d_X_weight_59 rfl rfl ?_
      refine wp_cVN2r (q := 64) d_X_weight_61 rfl bd_T_product lk_X_160 im_T_product se_T_product rfl (Nat.le_of_ble_eq_true rfl) (Nat.le_of_ble_eq_true rfl) hX.2.2.2.1.1 (Nat.le_of_ble_eq_true rfl) (c_T_product hX.2.2.2.1 hX.2.1 hn hh1 hh2 hP hE (v := s) (by omega) (fun i hi => hrow i hi s)) ?_
      refine wp_ladd (q := 65) d_X_weight_64 rfl ?_
      rw [lN_add]
      refine wp_lstore_n (q := 66) d_X_weight_65 rfl rfl (Nat.le_of_ble_eq_true rfl) rfl ?_
      refine wp_inc1 (q := 69) d_X_weight_66 rfl rfl (nI_1 _) (Nat.le_of_ble_eq_true rfl) rfl ?_
      refine wp_goto (tgt := 34) d_X_weight_69 (by decide) ?_
      have e : pu_sm (pu_wt P E n hd hv) t v (s + 1) = pu_sm (pu_wt P E n hd hv) t v s + (pu_wt P E n hd hv) s := by simp only [pu_sm]; rw [if_pos h47]
      rw [e] at ih
      exact ih
set_option maxHeartbeats 4000000 in
set_option maxRecDepth 100000 in
theorem c_X_weight {n k : Nat} {P C : Nat → Nat} {kn kk : Nat} {KP KC : Nat → Nat} {ak : Bool} {E : Nat → Nat → Nat} {hd hv : Nat} {w : am_W} (hX : XI n k P C kn kk KP KC ak E hd hv w) (hW : XW n k P C kn kk KP KC E hd hv) {t v : Nat} (ht : t < 2 ^ n) (hv0 : v < 2 ^ n) : am_Wp none m_X_weight 5 0 0 0 [(0, .ref 0), (1, .int (nI t)), (2, .int (nI v))] [] w (am_R (some (.long (lN (pu_sm (pu_wt P E n hd hv) t v (2 ^ n))))) w) := by
  obtain ⟨hn, hk, hP, hC, hkn, hKP, hKC, hE, hh1, hh2, hrow, hpop, hlen⟩ := id hW
  refine wp_aload_n (q := 1) d_X_weight_0 rfl rfl rfl ?_
  refine wp_iload_n (q := 2) d_X_weight_1 rfl rfl rfl ?_
  refine wp_cV1r (q := 5) d_X_weight_2 rfl bd_X_isSet lk_X_151 im_X_isSet se_X_isSet rfl (Nat.le_of_ble_eq_true rfl) (Nat.le_of_ble_eq_true rfl) hX.1 (Nat.le_of_ble_eq_true rfl) (c_isSet hX hn) ?_
  refine wp_if_eq (q := 8) (tgt := 16) d_X_weight_5 (by decide) rfl (fun c5 => absurd c5 (by rw [pu_q_t ⟨t, ht, rfl⟩]; decide)) (fun _ => ?_)
  refine wp_aload_n (q := 9) d_X_weight_8 rfl rfl rfl ?_
  refine wp_iload_n (q := 10) d_X_weight_9 rfl rfl rfl ?_
  refine wp_cV1r (q := 13) d_X_weight_10 rfl bd_X_isSet lk_X_151 im_X_isSet se_X_isSet rfl (Nat.le_of_ble_eq_true rfl) (Nat.le_of_ble_eq_true rfl) hX.1 (Nat.le_of_ble_eq_true rfl) (c_isSet hX hn) ?_
  refine wp_if_ne (q := 16) (tgt := 20) d_X_weight_13 (by decide) rfl (fun _ => ?_) (fun c13 => absurd c13 (by rw [pu_q_t ⟨v, hv0, rfl⟩]; decide))
  refine wp_lconst (q := 21) (v := 0) d_X_weight_20 rfl (by decide) ?_
  refine wp_lstore_n (q := 22) d_X_weight_21 rfl rfl (Nat.le_of_ble_eq_true rfl) rfl ?_
  refine wp_aload_n (q := 23) d_X_weight_22 rfl rfl rfl ?_
  refine wp_get (q := 26) (k := 0) d_X_weight_23 rfl ok_X (Nat.le_of_ble_eq_true rfl) fk_X_12 hX.1 rfl ?_
  refine wp_cVN0r (q := 29) d_X_weight_26 rfl bd_G_everyPlace lk_X_156 im_G_everyPlace se_G_everyPlace rfl (Nat.le_of_ble_eq_true rfl) (Nat.le_of_ble_eq_true rfl) hX.2.1.1 (Nat.le_of_ble_eq_true rfl) (c_G_everyPlace hX.2.1 hn) ?_
  refine wp_istore (q := 31) d_X_weight_29 rfl (Nat.le_of_ble_eq_true rfl) rfl ?_
  refine wp_iconst (q := 32) (v := 0) d_X_weight_31 rfl (by decide) ?_
  refine wp_istore (q := 34) d_X_weight_32 rfl (Nat.le_of_ble_eq_true rfl) rfl ?_
  exact c_X_weight_L hX hW ht hv0 0 (Nat.zero_le _)
set_option maxHeartbeats 4000000 in
set_option maxRecDepth 100000 in
theorem c_X_ld_B {n k : Nat} {P C : Nat → Nat} {kn kk : Nat} {KP KC : Nat → Nat} {ak : Bool} {E : Nat → Nat → Nat} {hd hv : Nat} {w : am_W} (hX : XI n k P C kn kk KP KC ak E hd hv w) (hW : XW n k P C kn kk KP KC E hd hv) {i j t : Nat} (hi : i < n) (hj : j < n) (ht : t < 2 ^ n) {w1 : am_W} (fr : am_fr DX w w1) (hX1 : XI n k P C kn kk KP KC ak E hd hv w1) (m1 : MI 27 28 (t ||| 2 ^ i ||| 2 ^ j) (pu_mg (pu_wt P E n hd hv) (t ||| 2 ^ i ||| 2 ^ j) (2 ^ n)) w1) (m2 : MI 29 30 t (pu_mg (pu_wt P E n hd hv) t (2 ^ n)) w1) (m3 : MI 31 32 (t ||| 2 ^ i) (pu_mg (pu_wt P E n hd hv) (t ||| 2 ^ i) (2 ^ n)) w1) (m4 : MI 33 34 (t ||| 2 ^ j) (pu_mg (pu_wt P E n hd hv) (t ||| 2 ^ j) (2 ^ n)) w1) : ∀ (r v : Nat), v + r = (t ||| 2 ^ i ||| 2 ^ j) + 1 → pu_ld (pu_wt P E n hd hv) (2 ^ n) (t ||| 2 ^ i) (t ||| 2 ^ j) (t ||| 2 ^ i ||| 2 ^ j) t r v = pu_ld (pu_wt P E n hd hv) (2 ^ n) (t ||| 2 ^ i) (t ||| 2 ^ j) (t ||| 2 ^ i ||| 2 ^ j) t ((t ||| 2 ^ i ||| 2 ^ j) + 1) 0 → am_Wp none m_X_leastDifference 6 0 0 143 [(0, .ref 0), (1, .int (nI i)), (2, .int (nI j)), (3, .int (nI t)), (4, .int (nI (t ||| 2 ^ i ||| 2 ^ j))), (5, .int (nI (2 ^ n - 1))), (6, .int (nI v))] [] w1 (fun v w2 => v = some (.int (pu_ld (pu_wt P E n hd hv) (2 ^ n) (t ||| 2 ^ i) (t ||| 2 ^ j) (t ||| 2 ^ i ||| 2 ^ j) t ((t ||| 2 ^ i ||| 2 ^ j) + 1) 0)) ∧ am_fr DX w w2 ∧ XI n k P C kn kk KP KC ak E hd hv w2) := by
  obtain ⟨hn, hk, hP, hC, hkn, hKP, hKC, hE, hh1, hh2, hrow, hpop, hlen⟩ := id hW
  have hp2 := pu_p2e hn
  have hp1 := pu_p1 n
  have b1 : t < 256 := by omega
  have b2 : (t ||| 2 ^ i) < 256 := pu_or_lt b1 (pu_p2 (by omega))
  have b3 : (t ||| 2 ^ j) < 256 := pu_or_lt b1 (pu_p2 (by omega))
  have b4 : (t ||| 2 ^ i ||| 2 ^ j) < 256 := pu_or_lt b2 (pu_p2 (by omega))
  intro r
  induction r with
  | zero =>
    intro v hv1 hres
    refine wp_iload (q := 145) d_X_leastDifference_143 rfl rfl ?_
    refine wp_iload (q := 147) d_X_leastDifference_145 rfl rfl ?_
    refine wp_icmp_gt (q := 150) (tgt := 211) d_X_leastDifference_147 (by decide) rfl (fun _ => ?_) (fun c147 => absurd (nI_lt (by omega) (by omega)) c147)
    refine wp_iconst (q := 212) (v := -1) d_X_leastDifference_211 rfl (by decide) ?_
    exact wp_ireturn rfl d_X_leastDifference_212 ⟨by rw [← hres]; rfl, fr, hX1⟩
  | succ r ih =>
    intro v hv1 hres
    refine wp_iload (q := 145) d_X_leastDifference_143 rfl rfl ?_
    refine wp_iload (q := 147) d_X_leastDifference_145 rfl rfl ?_
    refine wp_icmp_gt (q := 150) (tgt := 211) d_X_leastDifference_147 (by decide) rfl (fun c147 => absurd c147 (nI_nlt (by omega) (by omega))) (fun _ => ?_)
    refine wp_iload (q := 152) d_X_leastDifference_150 rfl rfl ?_
    refine wp_iload (q := 154) d_X_leastDifference_152 rfl rfl ?_
    refine wp_iconst (q := 155) (v := -1) d_X_leastDifference_154 rfl (by decide) ?_
    refine wp_ixor (q := 156) d_X_leastDifference_155 rfl ?_
    refine wp_iand (q := 157) d_X_leastDifference_156 rfl ?_
    rw [pu_not]
    refine wp_if_ne (q := 160) (tgt := 205) d_X_leastDifference_157 (by decide) rfl (fun c157 => ?_) (fun c157 => ?_)
    · refine wp_inc1 (q := 208) d_X_leastDifference_205 rfl rfl (nI_1 _) (Nat.le_of_ble_eq_true rfl) rfl ?_
      refine wp_goto (tgt := 143) d_X_leastDifference_208 (by decide) ?_
      have e : pu_ld (pu_wt P E n hd hv) (2 ^ n) (t ||| 2 ^ i) (t ||| 2 ^ j) (t ||| 2 ^ i ||| 2 ^ j) t (r + 1) v = pu_ld (pu_wt P E n hd hv) (2 ^ n) (t ||| 2 ^ i) (t ||| 2 ^ j) (t ||| 2 ^ i ||| 2 ^ j) t r (v + 1) := by simp only [pu_ld]; rw [if_neg (fun h => c157 (by rw [h.1]; exact nI_0))]
      rw [e] at hres
      exact ih (v + 1) (by omega) hres
    · have h157 : pu_dif v (t ||| 2 ^ i ||| 2 ^ j) = 0 := pu_nI_inj (Nat.lt_trans (pu_dif_lt (show v < 256 by omega)) (by decide)) (by decide) (c157.trans nI_0.symm)
      refine wp_aload_n (q := 161) d_X_leastDifference_160 rfl rfl rfl ?_
      refine wp_get (q := 164) (k := 6) d_X_leastDifference_161 rfl ok_X (Nat.le_of_ble_eq_true rfl) fk_X_47 hX1.1 rfl ?_
      refine wp_iload (q := 166) d_X_leastDifference_164 rfl rfl ?_
      refine wp_cVN1r (q := 169) d_X_leastDifference_166 rfl bd_N_sum lk_X_202 im_N_sum se_N_sum rfl (Nat.le_of_ble_eq_true rfl) (Nat.le_of_ble_eq_true rfl) m1.1 (Nat.le_of_ble_eq_true rfl) (c_N_sum m1 b4) ?_
      refine wp_aload_n (q := 170) d_X_leastDifference_169 rfl rfl rfl ?_
      refine wp_get (q := 173) (k := 7) d_X_leastDifference_170 rfl ok_X (Nat.le_of_ble_eq_true rfl) fk_X_51 hX1.1 rfl ?_
      refine wp_iload (q := 175) d_X_leastDifference_173 rfl rfl ?_
      refine wp_cVN1r (q := 178) d_X_leastDifference_175 rfl bd_N_sum lk_X_202 im_N_sum se_N_sum rfl (Nat.le_of_ble_eq_true rfl) (Nat.le_of_ble_eq_true rfl) m2.1 (Nat.le_of_ble_eq_true rfl) (c_N_sum m2 b1) ?_
      refine wp_lmul (q := 179) d_X_leastDifference_178 rfl ?_
      rw [lN_mul]
      refine wp_aload_n (q := 180) d_X_leastDifference_179 rfl rfl rfl ?_
      refine wp_get (q := 183) (k := 8) d_X_leastDifference_180 rfl ok_X (Nat.le_of_ble_eq_true rfl) fk_X_54 hX1.1 rfl ?_
      refine wp_iload (q := 185) d_X_leastDifference_183 rfl rfl ?_
      refine wp_cVN1r (q := 188) d_X_leastDifference_185 rfl bd_N_sum lk_X_202 im_N_sum se_N_sum rfl (Nat.le_of_ble_eq_true rfl) (Nat.le_of_ble_eq_true rfl) m3.1 (Nat.le_of_ble_eq_true rfl) (c_N_sum m3 b2) ?_
      refine wp_aload_n (q := 189) d_X_leastDifference_188 rfl rfl rfl ?_
      refine wp_get (q := 192) (k := 9) d_X_leastDifference_189 rfl ok_X (Nat.le_of_ble_eq_true rfl) fk_X_57 hX1.1 rfl ?_
      refine wp_iload (q := 194) d_X_leastDifference_192 rfl rfl ?_
      refine wp_cVN1r (q := 197) d_X_leastDifference_194 rfl bd_N_sum lk_X_202 im_N_sum se_N_sum rfl (Nat.le_of_ble_eq_true rfl) (Nat.le_of_ble_eq_true rfl) m4.1 (Nat.le_of_ble_eq_true rfl) (c_N_sum m4 b3) ?_
      refine wp_lmul (q := 198) d_X_leastDifference_197 rfl ?_
      rw [lN_mul]
      refine wp_lcmp (q := 199) d_X_leastDifference_198 rfl ?_
      refine wp_if_eq (q := 202) (tgt := 205) d_X_leastDifference_199 (by decide) rfl (fun c199 => ?_) (fun c199 => ?_)
      · refine wp_inc1 (q := 208) d_X_leastDifference_205 rfl rfl (nI_1 _) (Nat.le_of_ble_eq_true rfl) rfl ?_
        refine wp_goto (tgt := 143) d_X_leastDifference_208 (by decide) ?_
        have e : pu_ld (pu_wt P E n hd hv) (2 ^ n) (t ||| 2 ^ i) (t ||| 2 ^ j) (t ||| 2 ^ i ||| 2 ^ j) t (r + 1) v = pu_ld (pu_wt P E n hd hv) (2 ^ n) (t ||| 2 ^ i) (t ||| 2 ^ j) (t ||| 2 ^ i ||| 2 ^ j) t r (v + 1) := by simp only [pu_ld]; rw [if_neg (fun h => h.2 (lg_cmp0.mp c199))]
        rw [e] at hres
        exact ih (v + 1) (by omega) hres
      · refine wp_iload (q := 204) d_X_leastDifference_202 rfl rfl ?_
        exact wp_ireturn rfl d_X_leastDifference_204 ⟨by rw [← hres]; simp only [pu_ld]; rw [if_pos ⟨h157, fun h => c199 (lg_cmp0.mpr h)⟩], fr, hX1⟩
set_option maxHeartbeats 4000000 in
set_option maxRecDepth 100000 in
theorem c_X_ld_A {n k : Nat} {P C : Nat → Nat} {kn kk : Nat} {KP KC : Nat → Nat} {ak : Bool} {E : Nat → Nat → Nat} {hd hv : Nat} {w : am_W} (hX : XI n k P C kn kk KP KC ak E hd hv w) (hW : XW n k P C kn kk KP KC E hd hv) {i j t : Nat} (hi : i < n) (hj : j < n) (ht : t < 2 ^ n) : ∀ s, s ≤ 2 ^ n → ∀ w1, am_fr DX w w1 → XI n k P C kn kk KP KC ak E hd hv w1 → MI 27 28 (t ||| 2 ^ i ||| 2 ^ j) (pu_mg (pu_wt P E n hd hv) (t ||| 2 ^ i ||| 2 ^ j) s) w1 → MI 29 30 t (pu_mg (pu_wt P E n hd hv) t s) w1 → MI 31 32 (t ||| 2 ^ i) (pu_mg (pu_wt P E n hd hv) (t ||| 2 ^ i) s) w1 → MI 33 34 (t ||| 2 ^ j) (pu_mg (pu_wt P E n hd hv) (t ||| 2 ^ j) s) w1 → am_Wp none m_X_leastDifference 6 0 0 68 [(0, .ref 0), (1, .int (nI i)), (2, .int (nI j)), (3, .int (nI t)), (4, .int (nI (t ||| 2 ^ i ||| 2 ^ j))), (5, .int (nI (2 ^ n - 1))), (6, .int (nI s))] [] w1 (fun v w2 => v = some (.int (pu_ld (pu_wt P E n hd hv) (2 ^ n) (t ||| 2 ^ i) (t ||| 2 ^ j) (t ||| 2 ^ i ||| 2 ^ j) t ((t ||| 2 ^ i ||| 2 ^ j) + 1) 0)) ∧ am_fr DX w w2 ∧ XI n k P C kn kk KP KC ak E hd hv w2) := by
  obtain ⟨hn, hk, hP, hC, hkn, hKP, hKC, hE, hh1, hh2, hrow, hpop, hlen⟩ := id hW
  have hp2 := pu_p2e hn
  have hp1 := pu_p1 n
  have b1 : t < 256 := by omega
  have b2 : (t ||| 2 ^ i) < 256 := pu_or_lt b1 (pu_p2 (by omega))
  have b3 : (t ||| 2 ^ j) < 256 := pu_or_lt b1 (pu_p2 (by omega))
  have b4 : (t ||| 2 ^ i ||| 2 ^ j) < 256 := pu_or_lt b2 (pu_p2 (by omega))
  refine pu_up (P := fun s => ∀ w1, am_fr DX w w1 → XI n k P C kn kk KP KC ak E hd hv w1 → MI 27 28 (t ||| 2 ^ i ||| 2 ^ j) (pu_mg (pu_wt P E n hd hv) (t ||| 2 ^ i ||| 2 ^ j) s) w1 → MI 29 30 t (pu_mg (pu_wt P E n hd hv) t s) w1 → MI 31 32 (t ||| 2 ^ i) (pu_mg (pu_wt P E n hd hv) (t ||| 2 ^ i) s) w1 → MI 33 34 (t ||| 2 ^ j) (pu_mg (pu_wt P E n hd hv) (t ||| 2 ^ j) s) w1 → am_Wp none m_X_leastDifference 6 0 0 68 [(0, .ref 0), (1, .int (nI i)), (2, .int (nI j)), (3, .int (nI t)), (4, .int (nI (t ||| 2 ^ i ||| 2 ^ j))), (5, .int (nI (2 ^ n - 1))), (6, .int (nI s))] [] w1 (fun v w2 => v = some (.int (pu_ld (pu_wt P E n hd hv) (2 ^ n) (t ||| 2 ^ i) (t ||| 2 ^ j) (t ||| 2 ^ i ||| 2 ^ j) t ((t ||| 2 ^ i ||| 2 ^ j) + 1) 0)) ∧ am_fr DX w w2 ∧ XI n k P C kn kk KP KC ak E hd hv w2)) ?_ ?_
  · intro w1 fr hX1 m1 m2 m3 m4
    refine wp_iload (q := 70) d_X_leastDifference_68 rfl rfl ?_
    refine wp_iload (q := 72) d_X_leastDifference_70 rfl rfl ?_
    refine wp_icmp_gt (q := 75) (tgt := 140) d_X_leastDifference_72 (by decide) rfl (fun _ => ?_) (fun c72 => absurd (nI_lt (by omega) (by omega)) c72)
    refine wp_iconst (q := 141) (v := 0) d_X_leastDifference_140 rfl (by decide) ?_
    refine wp_istore (q := 143) d_X_leastDifference_141 rfl (Nat.le_of_ble_eq_true rfl) rfl ?_
    exact c_X_ld_B hX hW hi hj ht fr hX1 m1 m2 m3 m4 ((t ||| 2 ^ i ||| 2 ^ j) + 1) 0 (by omega) rfl
  · intro s hs ih w1 fr hX1 m1 m2 m3 m4
    refine wp_iload (q := 70) d_X_leastDifference_68 rfl rfl ?_
    refine wp_iload (q := 72) d_X_leastDifference_70 rfl rfl ?_
    refine wp_icmp_gt (q := 75) (tgt := 140) d_X_leastDifference_72 (by decide) rfl (fun c72 => absurd c72 (nI_nlt (by omega) (by omega))) (fun _ => ?_)
    refine wp_aload_n (q := 76) d_X_leastDifference_75 rfl rfl rfl ?_
    refine wp_get (q := 79) (k := 3) d_X_leastDifference_76 rfl ok_X (Nat.le_of_ble_eq_true rfl) fk_X_26 hX1.1 rfl ?_
    refine wp_aload_n (q := 80) d_X_leastDifference_79 rfl rfl rfl ?_
    refine wp_get (q := 83) (k := 0) d_X_leastDifference_80 rfl ok_X (Nat.le_of_ble_eq_true rfl) fk_X_12 hX1.1 rfl ?_
    refine wp_iload (q := 85) d_X_leastDifference_83 rfl rfl ?_
    refine wp_cVN2r (q := 88) d_X_leastDifference_85 rfl bd_T_product lk_X_160 im_T_product se_T_product rfl (Nat.le_of_ble_eq_true rfl) (Nat.le_of_ble_eq_true rfl) hX1.2.2.2.1.1 (Nat.le_of_ble_eq_true rfl) (c_T_product hX1.2.2.2.1 hX1.2.1 hn hh1 hh2 hP hE (v := s) (by omega) (fun i hi => hrow i hi s)) ?_
    refine wp_lstore (q := 90) d_X_leastDifference_88 rfl (Nat.le_of_ble_eq_true rfl) rfl ?_
    refine wp_aload_n (q := 91) d_X_leastDifference_90 rfl rfl rfl ?_
    refine wp_get (q := 94) (k := 6) d_X_leastDifference_91 rfl ok_X (Nat.le_of_ble_eq_true rfl) fk_X_47 hX1.1 rfl ?_
    refine wp_iload (q := 96) d_X_leastDifference_94 rfl rfl ?_
    refine wp_lload (q := 98) d_X_leastDifference_96 rfl rfl ?_
    refine wp_cVN2g (q := 101) (bc1 := 0) (bs1 := 0) d_X_leastDifference_98 rfl bd_N_add lk_X_198 im_N_add se_N_add rfl (Nat.le_of_ble_eq_true rfl) (Nat.le_of_ble_eq_true rfl) m1.1 (Nat.le_of_ble_eq_true rfl) (c_N_add m1 b4 (by decide)) (fun v w98 hF => ?_)
    obtain ⟨rfl, ff, m1⟩ := hF
    have m2 := m2.at ff (by decide) (by decide)
    have m3 := m3.at ff (by decide) (by decide)
    have m4 := m4.at ff (by decide) (by decide)
    have fr := fr.tr (ff.x (by decide))
    have hX1 := hX1.m (ff.up (by decide)) m1.s m2.s m3.s m4.s
    refine wp_aload_n (q := 102) d_X_leastDifference_101 rfl rfl rfl ?_
    refine wp_get (q := 105) (k := 7) d_X_leastDifference_102 rfl ok_X (Nat.le_of_ble_eq_true rfl) fk_X_51 hX1.1 rfl ?_
    refine wp_iload (q := 107) d_X_leastDifference_105 rfl rfl ?_
    refine wp_lload (q := 109) d_X_leastDifference_107 rfl rfl ?_
    refine wp_cVN2g (q := 112) (bc1 := 0) (bs1 := 0) d_X_leastDifference_109 rfl bd_N_add lk_X_198 im_N_add se_N_add rfl (Nat.le_of_ble_eq_true rfl) (Nat.le_of_ble_eq_true rfl) m2.1 (Nat.le_of_ble_eq_true rfl) (c_N_add m2 b1 (by decide)) (fun v w109 hF => ?_)
    obtain ⟨rfl, ff, m2⟩ := hF
    have m1 := m1.at ff (by decide) (by decide)
    have m3 := m3.at ff (by decide) (by decide)
    have m4 := m4.at ff (by decide) (by decide)
    have fr := fr.tr (ff.x (by decide))
    have hX1 := hX1.m (ff.up (by decide)) m1.s m2.s m3.s m4.s
    refine wp_aload_n (q := 113) d_X_leastDifference_112 rfl rfl rfl ?_
    refine wp_get (q := 116) (k := 8) d_X_leastDifference_113 rfl ok_X (Nat.le_of_ble_eq_true rfl) fk_X_54 hX1.1 rfl ?_
    refine wp_iload (q := 118) d_X_leastDifference_116 rfl rfl ?_
    refine wp_lload (q := 120) d_X_leastDifference_118 rfl rfl ?_
    refine wp_cVN2g (q := 123) (bc1 := 0) (bs1 := 0) d_X_leastDifference_120 rfl bd_N_add lk_X_198 im_N_add se_N_add rfl (Nat.le_of_ble_eq_true rfl) (Nat.le_of_ble_eq_true rfl) m3.1 (Nat.le_of_ble_eq_true rfl) (c_N_add m3 b2 (by decide)) (fun v w120 hF => ?_)
    obtain ⟨rfl, ff, m3⟩ := hF
    have m1 := m1.at ff (by decide) (by decide)
    have m2 := m2.at ff (by decide) (by decide)
    have m4 := m4.at ff (by decide) (by decide)
    have fr := fr.tr (ff.x (by decide))
    have hX1 := hX1.m (ff.up (by decide)) m1.s m2.s m3.s m4.s
    refine wp_aload_n (q := 124) d_X_leastDifference_123 rfl rfl rfl ?_
    refine wp_get (q := 127) (k := 9) d_X_leastDifference_124 rfl ok_X (Nat.le_of_ble_eq_true rfl) fk_X_57 hX1.1 rfl ?_
    refine wp_iload (q := 129) d_X_leastDifference_127 rfl rfl ?_
    refine wp_lload (q := 131) d_X_leastDifference_129 rfl rfl ?_
    refine wp_cVN2g (q := 134) (bc1 := 0) (bs1 := 0) d_X_leastDifference_131 rfl bd_N_add lk_X_198 im_N_add se_N_add rfl (Nat.le_of_ble_eq_true rfl) (Nat.le_of_ble_eq_true rfl) m4.1 (Nat.le_of_ble_eq_true rfl) (c_N_add m4 b3 (by decide)) (fun v w131 hF => ?_)
    obtain ⟨rfl, ff, m4⟩ := hF
    have m1 := m1.at ff (by decide) (by decide)
    have m2 := m2.at ff (by decide) (by decide)
    have m3 := m3.at ff (by decide) (by decide)
    have fr := fr.tr (ff.x (by decide))
    have hX1 := hX1.m (ff.up (by decide)) m1.s m2.s m3.s m4.s
    refine wp_inc1 (q := 137) d_X_leastDifference_134 rfl rfl (nI_1 _) (Nat.le_of_ble_eq_true rfl) rfl ?_
    refine wp_goto (tgt := 68) d_X_leastDifference_137 (by decide) ?_
    refine wp_lo [(0, .ref 0), (1, .int (nI i)), (2, .int (nI j)), (3, .int (nI t)), (4, .int (nI (t ||| 2 ^ i ||| 2 ^ j))), (5, .int (nI (2 ^ n - 1))), (6, .int (nI (s + 1)))] ⟨rfl, rfl, rfl, rfl, rfl, rfl, rfl, trivial⟩ ?_
    exact ih _ fr hX1 m1 m2 m3 m4
set_option maxHeartbeats 4000000 in
set_option maxRecDepth 100000 in
theorem c_X_ld {n k : Nat} {P C : Nat → Nat} {kn kk : Nat} {KP KC : Nat → Nat} {ak : Bool} {E : Nat → Nat → Nat} {hd hv : Nat} {w : am_W} (hX : XI n k P C kn kk KP KC ak E hd hv w) (hW : XW n k P C kn kk KP KC E hd hv) {i j t : Nat} (hi : i < n) (hj : j < n) (ht : t < 2 ^ n) : am_Wp none m_X_leastDifference 6 0 0 0 [(0, .ref 0), (1, .int (nI i)), (2, .int (nI j)), (3, .int (nI t))] [] w (fun v w2 => v = some (.int (pu_ld (pu_wt P E n hd hv) (2 ^ n) (t ||| 2 ^ i) (t ||| 2 ^ j) (t ||| 2 ^ i ||| 2 ^ j) t ((t ||| 2 ^ i ||| 2 ^ j) + 1) 0)) ∧ am_fr DX w w2 ∧ XI n k P C kn kk KP KC ak E hd hv w2) := by
  obtain ⟨hn, hk, hP, hC, hkn, hKP, hKC, hE, hh1, hh2, hrow, hpop, hlen⟩ := id hW
  have hp2 := pu_p2e hn
  have hp1 := pu_p1 n
  have b1 : t < 256 := by omega
  have b2 : (t ||| 2 ^ i) < 256 := pu_or_lt b1 (pu_p2 (by omega))
  have b3 : (t ||| 2 ^ j) < 256 := pu_or_lt b1 (pu_p2 (by omega))
  have b4 : (t ||| 2 ^ i ||| 2 ^ j) < 256 := pu_or_lt b2 (pu_p2 (by omega))
  have hX0 := hX
  have fr : am_fr DX w w := am_fr.rf
  refine wp_iload_n (q := 1) d_X_leastDifference_0 rfl rfl rfl ?_
  refine wp_iload_n (q := 2) d_X_leastDifference_1 rfl rfl rfl ?_
  refine wp_cS1r (q := 5) d_X_leastDifference_2 rfl bd_X_bit lk_X_89 sm_X_bit (Nat.le_of_ble_eq_true rfl) (Nat.le_of_ble_eq_true rfl) (Nat.le_of_ble_eq_true rfl) (c_bit (by omega)) ?_
  refine wp_ior (q := 6) d_X_leastDifference_5 rfl ?_
  rw [pu_or]
  refine wp_iload_n (q := 7) d_X_leastDifference_6 rfl rfl rfl ?_
  refine wp_cS1r (q := 10) d_X_leastDifference_7 rfl bd_X_bit lk_X_89 sm_X_bit (Nat.le_of_ble_eq_true rfl) (Nat.le_of_ble_eq_true rfl) (Nat.le_of_ble_eq_true rfl) (c_bit (by omega)) ?_
  refine wp_ior (q := 11) d_X_leastDifference_10 rfl ?_
  rw [pu_or]
  refine wp_istore (q := 13) d_X_leastDifference_11 rfl (Nat.le_of_ble_eq_true rfl) rfl ?_
  refine wp_aload_n (q := 14) d_X_leastDifference_13 rfl rfl rfl ?_
  refine wp_get (q := 17) (k := 6) d_X_leastDifference_14 rfl ok_X (Nat.le_of_ble_eq_true rfl) fk_X_47 hX.1 rfl ?_
  refine wp_iload (q := 19) d_X_leastDifference_17 rfl rfl ?_
  refine wp_cVN1g (q := 22) (bc1 := 0) (bs1 := 0) d_X_leastDifference_19 rfl bd_N_start lk_X_195 im_N_start se_N_start rfl (Nat.le_of_ble_eq_true rfl) (Nat.le_of_ble_eq_true rfl) (hX.2.2.2.2.2.2.1).1.choose_spec (Nat.le_of_ble_eq_true rfl) (c_N_start (hX.2.2.2.2.2.2.1) (by decide)) (fun v w19 hF => ?_)
  obtain ⟨rfl, ff, m1⟩ := hF
  have n1 := m1.s
  have n2 := (hX.2.2.2.2.2.2.2.1).at ff (by decide) (by decide)
  have n3 := (hX.2.2.2.2.2.2.2.2.1).at ff (by decide) (by decide)
  have n4 := (hX.2.2.2.2.2.2.2.2.2).at ff (by decide) (by decide)
  have hX := hX.m (ff.up (by decide)) n1 n2 n3 n4
  have fr := fr.tr (ff.x (by decide))
  refine wp_aload_n (q := 23) d_X_leastDifference_22 rfl rfl rfl ?_
  refine wp_get (q := 26) (k := 7) d_X_leastDifference_23 rfl ok_X (Nat.le_of_ble_eq_true rfl) fk_X_51 hX.1 rfl ?_
  refine wp_iload_n (q := 27) d_X_leastDifference_26 rfl rfl rfl ?_
  refine wp_cVN1g (q := 30) (bc1 := 0) (bs1 := 0) d_X_leastDifference_27 rfl bd_N_start lk_X_195 im_N_start se_N_start rfl (Nat.le_of_ble_eq_true rfl) (Nat.le_of_ble_eq_true rfl) (hX.2.2.2.2.2.2.2.1).1.choose_spec (Nat.le_of_ble_eq_true rfl) (c_N_start (hX.2.2.2.2.2.2.2.1) (by decide)) (fun v w27 hF => ?_)
  obtain ⟨rfl, ff, m2⟩ := hF
  have m1 := m1.at ff (by decide) (by decide)
  have n1 := m1.s
  have n2 := m2.s
  have n3 := (hX.2.2.2.2.2.2.2.2.1).at ff (by decide) (by decide)
  have n4 := (hX.2.2.2.2.2.2.2.2.2).at ff (by decide) (by decide)
  have hX := hX.m (ff.up (by decide)) n1 n2 n3 n4
  have fr := fr.tr (ff.x (by decide))
  refine wp_aload_n (q := 31) d_X_leastDifference_30 rfl rfl rfl ?_
  refine wp_get (q := 34) (k := 8) d_X_leastDifference_31 rfl ok_X (Nat.le_of_ble_eq_true rfl) fk_X_54 hX.1 rfl ?_
  refine wp_iload_n (q := 35) d_X_leastDifference_34 rfl rfl rfl ?_
  refine wp_iload_n (q := 36) d_X_leastDifference_35 rfl rfl rfl ?_
  refine wp_cS1r (q := 39) d_X_leastDifference_36 rfl bd_X_bit lk_X_89 sm_X_bit (Nat.le_of_ble_eq_true rfl) (Nat.le_of_ble_eq_true rfl) (Nat.le_of_ble_eq_true rfl) (c_bit (by omega)) ?_
  refine wp_ior (q := 40) d_X_leastDifference_39 rfl ?_
  rw [pu_or]
  refine wp_cVN1g (q := 43) (bc1 := 0) (bs1 := 0) d_X_leastDifference_40 rfl bd_N_start lk_X_195 im_N_start se_N_start rfl (Nat.le_of_ble_eq_true rfl) (Nat.le_of_ble_eq_true rfl) (hX.2.2.2.2.2.2.2.2.1).1.choose_spec (Nat.le_of_ble_eq_true rfl) (c_N_start (hX.2.2.2.2.2.2.2.2.1) (by decide)) (fun v w40 hF => ?_)
  obtain ⟨rfl, ff, m3⟩ := hF
  have m1 := m1.at ff (by decide) (by decide)
  have m2 := m2.at ff (by decide) (by decide)
  have n1 := m1.s
  have n2 := m2.s
  have n3 := m3.s
  have n4 := (hX.2.2.2.2.2.2.2.2.2).at ff (by decide) (by decide)
  have hX := hX.m (ff.up (by decide)) n1 n2 n3 n4
  have fr := fr.tr (ff.x (by decide))
  refine wp_aload_n (q := 44) d_X_leastDifference_43 rfl rfl rfl ?_
  refine wp_get (q := 47) (k := 9) d_X_leastDifference_44 rfl ok_X (Nat.le_of_ble_eq_true rfl) fk_X_57 hX.1 rfl ?_
  refine wp_iload_n (q := 48) d_X_leastDifference_47 rfl rfl rfl ?_
  refine wp_iload_n (q := 49) d_X_leastDifference_48 rfl rfl rfl ?_
  refine wp_cS1r (q := 52) d_X_leastDifference_49 rfl bd_X_bit lk_X_89 sm_X_bit (Nat.le_of_ble_eq_true rfl) (Nat.le_of_ble_eq_true rfl) (Nat.le_of_ble_eq_true rfl) (c_bit (by omega)) ?_
  refine wp_ior (q := 53) d_X_leastDifference_52 rfl ?_
  rw [pu_or]
  refine wp_cVN1g (q := 56) (bc1 := 0) (bs1 := 0) d_X_leastDifference_53 rfl bd_N_start lk_X_195 im_N_start se_N_start rfl (Nat.le_of_ble_eq_true rfl) (Nat.le_of_ble_eq_true rfl) (hX.2.2.2.2.2.2.2.2.2).1.choose_spec (Nat.le_of_ble_eq_true rfl) (c_N_start (hX.2.2.2.2.2.2.2.2.2) (by decide)) (fun v w53 hF => ?_)
  obtain ⟨rfl, ff, m4⟩ := hF
  have m1 := m1.at ff (by decide) (by decide)
  have m2 := m2.at ff (by decide) (by decide)
  have m3 := m3.at ff (by decide) (by decide)
  have n1 := m1.s
  have n2 := m2.s
  have n3 := m3.s
  have n4 := m4.s
  have hX := hX.m (ff.up (by decide)) n1 n2 n3 n4
  have fr := fr.tr (ff.x (by decide))
  refine wp_aload_n (q := 57) d_X_leastDifference_56 rfl rfl rfl ?_
  refine wp_get (q := 60) (k := 0) d_X_leastDifference_57 rfl ok_X (Nat.le_of_ble_eq_true rfl) fk_X_12 hX.1 rfl ?_
  refine wp_cVN0r (q := 63) d_X_leastDifference_60 rfl bd_G_everyPlace lk_X_156 im_G_everyPlace se_G_everyPlace rfl (Nat.le_of_ble_eq_true rfl) (Nat.le_of_ble_eq_true rfl) hX.2.1.1 (Nat.le_of_ble_eq_true rfl) (c_G_everyPlace hX.2.1 hn) ?_
  refine wp_istore (q := 65) d_X_leastDifference_63 rfl (Nat.le_of_ble_eq_true rfl) rfl ?_
  refine wp_iconst (q := 66) (v := 0) d_X_leastDifference_65 rfl (by decide) ?_
  refine wp_istore (q := 68) d_X_leastDifference_66 rfl (Nat.le_of_ble_eq_true rfl) rfl ?_
  exact c_X_ld_A hX0 hW hi hj ht 0 (Nat.zero_le _) _ fr hX m1 m2 m3 m4
set_option maxHeartbeats 4000000 in
set_option maxRecDepth 100000 in
theorem c_X_differ {n k : Nat} {P C : Nat → Nat} {kn kk : Nat} {KP KC : Nat → Nat} {ak : Bool} {E : Nat → Nat → Nat} {hd hv : Nat} {w : am_W} (hX : XI n k P C kn kk KP KC ak E hd hv w) (hW : XW n k P C kn kk KP KC E hd hv) {i j t : Nat} (hi : i < n) (hj : j < n) (hij : i ≠ j) (ht : t < 2 ^ n) (hti : t.testBit i = false) (htj : t.testBit j = false) : am_Wp none m_X_differ 7 0 0 0 [(0, .ref 0), (1, .int (nI i)), (2, .int (nI j)), (3, .int (nI t))] [] w (fun v w1 => v = some (.int (pu_ld (pu_wt P E n hd hv) (2 ^ n) (t ||| 2 ^ i) (t ||| 2 ^ j) (t ||| 2 ^ i ||| 2 ^ j) t ((t ||| 2 ^ i ||| 2 ^ j) + 1) 0)) ∧ am_fr DX w w1 ∧ XI n k P C kn kk KP KC ak E hd hv w1) := by
  obtain ⟨hn, hk, hP, hC, hkn, hKP, hKC, hE, hh1, hh2, hrow, hpop, hlen⟩ := id hW
  refine wp_aload_n (q := 1) d_X_differ_0 rfl rfl rfl ?_
  refine wp_iload_n (q := 2) d_X_differ_1 rfl rfl rfl ?_
  refine wp_iload_n (q := 3) d_X_differ_2 rfl rfl rfl ?_
  refine wp_iload_n (q := 4) d_X_differ_3 rfl rfl rfl ?_
  refine wp_cV3r (q := 7) d_X_differ_4 rfl bd_X_isQuestion lk_X_139 im_X_isQuestion se_X_isQuestion rfl (Nat.le_of_ble_eq_true rfl) (Nat.le_of_ble_eq_true rfl) hX.1 (Nat.le_of_ble_eq_true rfl) (c_isQuestion hX hn) ?_
  refine wp_if_eq (q := 10) (tgt := 20) d_X_differ_7 (by decide) rfl (fun c7 => absurd c7 (by rw [pu_q_t ⟨i, j, t, hi, hj, hij, ht, rfl, rfl, rfl, hti, htj⟩]; decide)) (fun _ => ?_)
  refine wp_aload_n (q := 11) d_X_differ_10 rfl rfl rfl ?_
  refine wp_iload_n (q := 12) d_X_differ_11 rfl rfl rfl ?_
  refine wp_iload_n (q := 13) d_X_differ_12 rfl rfl rfl ?_
  refine wp_iload_n (q := 14) d_X_differ_13 rfl rfl rfl ?_
  refine wp_cV3g (q := 17) (bc1 := 0) (bs1 := 0) d_X_differ_14 rfl bd_X_leastDifference lk_X_164 im_X_leastDifference se_X_leastDifference rfl (Nat.le_of_ble_eq_true rfl) (Nat.le_of_ble_eq_true rfl) hX.1 (Nat.le_of_ble_eq_true rfl) (c_X_ld hX hW hi hj ht) (fun v w1 hF => ?_)
  obtain ⟨rfl, f1, hX1⟩ := hF
  refine wp_goto (tgt := 22) d_X_differ_17 (by decide) ?_
  exact wp_ireturn rfl d_X_differ_22 ⟨rfl, f1, hX1⟩
set_option maxHeartbeats 4000000 in
set_option maxRecDepth 100000 in
theorem c_X_independent {n k : Nat} {P C : Nat → Nat} {kn kk : Nat} {KP KC : Nat → Nat} {ak : Bool} {E : Nat → Nat → Nat} {hd hv : Nat} {w : am_W} (hX : XI n k P C kn kk KP KC ak E hd hv w) (hW : XW n k P C kn kk KP KC E hd hv) {i j t : Nat} (hi : i < n) (hj : j < n) (hij : i ≠ j) (ht : t < 2 ^ n) (hti : t.testBit i = false) (htj : t.testBit j = false) : am_Wp none m_X_independent 7 0 0 0 [(0, .ref 0), (1, .int (nI i)), (2, .int (nI j)), (3, .int (nI t))] [] w (fun v w1 => v = some (.int (pu_q (pu_ld (pu_wt P E n hd hv) (2 ^ n) (t ||| 2 ^ i) (t ||| 2 ^ j) (t ||| 2 ^ i ||| 2 ^ j) t ((t ||| 2 ^ i ||| 2 ^ j) + 1) 0 = -1))) ∧ am_fr DX w w1 ∧ XI n k P C kn kk KP KC ak E hd hv w1) := by
  obtain ⟨hn, hk, hP, hC, hkn, hKP, hKC, hE, hh1, hh2, hrow, hpop, hlen⟩ := id hW
  refine wp_aload_n (q := 1) d_X_independent_0 rfl rfl rfl ?_
  refine wp_iload_n (q := 2) d_X_independent_1 rfl rfl rfl ?_
  refine wp_iload_n (q := 3) d_X_independent_2 rfl rfl rfl ?_
  refine wp_iload_n (q := 4) d_X_independent_3 rfl rfl rfl ?_
  refine wp_cV3r (q := 7) d_X_independent_4 rfl bd_X_isQuestion lk_X_139 im_X_isQuestion se_X_isQuestion rfl (Nat.le_of_ble_eq_true rfl) (Nat.le_of_ble_eq_true rfl) hX.1 (Nat.le_of_ble_eq_true rfl) (c_isQuestion hX hn) ?_
  refine wp_if_ne (q := 10) (tgt := 13) d_X_independent_7 (by decide) rfl (fun _ => ?_) (fun c7 => absurd c7 (by rw [pu_q_t ⟨i, j, t, hi, hj, hij, ht, rfl, rfl, rfl, hti, htj⟩]; decide))
  refine wp_aload_n (q := 14) d_X_independent_13 rfl rfl rfl ?_
  refine wp_iload_n (q := 15) d_X_independent_14 rfl rfl rfl ?_
  refine wp_iload_n (q := 16) d_X_independent_15 rfl rfl rfl ?_
  refine wp_iload_n (q := 17) d_X_independent_16 rfl rfl rfl ?_
  refine wp_cV3g (q := 20) (bc1 := 0) (bs1 := 0) d_X_independent_17 rfl bd_X_leastDifference lk_X_164 im_X_leastDifference se_X_leastDifference rfl (Nat.le_of_ble_eq_true rfl) (Nat.le_of_ble_eq_true rfl) hX.1 (Nat.le_of_ble_eq_true rfl) (c_X_ld hX hW hi hj ht) (fun v w1 hF => ?_)
  obtain ⟨rfl, f1, hX1⟩ := hF
  refine wp_iconst (q := 21) (v := -1) d_X_independent_20 rfl (by decide) ?_
  refine wp_icmp_ne (q := 24) (tgt := 28) d_X_independent_21 (by decide) rfl (fun c21 => ?_) (fun c21 => ?_)
  · refine wp_iconst (q := 29) (v := 0) d_X_independent_28 rfl (by decide) ?_
    refine wp_cS1r (q := 32) d_X_independent_29 rfl bd_X_answer lk_X_147 sm_X_answer (Nat.le_of_ble_eq_true rfl) (Nat.le_of_ble_eq_true rfl) (Nat.le_of_ble_eq_true rfl) (c_answer (b := false)) ?_
    exact wp_ireturn rfl d_X_independent_32 ⟨congrArg (fun z => some (Value.int z)) (pu_q_f c21).symm, f1, hX1⟩
  · refine wp_iconst (q := 25) (v := 1) d_X_independent_24 rfl (by decide) ?_
    refine wp_goto (tgt := 29) d_X_independent_25 (by decide) ?_
    refine wp_cS1r (q := 32) d_X_independent_29 rfl bd_X_answer lk_X_147 sm_X_answer (Nat.le_of_ble_eq_true rfl) (Nat.le_of_ble_eq_true rfl) (Nat.le_of_ble_eq_true rfl) (c_answer (b := true)) ?_
    exact wp_ireturn rfl d_X_independent_32 ⟨congrArg (fun z => some (Value.int z)) (pu_q_t c21).symm, f1, hX1⟩
