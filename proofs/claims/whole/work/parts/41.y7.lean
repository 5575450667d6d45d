/-! CONTRACTS of the reference (7) -/
set_option maxHeartbeats 4000000 in
set_option maxRecDepth 100000 in
theorem y_blanket_I {n k : Nat} {P : Nat → Nat} {H : Nat → Int32} {O : Nat → Nat} {ik : Bool} {kn : Nat} {KP : Nat → Nat} {ic : Bool} {fz sm : Nat} {w : am_W} (hY : YI n k P H O ik kn KP ic fz sm w) (hn : n ≤ 8) {g : Nat → Nat} (hg : ∀ i, g i < 2 ^ n) (hT : CT g w) {i oth best s : Nat} (hi : i < n) (hs : s < 2 ^ n) {F : Option Value → am_W → Prop} (hout : ∀ w1, YF [42] w w1 → am_Wp none m_Y_blanket 2 0 0 128 [(0, .ref 35), (1, .int (nI i)), (2, .int (nI oth)), (3, .int (nI best)), (4, .int (nI s)), (5, .int (pu_b (pu_okb g n i s)))] [] w1 F) : ∀ p, p ≤ n → ∀ w1, YF [42] w w1 → pu_every (fun q => q == i || s.testBit q || pu_sp g n i q s) p = true → am_Wp none m_Y_blanket 2 0 0 68 [(0, .ref 35), (1, .int (nI i)), (2, .int (nI oth)), (3, .int (nI best)), (4, .int (nI s)), (5, .int 1), (6, .int (nI p))] [] w1 F := by
  have hp2 := pu_p2e hn
  refine pu_up (P := fun p => ∀ w1, YF [42] w w1 → pu_every (fun q => q == i || s.testBit q || pu_sp g n i q s) p = true → am_Wp none m_Y_blanket 2 0 0 68 [(0, .ref 35), (1, .int (nI i)), (2, .int (nI oth)), (3, .int (nI best)), (4, .int (nI s)), (5, .int 1), (6, .int (nI p))] [] w1 F) ?_ ?_
  · intro w1 fr hev
    have hY1 := hY.s1 fr
    refine wp_iload (q := 70) d_Y_blanket_68 rfl rfl ?_
    refine wp_aload_n (q := 71) d_Y_blanket_70 rfl rfl rfl ?_
    refine wp_get (q := 74) (k := 0) d_Y_blanket_71 rfl ok_Y (Nat.le_of_ble_eq_true rfl) fk_Y_63 hY1.1 rfl ?_
    refine wp_icmp_ge (q := 77) (tgt := 128) d_Y_blanket_74 (by decide) rfl (fun _ => ?_) (fun c74 => absurd (nI_le (Nat.le_refl n) (by omega)) c74)
    refine wp_lo [(0, .ref 35), (1, .int (nI i)), (2, .int (nI oth)), (3, .int (nI best)), (4, .int (nI s)), (5, .int 1)] ⟨rfl, rfl, rfl, rfl, rfl, rfl, trivial⟩ ?_
    have h9 := hout w1 fr
    rw [show pu_okb g n i s = true from hev] at h9
    exact h9
  · intro p hp ih w1 fr hev
    have hY1 := hY.s1 fr
    refine wp_iload (q := 70) d_Y_blanket_68 rfl rfl ?_
    refine wp_aload_n (q := 71) d_Y_blanket_70 rfl rfl rfl ?_
    refine wp_get (q := 74) (k := 0) d_Y_blanket_71 rfl ok_Y (Nat.le_of_ble_eq_true rfl) fk_Y_63 hY1.1 rfl ?_
    refine wp_icmp_ge (q := 77) (tgt := 128) d_Y_blanket_74 (by decide) rfl (fun c74 => absurd c74 (nI_ge hp (by omega))) (fun _ => ?_)
    refine wp_iload (q := 79) d_Y_blanket_77 rfl rfl ?_
    refine wp_if_eq (q := 82) (tgt := 128) d_Y_blanket_79 (by decide) rfl (fun c79 => absurd c79 (by decide)) (fun _ => ?_)
    refine wp_iload (q := 84) d_Y_blanket_82 rfl rfl ?_
    refine wp_iload_n (q := 85) d_Y_blanket_84 rfl rfl rfl ?_
    refine wp_icmp_eq (q := 88) (tgt := 115) d_Y_blanket_85 (by decide) rfl (fun c85 => ?_) (fun c85 => ?_)
    · refine wp_iconst (q := 116) (v := 1) d_Y_blanket_115 rfl (by decide) ?_
      refine wp_goto (tgt := 120) d_Y_blanket_116 (by decide) ?_
      refine wp_istore (q := 122) d_Y_blanket_120 rfl (Nat.le_of_ble_eq_true rfl) rfl ?_
      refine wp_inc1 (q := 125) d_Y_blanket_122 rfl rfl (nI_1 _) (Nat.le_of_ble_eq_true rfl) rfl ?_
      refine wp_goto (tgt := 68) d_Y_blanket_125 (by decide) ?_
      refine ih _ fr ?_
      show (pu_every (fun q => q == i || s.testBit q || pu_sp g n i q s) p && _) = true
      rw [hev, Bool.true_and]
      show (p == i || s.testBit p || pu_sp g n i p s) = true
      rw [pu_nI_inj (by omega) (by omega) c85]; simp
    · refine wp_iload (q := 90) d_Y_blanket_88 rfl rfl ?_
      refine wp_iload (q := 92) d_Y_blanket_90 rfl rfl ?_
      refine wp_ishr (q := 93) d_Y_blanket_92 rfl ?_
      refine wp_iconst (q := 94) (v := 1) d_Y_blanket_93 rfl (by decide) ?_
      refine wp_iand (q := 95) d_Y_blanket_94 rfl ?_
      rw [pu_has (by omega) (by omega)]
      refine wp_iconst (q := 96) (v := 1) d_Y_blanket_95 rfl (by decide) ?_
      refine wp_icmp_eq (q := 99) (tgt := 115) d_Y_blanket_96 (by decide) rfl (fun c96 => ?_) (fun c96 => ?_)
      · refine wp_iconst (q := 116) (v := 1) d_Y_blanket_115 rfl (by decide) ?_
        refine wp_goto (tgt := 120) d_Y_blanket_116 (by decide) ?_
        refine wp_istore (q := 122) d_Y_blanket_120 rfl (Nat.le_of_ble_eq_true rfl) rfl ?_
        refine wp_inc1 (q := 125) d_Y_blanket_122 rfl rfl (nI_1 _) (Nat.le_of_ble_eq_true rfl) rfl ?_
        refine wp_goto (tgt := 68) d_Y_blanket_125 (by decide) ?_
        refine ih _ fr ?_
        show (pu_every (fun q => q == i || s.testBit q || pu_sp g n i q s) p && _) = true
        rw [hev, Bool.true_and]
        show (p == i || s.testBit p || pu_sp g n i p s) = true
        rw [pu_h1.mp c96]; simp
      · have hsb : s.testBit p = false := by cases h : s.testBit p with | false => rfl | true => rw [h] at c96; exact absurd rfl c96
        refine wp_aload_n (q := 100) d_Y_blanket_99 rfl rfl rfl ?_
        refine wp_aload_n (q := 101) d_Y_blanket_100 rfl rfl rfl ?_
        refine wp_get (q := 104) (k := 11) d_Y_blanket_101 rfl ok_Y (Nat.le_of_ble_eq_true rfl) fk_Y_22 hY1.1 rfl ?_
        refine wp_iload_n (q := 105) d_Y_blanket_104 rfl rfl rfl ?_
        refine wp_iload (q := 107) d_Y_blanket_105 rfl rfl ?_
        refine wp_iload (q := 109) d_Y_blanket_107 rfl rfl ?_
        refine wp_cV4g (q := 112) (bc1 := 0) (bs1 := 0) d_Y_blanket_109 rfl bd_Y_isSeparated lk_Y_113 im_Y_isSeparated se_Y_isSeparated rfl (Nat.le_of_ble_eq_true rfl) (Nat.le_of_ble_eq_true rfl) hY1.1 (Nat.le_of_ble_eq_true rfl) (y_sep hY1 hn hg hi hp hs (hT.at fr (by decide) (by decide)).1 (by decide)) (fun v w9 hF => ?_)
        obtain ⟨rfl, f9⟩ := hF
        have hY9 := hY1.s1 f9
        have fr9 := fr.tr f9
        show am_Wp _ _ _ _ _ _ _ [.int (pu_b (pu_sp g n i p s))] _ _
        refine wp_if_eq (q := 115) (tgt := 119) d_Y_blanket_112 (by decide) rfl (fun c112 => ?_) (fun c112 => ?_)
        · have hsp := pu_b0.mp c112
          have hno : pu_okb g n i s = false := pu_every_n (ok := (fun q => q == i || s.testBit q || pu_sp g n i q s)) (p := p) (by show (p == i || s.testBit p || pu_sp g n i p s) = false; rw [hsb, hsp]; simp; intro e; exact c85 (by rw [e])) hp
          refine wp_iconst (q := 120) (v := 0) d_Y_blanket_119 rfl (by decide) ?_
          refine wp_istore (q := 122) d_Y_blanket_120 rfl (Nat.le_of_ble_eq_true rfl) rfl ?_
          refine wp_inc1 (q := 125) d_Y_blanket_122 rfl rfl (nI_1 _) (Nat.le_of_ble_eq_true rfl) rfl ?_
          refine wp_goto (tgt := 68) d_Y_blanket_125 (by decide) ?_
          refine wp_iload (q := 70) d_Y_blanket_68 rfl rfl ?_
          refine wp_aload_n (q := 71) d_Y_blanket_70 rfl rfl rfl ?_
          refine wp_get (q := 74) (k := 0) d_Y_blanket_71 rfl ok_Y (Nat.le_of_ble_eq_true rfl) fk_Y_63 hY9.1 rfl ?_
          refine wp_icmp_ge (q := 77) (tgt := 128) d_Y_blanket_74 (by decide) rfl (fun c74 => ?_) (fun c74 => ?_)
          · refine wp_lo [(0, .ref 35), (1, .int (nI i)), (2, .int (nI oth)), (3, .int (nI best)), (4, .int (nI s)), (5, .int 0)] ⟨rfl, rfl, rfl, rfl, rfl, rfl, trivial⟩ ?_
            have h9 := hout w9 fr9
            rw [hno] at h9
            exact h9
          · refine wp_iload (q := 79) d_Y_blanket_77 rfl rfl ?_
            refine wp_if_eq (q := 82) (tgt := 128) d_Y_blanket_79 (by decide) rfl (fun _ => ?_) (fun c79 => absurd rfl c79)
            refine wp_lo [(0, .ref 35), (1, .int (nI i)), (2, .int (nI oth)), (3, .int (nI best)), (4, .int (nI s)), (5, .int 0)] ⟨rfl, rfl, rfl, rfl, rfl, rfl, trivial⟩ ?_
            have h9 := hout w9 fr9
            rw [hno] at h9
            exact h9
        · have hsp := pu_b1 c112
          refine wp_iconst (q := 116) (v := 1) d_Y_blanket_115 rfl (by decide) ?_
          refine wp_goto (tgt := 120) d_Y_blanket_116 (by decide) ?_
          refine wp_istore (q := 122) d_Y_blanket_120 rfl (Nat.le_of_ble_eq_true rfl) rfl ?_
          refine wp_inc1 (q := 125) d_Y_blanket_122 rfl rfl (nI_1 _) (Nat.le_of_ble_eq_true rfl) rfl ?_
          refine wp_goto (tgt := 68) d_Y_blanket_125 (by decide) ?_
          refine ih _ fr9 ?_
          show (pu_every (fun q => q == i || s.testBit q || pu_sp g n i q s) p && _) = true
          rw [hev, Bool.true_and]
          show (p == i || s.testBit p || pu_sp g n i p s) = true
          rw [hsp]; simp
set_option maxHeartbeats 4000000 in
set_option maxRecDepth 100000 in
theorem y_blanket_L {n k : Nat} {P : Nat → Nat} {H : Nat → Int32} {O : Nat → Nat} {ik : Bool} {kn : Nat} {KP : Nat → Nat} {ic : Bool} {fz sm : Nat} {w : am_W} (hY : YI n k P H O ik kn KP ic fz sm w) (hn : n ≤ 8) {g : Nat → Nat} (hg : ∀ i, g i < 2 ^ n) (hT : CT g w) {i oth : Nat} (hi : i < n) (hoth : oth < 2 ^ n) : ∀ r : Nat, r ≤ oth + 1 → ∀ (best : Nat) (w1 : am_W), best < 2 ^ n → YF [42] w w1 → am_Wp none m_Y_blanket 2 0 0 36 [(0, .ref 35), (1, .int (nI i)), (2, .int (nI oth)), (3, .int (nI best)), (4, .int (nI r + (-1)))] [] w1 (fun v w2 => v = some (.int (nI (pu_bk (pu_okb g n i) oth r best))) ∧ YF [42] w w2) := by
  have hp2 := pu_p2e hn
  intro r
  induction r with
  | zero =>
    intro hr best w1 hbest fr
    refine wp_iload (q := 38) d_Y_blanket_36 rfl rfl ?_
    refine wp_if_lt (q := 41) (tgt := 146) d_Y_blanket_38 (by decide) rfl (fun _ => ?_) (fun c38 => absurd (by decide) c38)
    refine wp_iload_n (q := 147) d_Y_blanket_146 rfl rfl rfl ?_
    exact wp_ireturn rfl d_Y_blanket_147 ⟨rfl, fr⟩
  | succ s ih =>
    intro hr best w1 hbest fr
    rw [pu_dn]
    refine wp_iload (q := 38) d_Y_blanket_36 rfl rfl ?_
    refine wp_if_lt (q := 41) (tgt := 146) d_Y_blanket_38 (by decide) rfl (fun c38 => absurd c38 (nI_pos (by omega))) (fun _ => ?_)
    refine wp_iload (q := 43) d_Y_blanket_41 rfl rfl ?_
    refine wp_iload_n (q := 44) d_Y_blanket_43 rfl rfl rfl ?_
    refine wp_iconst (q := 45) (v := -1) d_Y_blanket_44 rfl (by decide) ?_
    refine wp_ixor (q := 46) d_Y_blanket_45 rfl ?_
    refine wp_iand (q := 47) d_Y_blanket_46 rfl ?_
    rw [pu_not]
    refine wp_if_ne (q := 50) (tgt := 140) d_Y_blanket_47 (by decide) rfl (fun c47 => ?_) (fun c47 => ?_)
    · refine wp_iinc (q := 143) d_Y_blanket_140 rfl rfl rfl (Nat.le_of_ble_eq_true rfl) rfl ?_
      refine wp_goto (tgt := 36) d_Y_blanket_143 (by decide) ?_
      have e : pu_bk (pu_okb g n i) oth (s + 1) best = pu_bk (pu_okb g n i) oth s best := by show pu_bk _ _ s (if _ then _ else _) = _; rw [if_neg (fun h => c47 (by rw [h.1]; exact nI_0))]
      rw [e]
      refine wp_lo [(0, .ref 35), (1, .int (nI i)), (2, .int (nI oth)), (3, .int (nI best)), (4, .int (nI s + (-1)))] ⟨rfl, rfl, rfl, rfl, rfl, trivial⟩ ?_
      exact ih (by omega) best w1 hbest fr
    · have h47 : pu_dif s oth = 0 := pu_nI_inj (Nat.lt_trans (pu_dif_lt (show s < 256 by omega)) (by decide)) (by decide) (c47.trans nI_0.symm)
      have q1 := pu_pop10_le s
      have q2 := pu_pop10_le best
      refine wp_iload (q := 52) d_Y_blanket_50 rfl rfl ?_
      refine wp_cS1r (q := 55) d_Y_blanket_52 rfl bd_Y_many lk_Y_96 sm_Y_many (Nat.le_of_ble_eq_true rfl) (Nat.le_of_ble_eq_true rfl) (Nat.le_of_ble_eq_true rfl) (y_many (by omega)) ?_
      refine wp_iload_n (q := 56) d_Y_blanket_55 rfl rfl rfl ?_
      refine wp_cS1r (q := 59) d_Y_blanket_56 rfl bd_Y_many lk_Y_96 sm_Y_many (Nat.le_of_ble_eq_true rfl) (Nat.le_of_ble_eq_true rfl) (Nat.le_of_ble_eq_true rfl) (y_many (by omega)) ?_
      refine wp_icmp_gt (q := 62) (tgt := 140) d_Y_blanket_59 (by decide) rfl (fun c59 => ?_) (fun c59 => ?_)
      · refine wp_iinc (q := 143) d_Y_blanket_140 rfl rfl rfl (Nat.le_of_ble_eq_true rfl) rfl ?_
        refine wp_goto (tgt := 36) d_Y_blanket_143 (by decide) ?_
        have e : pu_bk (pu_okb g n i) oth (s + 1) best = pu_bk (pu_okb g n i) oth s best := by show pu_bk _ _ s (if _ then _ else _) = _; rw [if_neg (fun h => absurd c59 (nI_nlt h.2.1 (by omega)))]
        rw [e]
        refine wp_lo [(0, .ref 35), (1, .int (nI i)), (2, .int (nI oth)), (3, .int (nI best)), (4, .int (nI s + (-1)))] ⟨rfl, rfl, rfl, rfl, rfl, trivial⟩ ?_
        exact ih (by omega) best w1 hbest fr
      · have h59 : pu_pop 10 s ≤ pu_pop 10 best := Nat.le_of_not_lt (fun h => c59 (nI_lt h (by omega)))
        refine wp_iconst (q := 63) (v := 1) d_Y_blanket_62 rfl (by decide) ?_
        refine wp_istore (q := 65) d_Y_blanket_63 rfl (Nat.le_of_ble_eq_true rfl) rfl ?_
        refine wp_iconst (q := 66) (v := 0) d_Y_blanket_65 rfl (by decide) ?_
        refine wp_istore (q := 68) d_Y_blanket_66 rfl (Nat.le_of_ble_eq_true rfl) rfl ?_
        refine y_blanket_I (best := best) (oth := oth) hY hn hg hT hi (by omega) ?_ 0 (Nat.zero_le _) w1 fr rfl
        intro w2 fr2
        refine wp_iload (q := 130) d_Y_blanket_128 rfl rfl ?_
        refine wp_if_eq (q := 133) (tgt := 138) d_Y_blanket_130 (by decide) rfl (fun c130 => ?_) (fun c130 => ?_)
        · have hk := pu_b0.mp c130
          refine wp_iload_n (q := 139) d_Y_blanket_138 rfl rfl rfl ?_
          refine wp_istore_n (q := 140) d_Y_blanket_139 rfl rfl (Nat.le_of_ble_eq_true rfl) rfl ?_
          refine wp_iinc (q := 143) d_Y_blanket_140 rfl rfl rfl (Nat.le_of_ble_eq_true rfl) rfl ?_
          refine wp_goto (tgt := 36) d_Y_blanket_143 (by decide) ?_
          have e : pu_bk (pu_okb g n i) oth (s + 1) best = pu_bk (pu_okb g n i) oth s best := by show pu_bk _ _ s (if _ then _ else _) = _; rw [if_neg (fun h => by rw [hk] at h; exact absurd h.2.2 (by decide))]
          rw [e]
          refine wp_lo [(0, .ref 35), (1, .int (nI i)), (2, .int (nI oth)), (3, .int (nI best)), (4, .int (nI s + (-1)))] ⟨rfl, rfl, rfl, rfl, rfl, trivial⟩ ?_
          exact ih (by omega) best w2 hbest fr2
        · have hk := pu_b1 c130
          refine wp_iload (q := 135) d_Y_blanket_133 rfl rfl ?_
          refine wp_goto (tgt := 139) d_Y_blanket_135 (by decide) ?_
          refine wp_istore_n (q := 140) d_Y_blanket_139 rfl rfl (Nat.le_of_ble_eq_true rfl) rfl ?_
          refine wp_iinc (q := 143) d_Y_blanket_140 rfl rfl rfl (Nat.le_of_ble_eq_true rfl) rfl ?_
          refine wp_goto (tgt := 36) d_Y_blanket_143 (by decide) ?_
          have e : pu_bk (pu_okb g n i) oth (s + 1) best = pu_bk (pu_okb g n i) oth s s := by show pu_bk _ _ s (if _ then _ else _) = _; rw [if_pos ⟨h47, h59, hk⟩]
          rw [e]
          refine wp_lo [(0, .ref 35), (1, .int (nI i)), (2, .int (nI oth)), (3, .int (nI s)), (4, .int (nI s + (-1)))] ⟨rfl, rfl, rfl, rfl, rfl, trivial⟩ ?_
          exact ih (by omega) s w2 (by omega) fr2
set_option maxHeartbeats 4000000 in
set_option maxRecDepth 100000 in
theorem y_blanket_bad {n k : Nat} {P : Nat → Nat} {H : Nat → Int32} {O : Nat → Nat} {ik : Bool} {kn : Nat} {KP : Nat → Nat} {ic : Bool} {fz sm : Nat} {w : am_W} (hY : YI n k P H O ik kn KP ic fz sm w) (hW : YW n k P H O kn KP) {x : Int32} (hb : ¬ PL n x) : am_Wp none m_Y_blanket 1 0 0 0 [(0, .ref 35), (1, .int x)] [] w (am_R (some (.int (-2))) w) := by
  obtain ⟨hn, hk, hP, hO, hkn, hKP, hpop⟩ := id hW
  refine wp_aload_n (q := 1) d_Y_blanket_0 rfl rfl rfl ?_
  refine wp_iload_n (q := 2) d_Y_blanket_1 rfl rfl rfl ?_
  refine wp_cV1r (q := 5) d_Y_blanket_2 rfl bd_Y_isPlace lk_Y_77 im_Y_isPlace se_Y_isPlace rfl (Nat.le_of_ble_eq_true rfl) (Nat.le_of_ble_eq_true rfl) hY.1 (Nat.le_of_ble_eq_true rfl) (y_isPlace hY hn) ?_
  refine wp_if_ne (q := 8) (tgt := 11) d_Y_blanket_5 (by decide) rfl (fun c5 => absurd (pu_q_f hb) c5) (fun _ => ?_)
  refine wp_bipush (q := 10) (v := -2) d_Y_blanket_8 rfl (by decide) ?_
  exact wp_ireturn rfl d_Y_blanket_10 ⟨rfl, rfl⟩
set_option maxHeartbeats 4000000 in
set_option maxRecDepth 100000 in
theorem y_blanket {n k : Nat} {P : Nat → Nat} {H : Nat → Int32} {O : Nat → Nat} {ik : Bool} {kn : Nat} {KP : Nat → Nat} {ic : Bool} {fz sm : Nat} {w : am_W} (hY : YI n k P H O ik kn KP ic fz sm w) (hW : YW n k P H O kn KP) (hPn : ∀ i, P i < 2 ^ n) {i : Nat} (hi : i < n) : am_Wp none m_Y_blanket 2 0 0 0 [(0, .ref 35), (1, .int (nI i))] [] w (fun v w1 => v = some (.int (nI (pu_bk (pu_okb (pu_yc n P H) n i) (pu_dif (2 ^ n - 1) (2 ^ i)) ((pu_dif (2 ^ n - 1) (2 ^ i)) + 1) (pu_dif (2 ^ n - 1) (2 ^ i))))) ∧ YF DY w w1 ∧ YI n k P H O ik kn KP ic fz sm w1) := by
  obtain ⟨hn, hk, hP, hO, hkn, hKP, hpop⟩ := id hW
  have hp2 := pu_p2e hn
  have hp1 := pu_p1 n
  refine wp_aload_n (q := 1) d_Y_blanket_0 rfl rfl rfl ?_
  refine wp_iload_n (q := 2) d_Y_blanket_1 rfl rfl rfl ?_
  refine wp_cV1r (q := 5) d_Y_blanket_2 rfl bd_Y_isPlace lk_Y_77 im_Y_isPlace se_Y_isPlace rfl (Nat.le_of_ble_eq_true rfl) (Nat.le_of_ble_eq_true rfl) hY.1 (Nat.le_of_ble_eq_true rfl) (y_isPlace hY hn) ?_
  refine wp_if_ne (q := 8) (tgt := 11) d_Y_blanket_5 (by decide) rfl (fun _ => ?_) (fun c5 => absurd c5 (by rw [pu_q_t ⟨i, hi, rfl⟩]; decide))
  refine wp_aload_n (q := 12) d_Y_blanket_11 rfl rfl rfl ?_
  refine wp_iconst (q := 13) (v := -1) d_Y_blanket_12 rfl (by decide) ?_
  refine wp_cV1g (q := 16) (bc1 := 0) (bs1 := 0) d_Y_blanket_13 rfl bd_Y_countArcs lk_Y_103 im_Y_countArcs se_Y_countArcs rfl (Nat.le_of_ble_eq_true rfl) (Nat.le_of_ble_eq_true rfl) hY.1 (Nat.le_of_ble_eq_true rfl) (y_countN hY hn (pu_yc_lt hP) (fun _ => rfl)) (fun v w1 hF => ?_)
  obtain ⟨rfl, f1, hT⟩ := hF
  have hY1 := hY.s f1 (by decide)
  refine wp_iconst (q := 17) (v := 1) d_Y_blanket_16 rfl (by decide) ?_
  refine wp_aload_n (q := 18) d_Y_blanket_17 rfl rfl rfl ?_
  refine wp_get (q := 21) (k := 0) d_Y_blanket_18 rfl ok_Y (Nat.le_of_ble_eq_true rfl) fk_Y_63 hY1.1 rfl ?_
  refine wp_ishl (q := 22) d_Y_blanket_21 rfl ?_
  rw [pu_bit n (by omega)]
  refine wp_iconst (q := 23) (v := 1) d_Y_blanket_22 rfl (by decide) ?_
  refine wp_isub (q := 24) d_Y_blanket_23 rfl ?_
  rw [pu_1, pk_sub hp1]
  refine wp_iconst (q := 25) (v := 1) d_Y_blanket_24 rfl (by decide) ?_
  refine wp_iload_n (q := 26) d_Y_blanket_25 rfl rfl rfl ?_
  refine wp_ishl (q := 27) d_Y_blanket_26 rfl ?_
  rw [pu_bit i (by omega)]
  refine wp_iconst (q := 28) (v := -1) d_Y_blanket_27 rfl (by decide) ?_
  refine wp_ixor (q := 29) d_Y_blanket_28 rfl ?_
  refine wp_iand (q := 30) d_Y_blanket_29 rfl ?_
  rw [pu_not]
  refine wp_istore_n (q := 31) d_Y_blanket_30 rfl rfl (Nat.le_of_ble_eq_true rfl) rfl ?_
  refine wp_iload_n (q := 32) d_Y_blanket_31 rfl rfl rfl ?_
  refine wp_istore_n (q := 33) d_Y_blanket_32 rfl rfl (Nat.le_of_ble_eq_true rfl) rfl ?_
  refine wp_iload_n (q := 34) d_Y_blanket_33 rfl rfl rfl ?_
  refine wp_istore (q := 36) d_Y_blanket_34 rfl (Nat.le_of_ble_eq_true rfl) rfl ?_
  have hoth : (pu_dif (2 ^ n - 1) (2 ^ i)) < 2 ^ n := pu_dif_ltn (by omega)
  have h9 := y_blanket_L hY1 hn (pu_yc_ltn hPn) hT (i := i) hi hoth ((pu_dif (2 ^ n - 1) (2 ^ i)) + 1) (Nat.le_refl _) (pu_dif (2 ^ n - 1) (2 ^ i)) w1 hoth YF.rf
  rw [pu_dn] at h9
  exact wp_post (fun v w2 h => ⟨h.1, (f1.up (by decide)).tr (h.2.up (by decide)), hY1.s1 h.2⟩) h9
set_option maxHeartbeats 4000000 in
set_option maxRecDepth 100000 in
theorem y_least_L {n k : Nat} {P : Nat → Nat} {H : Nat → Int32} {O : Nat → Nat} {ik : Bool} {kn : Nat} {KP : Nat → Nat} {ic : Bool} {fz sm : Nat} {w : am_W} (hY : YI n k P H O ik kn KP ic fz sm w) (hn : n ≤ 8) {g : Nat → Nat} (hg : ∀ i, g i < 2 ^ n) (hT : CT g w) {i j oth : Nat} (hi : i < n) (hj : j < n) (hoth : oth < 2 ^ n) : ∀ r : Nat, r ≤ oth + 1 → ∀ (best : Option Nat) (w1 : am_W), (∀ b, best = some b → b < 2 ^ n) → YF [42] w w1 → am_Wp none m_Y_least 2 0 0 56 [(0, .ref 35), (1, .int (nI i)), (2, .int (nI j)), (3, .int (nI oth)), (4, .int (pu_oi best)), (5, .int (nI r + (-1)))] [] w1 (fun v w2 => v = some (.int (pu_oi (pu_lk (fun s => pu_sp g n i j s) oth r best))) ∧ YF [42] w w2) := by
  have hp2 := pu_p2e hn
  intro r
  induction r with
  | zero =>
    intro hr best w1 hbest fr
    refine wp_iload (q := 58) d_Y_least_56 rfl rfl ?_
    refine wp_if_lt (q := 61) (tgt := 114) d_Y_least_58 (by decide) rfl (fun _ => ?_) (fun c58 => absurd (by decide) c58)
    refine wp_iload (q := 116) d_Y_least_114 rfl rfl ?_
    exact wp_ireturn rfl d_Y_least_116 ⟨rfl, fr⟩
  | succ s ih =>
    intro hr best w1 hbest fr
    rw [pu_dn]
    have hY1 := hY.s1 fr
    refine wp_iload (q := 58) d_Y_least_56 rfl rfl ?_
    refine wp_if_lt (q := 61) (tgt := 114) d_Y_least_58 (by decide) rfl (fun c58 => absurd c58 (nI_pos (by omega))) (fun _ => ?_)
    refine wp_iload (q := 63) d_Y_least_61 rfl rfl ?_
    refine wp_iload_n (q := 64) d_Y_least_63 rfl rfl rfl ?_
    refine wp_iconst (q := 65) (v := -1) d_Y_least_64 rfl (by decide) ?_
    refine wp_ixor (q := 66) d_Y_least_65 rfl ?_
    refine wp_iand (q := 67) d_Y_least_66 rfl ?_
    rw [pu_not]
    refine wp_if_ne (q := 70) (tgt := 108) d_Y_least_67 (by decide) rfl (fun c67 => ?_) (fun c67 => ?_)
    · refine wp_iinc (q := 111) d_Y_least_108 rfl rfl rfl (Nat.le_of_ble_eq_true rfl) rfl ?_
      refine wp_goto (tgt := 56) d_Y_least_111 (by decide) ?_
      have e : pu_lk (fun s => pu_sp g n i j s) oth (s + 1) best = pu_lk (fun s => pu_sp g n i j s) oth s best := by show pu_lk _ _ s (@ite _ _ (Classical.propDecidable _) _ _) = _; rw [if_neg (fun h => c67 (by rw [h.1]; exact nI_0))]
      rw [e]
      refine wp_lo [(0, .ref 35), (1, .int (nI i)), (2, .int (nI j)), (3, .int (nI oth)), (4, .int (pu_oi best)), (5, .int (nI s + (-1)))] ⟨rfl, rfl, rfl, rfl, rfl, rfl, trivial⟩ ?_
      exact ih (by omega) best w1 hbest fr
    · have h67 : pu_dif s oth = 0 := pu_nI_inj (Nat.lt_trans (pu_dif_lt (show s < 256 by omega)) (by decide)) (by decide) (c67.trans nI_0.symm)
      have hcase : pu_ol best s → am_Wp none m_Y_least 2 0 0 89 [(0, .ref 35), (1, .int (nI i)), (2, .int (nI j)), (3, .int (nI oth)), (4, .int (pu_oi best)), (5, .int (nI s))] [] w1 (fun v w2 => v = some (.int (pu_oi (pu_lk (fun s => pu_sp g n i j s) oth (s + 1) best))) ∧ YF [42] w w2) := by
        intro hol
        refine wp_aload_n (q := 90) d_Y_least_89 rfl rfl rfl ?_
        refine wp_aload_n (q := 91) d_Y_least_90 rfl rfl rfl ?_
        refine wp_get (q := 94) (k := 11) d_Y_least_91 rfl ok_Y (Nat.le_of_ble_eq_true rfl) fk_Y_22 hY1.1 rfl ?_
        refine wp_iload_n (q := 95) d_Y_least_94 rfl rfl rfl ?_
        refine wp_iload_n (q := 96) d_Y_least_95 rfl rfl rfl ?_
        refine wp_iload (q := 98) d_Y_least_96 rfl rfl ?_
        refine wp_cV4g (q := 101) (bc1 := 0) (bs1 := 0) d_Y_least_98 rfl bd_Y_isSeparated lk_Y_113 im_Y_isSeparated se_Y_isSeparated rfl (Nat.le_of_ble_eq_true rfl) (Nat.le_of_ble_eq_true rfl) hY1.1 (Nat.le_of_ble_eq_true rfl) (y_sep hY1 hn hg hi hj (show s < 2 ^ n by omega) (hT.at fr (by decide) (by decide)).1 (by decide)) (fun v w9 hF => ?_)
        obtain ⟨rfl, f9⟩ := hF
        have fr9 := fr.tr f9
        show am_Wp _ _ _ _ _ _ _ [.int (pu_b (pu_sp g n i j s))] _ _
        refine wp_if_eq (q := 104) (tgt := 108) d_Y_least_101 (by decide) rfl (fun c101 => ?_) (fun c101 => ?_)
        · have hsp := pu_b0.mp c101
          refine wp_iinc (q := 111) d_Y_least_108 rfl rfl rfl (Nat.le_of_ble_eq_true rfl) rfl ?_
          refine wp_goto (tgt := 56) d_Y_least_111 (by decide) ?_
          have e : pu_lk (fun s => pu_sp g n i j s) oth (s + 1) best = pu_lk (fun s => pu_sp g n i j s) oth s best := by show pu_lk _ _ s (@ite _ _ (Classical.propDecidable _) _ _) = _; rw [if_neg (fun h => absurd (hsp.symm.trans h.2.2) (by decide))]
          rw [e]
          refine wp_lo [(0, .ref 35), (1, .int (nI i)), (2, .int (nI j)), (3, .int (nI oth)), (4, .int (pu_oi best)), (5, .int (nI s + (-1)))] ⟨rfl, rfl, rfl, rfl, rfl, rfl, trivial⟩ ?_
          exact ih (by omega) best w9 hbest fr9
        · have hsp := pu_b1 c101
          refine wp_iload (q := 106) d_Y_least_104 rfl rfl ?_
          refine wp_istore (q := 108) d_Y_least_106 rfl (Nat.le_of_ble_eq_true rfl) rfl ?_
          refine wp_iinc (q := 111) d_Y_least_108 rfl rfl rfl (Nat.le_of_ble_eq_true rfl) rfl ?_
          refine wp_goto (tgt := 56) d_Y_least_111 (by decide) ?_
          have e : pu_lk (fun s => pu_sp g n i j s) oth (s + 1) best = pu_lk (fun s => pu_sp g n i j s) oth s (some s) := by show pu_lk _ _ s (@ite _ _ (Classical.propDecidable _) _ _) = _; rw [if_pos ⟨h67, hol, hsp⟩]
          rw [e]
          refine wp_lo [(0, .ref 35), (1, .int (nI i)), (2, .int (nI j)), (3, .int (nI oth)), (4, .int (pu_oi (some s))), (5, .int (nI s + (-1)))] ⟨rfl, rfl, rfl, rfl, rfl, rfl, trivial⟩ ?_
          exact ih (by omega) (some s) w9 (fun b hb => by cases hb; omega) fr9
      cases best with
      | none =>
        refine wp_iload (q := 72) d_Y_least_70 rfl rfl ?_
        refine wp_iconst (q := 73) (v := -1) d_Y_least_72 rfl (by decide) ?_
        refine wp_icmp_eq (q := 76) (tgt := 89) d_Y_least_73 (by decide) rfl (fun _ => ?_) (fun c73 => absurd rfl c73)
        exact hcase trivial
      | some b =>
        have hbl := hbest b rfl
        have q1 := pu_pop10_le s
        have q2 := pu_pop10_le b
        refine wp_iload (q := 72) d_Y_least_70 rfl rfl ?_
        refine wp_iconst (q := 73) (v := -1) d_Y_least_72 rfl (by decide) ?_
        refine wp_icmp_eq (q := 76) (tgt := 89) d_Y_least_73 (by decide) rfl (fun c73 => absurd c73 (fun e => by have h2 := nI_pos' (n := b) (by omega); rw [show nI b = -1 from e] at h2; exact absurd h2 (by decide))) (fun _ => ?_)
        refine wp_iload (q := 78) d_Y_least_76 rfl rfl ?_
        refine wp_cS1r (q := 81) d_Y_least_78 rfl bd_Y_many lk_Y_96 sm_Y_many (Nat.le_of_ble_eq_true rfl) (Nat.le_of_ble_eq_true rfl) (Nat.le_of_ble_eq_true rfl) (y_many (by omega)) ?_
        refine wp_iload (q := 83) d_Y_least_81 rfl rfl ?_
        refine wp_cS1r (q := 86) d_Y_least_83 rfl bd_Y_many lk_Y_96 sm_Y_many (Nat.le_of_ble_eq_true rfl) (Nat.le_of_ble_eq_true rfl) (Nat.le_of_ble_eq_true rfl) (y_many (r := b) (by omega)) ?_
        refine wp_icmp_gt (q := 89) (tgt := 108) d_Y_least_86 (by decide) rfl (fun c86 => ?_) (fun c86 => ?_)
        · refine wp_iinc (q := 111) d_Y_least_108 rfl rfl rfl (Nat.le_of_ble_eq_true rfl) rfl ?_
          refine wp_goto (tgt := 56) d_Y_least_111 (by decide) ?_
          have e : pu_lk (fun s => pu_sp g n i j s) oth (s + 1) (some b) = pu_lk (fun s => pu_sp g n i j s) oth s (some b) := by show pu_lk _ _ s (@ite _ _ (Classical.propDecidable _) _ _) = _; rw [if_neg (fun h => absurd c86 (nI_nlt (show pu_pop 10 s ≤ pu_pop 10 b from h.2.1) (by omega)))]
          rw [e]
          refine wp_lo [(0, .ref 35), (1, .int (nI i)), (2, .int (nI j)), (3, .int (nI oth)), (4, .int (pu_oi (some b))), (5, .int (nI s + (-1)))] ⟨rfl, rfl, rfl, rfl, rfl, rfl, trivial⟩ ?_
          exact ih (by omega) (some b) w1 hbest fr
        · exact hcase (Nat.le_of_not_lt (fun h => c86 (nI_lt h (by omega))))
set_option maxHeartbeats 4000000 in
set_option maxRecDepth 100000 in
theorem y_least_bad {n k : Nat} {P : Nat → Nat} {H : Nat → Int32} {O : Nat → Nat} {ik : Bool} {kn : Nat} {KP : Nat → Nat} {ic : Bool} {fz sm : Nat} {w : am_W} (hY : YI n k P H O ik kn KP ic fz sm w) (hW : YW n k P H O kn KP) {x y : Int32} (hb : ¬ PR n x y) : am_Wp none m_Y_least 1 0 0 0 [(0, .ref 35), (1, .int x), (2, .int y)] [] w (am_R (some (.int (-2))) w) := by
  obtain ⟨hn, hk, hP, hO, hkn, hKP, hpop⟩ := id hW
  refine wp_aload_n (q := 1) d_Y_least_0 rfl rfl rfl ?_
  refine wp_iload_n (q := 2) d_Y_least_1 rfl rfl rfl ?_
  refine wp_cV1r (q := 5) d_Y_least_2 rfl bd_Y_isPlace lk_Y_77 im_Y_isPlace se_Y_isPlace rfl (Nat.le_of_ble_eq_true rfl) (Nat.le_of_ble_eq_true rfl) hY.1 (Nat.le_of_ble_eq_true rfl) (y_isPlace hY hn) ?_
  refine wp_if_eq (q := 8) (tgt := 21) d_Y_least_5 (by decide) rfl (fun c5 => ?_) (fun c5 => ?_)
  · refine wp_bipush (q := 23) (v := -2) d_Y_least_21 rfl (by decide) ?_
    exact wp_ireturn rfl d_Y_least_23 ⟨rfl, rfl⟩
  · refine wp_aload_n (q := 9) d_Y_least_8 rfl rfl rfl ?_
    refine wp_iload_n (q := 10) d_Y_least_9 rfl rfl rfl ?_
    refine wp_cV1r (q := 13) d_Y_least_10 rfl bd_Y_isPlace lk_Y_77 im_Y_isPlace se_Y_isPlace rfl (Nat.le_of_ble_eq_true rfl) (Nat.le_of_ble_eq_true rfl) hY.1 (Nat.le_of_ble_eq_true rfl) (y_isPlace hY hn) ?_
    refine wp_if_eq (q := 16) (tgt := 21) d_Y_least_13 (by decide) rfl (fun c13 => ?_) (fun c13 => ?_)
    · refine wp_bipush (q := 23) (v := -2) d_Y_least_21 rfl (by decide) ?_
      exact wp_ireturn rfl d_Y_least_23 ⟨rfl, rfl⟩
    · refine wp_iload_n (q := 17) d_Y_least_16 rfl rfl rfl ?_
      refine wp_iload_n (q := 18) d_Y_least_17 rfl rfl rfl ?_
      refine wp_icmp_ne (q := 21) (tgt := 24) d_Y_least_18 (by decide) rfl (fun c18 => absurd (Classical.byContradiction fun e => hb (by obtain ⟨i, hi, rfl⟩ := pu_q1 c5; obtain ⟨j, hj, rfl⟩ := pu_q1 c13; exact ⟨i, j, hi, hj, fun h => e (by rw [h]), rfl, rfl⟩)) c18) (fun _ => ?_)
      refine wp_bipush (q := 23) (v := -2) d_Y_least_21 rfl (by decide) ?_
      exact wp_ireturn rfl d_Y_least_23 ⟨rfl, rfl⟩
set_option maxHeartbeats 4000000 in
set_option maxRecDepth 100000 in
theorem y_least {n k : Nat} {P : Nat → Nat} {H : Nat → Int32} {O : Nat → Nat} {ik : Bool} {kn : Nat} {KP : Nat → Nat} {ic : Bool} {fz sm : Nat} {w : am_W} (hY : YI n k P H O ik kn KP ic fz sm w) (hW : YW n k P H O kn KP) (hPn : ∀ i, P i < 2 ^ n) {i j : Nat} (hi : i < n) (hj : j < n) (hij : i ≠ j) : am_Wp none m_Y_least 2 0 0 0 [(0, .ref 35), (1, .int (nI i)), (2, .int (nI j))] [] w (fun v w1 => v = some (.int (pu_oi (pu_lk (fun s => pu_sp (pu_yc n P H) n i j s) (pu_dif (pu_dif (2 ^ n - 1) (2 ^ i)) (2 ^ j)) ((pu_dif (pu_dif (2 ^ n - 1) (2 ^ i)) (2 ^ j)) + 1) none))) ∧ YF DY w w1 ∧ YI n k P H O ik kn KP ic fz sm w1) := by
  obtain ⟨hn, hk, hP, hO, hkn, hKP, hpop⟩ := id hW
  have hp2 := pu_p2e hn
  have hp1 := pu_p1 n
  refine wp_aload_n (q := 1) d_Y_least_0 rfl rfl rfl ?_
  refine wp_iload_n (q := 2) d_Y_least_1 rfl rfl rfl ?_
  refine wp_cV1r (q := 5) d_Y_least_2 rfl bd_Y_isPlace lk_Y_77 im_Y_isPlace se_Y_isPlace rfl (Nat.le_of_ble_eq_true rfl) (Nat.le_of_ble_eq_true rfl) hY.1 (Nat.le_of_ble_eq_true rfl) (y_isPlace hY hn) ?_
  refine wp_if_eq (q := 8) (tgt := 21) d_Y_least_5 (by decide) rfl (fun c5 => absurd c5 (by rw [pu_q_t ⟨i, hi, rfl⟩]; decide)) (fun _ => ?_)
  refine wp_aload_n (q := 9) d_Y_least_8 rfl rfl rfl ?_
  refine wp_iload_n (q := 10) d_Y_least_9 rfl rfl rfl ?_
  refine wp_cV1r (q := 13) d_Y_least_10 rfl bd_Y_isPlace lk_Y_77 im_Y_isPlace se_Y_isPlace rfl (Nat.le_of_ble_eq_true rfl) (Nat.le_of_ble_eq_true rfl) hY.1 (Nat.le_of_ble_eq_true rfl) (y_isPlace hY hn) ?_
  refine wp_if_eq (q := 16) (tgt := 21) d_Y_least_13 (by decide) rfl (fun c13 => absurd c13 (by rw [pu_q_t ⟨j, hj, rfl⟩]; decide)) (fun _ => ?_)
  refine wp_iload_n (q := 17) d_Y_least_16 rfl rfl rfl ?_
  refine wp_iload_n (q := 18) d_Y_least_17 rfl rfl rfl ?_
  refine wp_icmp_ne (q := 21) (tgt := 24) d_Y_least_18 (by decide) rfl (fun _ => ?_) (fun c18 => absurd c18 (fun e => hij (pu_nI_inj (by omega) (by omega) e)))
  refine wp_aload_n (q := 25) d_Y_least_24 rfl rfl rfl ?_
  refine wp_iconst (q := 26) (v := -1) d_Y_least_25 rfl (by decide) ?_
  refine wp_cV1g (q := 29) (bc1 := 0) (bs1 := 0) d_Y_least_26 rfl bd_Y_countArcs lk_Y_103 im_Y_countArcs se_Y_countArcs rfl (Nat.le_of_ble_eq_true rfl) (Nat.le_of_ble_eq_true rfl) hY.1 (Nat.le_of_ble_eq_true rfl) (y_countN hY hn (pu_yc_lt hP) (fun _ => rfl)) (fun v w1 hF => ?_)
  obtain ⟨rfl, f1, hT⟩ := hF
  have hY1 := hY.s f1 (by decide)
  refine wp_iconst (q := 30) (v := 1) d_Y_least_29 rfl (by decide) ?_
  refine wp_aload_n (q := 31) d_Y_least_30 rfl rfl rfl ?_
  refine wp_get (q := 34) (k := 0) d_Y_least_31 rfl ok_Y (Nat.le_of_ble_eq_true rfl) fk_Y_63 hY1.1 rfl ?_
  refine wp_ishl (q := 35) d_Y_least_34 rfl ?_
  rw [pu_bit n (by omega)]
  refine wp_iconst (q := 36) (v := 1) d_Y_least_35 rfl (by decide) ?_
  refine wp_isub (q := 37) d_Y_least_36 rfl ?_
  rw [pu_1, pk_sub hp1]
  refine wp_iconst (q := 38) (v := 1) d_Y_least_37 rfl (by decide) ?_
  refine wp_iload_n (q := 39) d_Y_least_38 rfl rfl rfl ?_
  refine wp_ishl (q := 40) d_Y_least_39 rfl ?_
  rw [pu_bit i (by omega)]
  refine wp_iconst (q := 41) (v := -1) d_Y_least_40 rfl (by decide) ?_
  refine wp_ixor (q := 42) d_Y_least_41 rfl ?_
  refine wp_iand (q := 43) d_Y_least_42 rfl ?_
  rw [pu_not]
  refine wp_iconst (q := 44) (v := 1) d_Y_least_43 rfl (by decide) ?_
  refine wp_iload_n (q := 45) d_Y_least_44 rfl rfl rfl ?_
  refine wp_ishl (q := 46) d_Y_least_45 rfl ?_
  rw [pu_bit j (by omega)]
  refine wp_iconst (q := 47) (v := -1) d_Y_least_46 rfl (by decide) ?_
  refine wp_ixor (q := 48) d_Y_least_47 rfl ?_
  refine wp_iand (q := 49) d_Y_least_48 rfl ?_
  rw [pu_not]
  refine wp_istore_n (q := 50) d_Y_least_49 rfl rfl (Nat.le_of_ble_eq_true rfl) rfl ?_
  refine wp_iconst (q := 51) (v := -1) d_Y_least_50 rfl (by decide) ?_
  refine wp_istore (q := 53) d_Y_least_51 rfl (Nat.le_of_ble_eq_true rfl) rfl ?_
  refine wp_iload_n (q := 54) d_Y_least_53 rfl rfl rfl ?_
  refine wp_istore (q := 56) d_Y_least_54 rfl (Nat.le_of_ble_eq_true rfl) rfl ?_
  have hoth : (pu_dif (pu_dif (2 ^ n - 1) (2 ^ i)) (2 ^ j)) < 2 ^ n := pu_dif_ltn (pu_dif_ltn (by omega))
  have h9 := y_least_L hY1 hn (pu_yc_ltn hPn) hT (i := i) (j := j) hi hj hoth ((pu_dif (pu_dif (2 ^ n - 1) (2 ^ i)) (2 ^ j)) + 1) (Nat.le_refl _) none w1 (fun b hb => by cases hb) YF.rf
  rw [pu_dn] at h9
  exact wp_post (fun v w2 h => ⟨h.1, (f1.up (by decide)).tr (h.2.up (by decide)), hY1.s1 h.2⟩) h9
