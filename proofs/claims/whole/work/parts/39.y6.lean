/-! CONTRACTS of the reference (6): weights -/
set_option maxHeartbeats 4000000 in
set_option maxRecDepth 100000 in
theorem y_weigh_q {n k : Nat} {P : Nat → Nat} {H : Nat → Int32} {O : Nat → Nat} {ik : Bool} {kn : Nat} {KP : Nat → Nat} {ic : Bool} {fz sm : Nat} {w : am_W} (hY : YI n k P H O ik kn KP ic fz sm w) (hW : YW n k P H O kn KP) {v p : Nat} (hv : v < 2 ^ n) (hp : p < n) {F : Option Value → am_W → Prop} (hout : am_Wp none m_Y_weigh 1 0 0 122 [(0, .ref 35), (1, .int (nI v)), (2, .long (lN (pu_yp n P H O v p))), (4, .int (nI p)), (5, .int (pu_b (v.testBit p))), (6, .int (nI (pu_rv (P p) v n))), (7, .int (nI (pu_pop n (P p)))), (8, .int (nI n))] [] w F) : ∀ q, q ≤ n → am_Wp none m_Y_weigh 1 0 0 79 [(0, .ref 35), (1, .int (nI v)), (2, .long (lN (pu_yp n P H O v p))), (4, .int (nI p)), (5, .int (pu_b (v.testBit p))), (6, .int (nI (pu_rv (P p) v q))), (7, .int (nI (pu_pop q (P p)))), (8, .int (nI q))] [] w F := by
  obtain ⟨hn, hk, hP, hO, hkn, hKP, hpop⟩ := id hW
  have hp2 := pu_p2e hn
  refine pu_up (P := fun q => am_Wp none m_Y_weigh 1 0 0 79 [(0, .ref 35), (1, .int (nI v)), (2, .long (lN (pu_yp n P H O v p))), (4, .int (nI p)), (5, .int (pu_b (v.testBit p))), (6, .int (nI (pu_rv (P p) v q))), (7, .int (nI (pu_pop q (P p)))), (8, .int (nI q))] [] w F) ?_ ?_
  · show am_Wp _ _ _ _ _ _ _ _ _ _
    refine wp_iload (q := 81) d_Y_weigh_79 rfl rfl ?_
    refine wp_aload_n (q := 82) d_Y_weigh_81 rfl rfl rfl ?_
    refine wp_get (q := 85) (k := 0) d_Y_weigh_82 rfl ok_Y (Nat.le_of_ble_eq_true rfl) fk_Y_63 hY.1 rfl ?_
    refine wp_icmp_ge (q := 88) (tgt := 122) d_Y_weigh_85 (by decide) rfl (fun _ => ?_) (fun c85 => absurd (nI_le (Nat.le_refl n) (by omega)) c85)
    exact hout
  · intro q hq ih
    have ih : am_Wp _ _ _ _ _ _ _ _ _ _ := ih
    show am_Wp _ _ _ _ _ _ _ _ _ _
    refine wp_iload (q := 81) d_Y_weigh_79 rfl rfl ?_
    refine wp_aload_n (q := 82) d_Y_weigh_81 rfl rfl rfl ?_
    refine wp_get (q := 85) (k := 0) d_Y_weigh_82 rfl ok_Y (Nat.le_of_ble_eq_true rfl) fk_Y_63 hY.1 rfl ?_
    refine wp_icmp_ge (q := 88) (tgt := 122) d_Y_weigh_85 (by decide) rfl (fun c85 => absurd c85 (nI_ge hq (by omega))) (fun _ => ?_)
    refine wp_aload_n (q := 89) d_Y_weigh_88 rfl rfl rfl ?_
    refine wp_iload (q := 91) d_Y_weigh_89 rfl rfl ?_
    refine wp_iload (q := 93) d_Y_weigh_91 rfl rfl ?_
    refine wp_cV2r (q := 96) d_Y_weigh_93 rfl bd_Y_isArc lk_Y_92 im_Y_isArc se_Y_isArc rfl (Nat.le_of_ble_eq_true rfl) (Nat.le_of_ble_eq_true rfl) hY.1 (Nat.le_of_ble_eq_true rfl) (y_isArc hY hP (by omega) (by omega)) ?_
    refine wp_if_eq (q := 99) (tgt := 116) d_Y_weigh_96 (by decide) rfl (fun c96 => ?_) (fun c96 => ?_)
    · have hb : (P p).testBit q = false := pu_b0.mp c96
      have e1 : pu_rv (P p) v (q + 1) = pu_rv (P p) v q := by rw [pu_rv, hb]; rfl
      have e2 : pu_pop (q + 1) (P p) = pu_pop q (P p) := by rw [pu_pop, hb]; rfl
      refine wp_inc1 (q := 119) d_Y_weigh_116 rfl rfl (nI_1 _) (Nat.le_of_ble_eq_true rfl) rfl ?_
      refine wp_goto (tgt := 79) d_Y_weigh_119 (by decide) ?_
      rw [e1, e2] at ih
      exact ih
    · have hb : (P p).testBit q = true := pu_b1 c96
      have e1 : pu_rv (P p) v (q + 1) = pu_rv (P p) v q ||| (if v.testBit q then 2 ^ pu_pop q (P p) else 0) := by rw [pu_rv, hb]; rfl
      have e2 : pu_pop (q + 1) (P p) = pu_pop q (P p) + 1 := by rw [pu_pop, hb]; rfl
      have hpq := pu_pop_le q (P p)
      refine wp_iload (q := 101) d_Y_weigh_99 rfl rfl ?_
      refine wp_iload_n (q := 102) d_Y_weigh_101 rfl rfl rfl ?_
      refine wp_iload (q := 104) d_Y_weigh_102 rfl rfl ?_
      refine wp_ishr (q := 105) d_Y_weigh_104 rfl ?_
      refine wp_iconst (q := 106) (v := 1) d_Y_weigh_105 rfl (by decide) ?_
      refine wp_iand (q := 107) d_Y_weigh_106 rfl ?_
      rw [pu_has (by omega) (by omega)]
      refine wp_iload (q := 109) d_Y_weigh_107 rfl rfl ?_
      refine wp_ishl (q := 110) d_Y_weigh_109 rfl ?_
      rw [pu_shb _ (by omega)]
      refine wp_ior (q := 111) d_Y_weigh_110 rfl ?_
      rw [pu_or]
      refine wp_istore (q := 113) d_Y_weigh_111 rfl (Nat.le_of_ble_eq_true rfl) rfl ?_
      refine wp_inc1 (q := 116) d_Y_weigh_113 rfl rfl (nI_1 _) (Nat.le_of_ble_eq_true rfl) rfl ?_
      refine wp_inc1 (q := 119) d_Y_weigh_116 rfl rfl (nI_1 _) (Nat.le_of_ble_eq_true rfl) rfl ?_
      refine wp_goto (tgt := 79) d_Y_weigh_119 (by decide) ?_
      rw [e1, e2] at ih
      exact ih
set_option maxHeartbeats 4000000 in
set_option maxRecDepth 100000 in
theorem y_weigh_p {n k : Nat} {P : Nat → Nat} {H : Nat → Int32} {O : Nat → Nat} {ik : Bool} {kn : Nat} {KP : Nat → Nat} {ic : Bool} {fz sm : Nat} {w : am_W} (hY : YI n k P H O ik kn KP ic fz sm w) (hW : YW n k P H O kn KP) {v : Nat} (hv : v < 2 ^ n) {F : Option Value → am_W → Prop} (hout : am_Wp none m_Y_weigh 1 0 0 165 [(0, .ref 35), (1, .int (nI v)), (2, .long (lN (pu_yp n P H O v n))), (4, .int (nI n))] [] w F) : ∀ p, p ≤ n → am_Wp none m_Y_weigh 1 0 0 17 [(0, .ref 35), (1, .int (nI v)), (2, .long (lN (pu_yp n P H O v p))), (4, .int (nI p))] [] w F := by
  obtain ⟨hn, hk, hP, hO, hkn, hKP, hpop⟩ := id hW
  have hp2 := pu_p2e hn
  refine pu_up (P := fun p => am_Wp none m_Y_weigh 1 0 0 17 [(0, .ref 35), (1, .int (nI v)), (2, .long (lN (pu_yp n P H O v p))), (4, .int (nI p))] [] w F) ?_ ?_
  · show am_Wp _ _ _ _ _ _ _ _ _ _
    refine wp_iload (q := 19) d_Y_weigh_17 rfl rfl ?_
    refine wp_aload_n (q := 20) d_Y_weigh_19 rfl rfl rfl ?_
    refine wp_get (q := 23) (k := 0) d_Y_weigh_20 rfl ok_Y (Nat.le_of_ble_eq_true rfl) fk_Y_63 hY.1 rfl ?_
    refine wp_icmp_ge (q := 26) (tgt := 165) d_Y_weigh_23 (by decide) rfl (fun _ => ?_) (fun c23 => absurd (nI_le (Nat.le_refl n) (by omega)) c23)
    exact hout
  · intro p hp ih
    have ih : am_Wp _ _ _ _ _ _ _ _ _ _ := ih
    show am_Wp _ _ _ _ _ _ _ _ _ _
    have hix : 128 * p + pu_rv (P p) v n < 1024 := by
      have h1 := pu_rv_lt (par := P p) (v := v) n
      have h2 := pu_pop_to8 (m := P p) hn
      have h3 := hpop p hp
      have h4 : 2 ^ pu_pop n (P p) ≤ 2 ^ 7 := Nat.pow_le_pow_right (by decide) (by omega)
      omega
    refine wp_iload (q := 19) d_Y_weigh_17 rfl rfl ?_
    refine wp_aload_n (q := 20) d_Y_weigh_19 rfl rfl rfl ?_
    refine wp_get (q := 23) (k := 0) d_Y_weigh_20 rfl ok_Y (Nat.le_of_ble_eq_true rfl) fk_Y_63 hY.1 rfl ?_
    refine wp_icmp_ge (q := 26) (tgt := 165) d_Y_weigh_23 (by decide) rfl (fun c23 => absurd c23 (nI_ge hp (by omega))) (fun _ => ?_)
    refine wp_iload_n (q := 27) d_Y_weigh_26 rfl rfl rfl ?_
    refine wp_iload (q := 29) d_Y_weigh_27 rfl rfl ?_
    refine wp_ishr (q := 30) d_Y_weigh_29 rfl ?_
    refine wp_iconst (q := 31) (v := 1) d_Y_weigh_30 rfl (by decide) ?_
    refine wp_iand (q := 32) d_Y_weigh_31 rfl ?_
    rw [pu_has (by omega) (by omega)]
    refine wp_istore (q := 34) d_Y_weigh_32 rfl (Nat.le_of_ble_eq_true rfl) rfl ?_
    refine wp_aload_n (q := 35) d_Y_weigh_34 rfl rfl rfl ?_
    refine wp_get (q := 38) (k := 3) d_Y_weigh_35 rfl ok_Y (Nat.le_of_ble_eq_true rfl) fk_Y_13 hY.1 rfl ?_
    refine wp_iload (q := 40) d_Y_weigh_38 rfl rfl ?_
    refine wp_ialoadN (q := 41) d_Y_weigh_40 rfl hY.2.2.1 rfl (by omega) (by decide) ?_
    refine wp_iconst (q := 42) (v := -1) d_Y_weigh_41 rfl (by decide) ?_
    refine wp_icmp_eq (q := 45) (tgt := 70) d_Y_weigh_42 (by decide) rfl (fun c42 => ?_) (fun c42 => ?_)
    · refine wp_iconst (q := 71) (v := 0) d_Y_weigh_70 rfl (by decide) ?_
      refine wp_istore (q := 73) d_Y_weigh_71 rfl (Nat.le_of_ble_eq_true rfl) rfl ?_
      refine wp_iconst (q := 74) (v := 0) d_Y_weigh_73 rfl (by decide) ?_
      refine wp_istore (q := 76) d_Y_weigh_74 rfl (Nat.le_of_ble_eq_true rfl) rfl ?_
      refine wp_iconst (q := 77) (v := 0) d_Y_weigh_76 rfl (by decide) ?_
      refine wp_istore (q := 79) d_Y_weigh_77 rfl (Nat.le_of_ble_eq_true rfl) rfl ?_
      refine y_weigh_q hY hW hv hp ?_ 0 (Nat.zero_le _)
      refine wp_aload_n (q := 123) d_Y_weigh_122 rfl rfl rfl ?_
      refine wp_get (q := 126) (k := 4) d_Y_weigh_123 rfl ok_Y (Nat.le_of_ble_eq_true rfl) fk_Y_16 hY.1 rfl ?_
      refine wp_sipush (q := 129) (v := 128) d_Y_weigh_126 rfl (by decide) ?_
      refine wp_iload (q := 131) d_Y_weigh_129 rfl rfl ?_
      refine wp_imul (q := 132) d_Y_weigh_131 rfl ?_
      rw [show (128 : Int32) = nI 128 from rfl, pk_mul]
      refine wp_iload (q := 134) d_Y_weigh_132 rfl rfl ?_
      refine wp_iadd (q := 135) d_Y_weigh_134 rfl ?_
      rw [nI_add]
      refine wp_ialoadN (q := 136) d_Y_weigh_135 rfl hY.2.2.2.1 rfl hix (by decide) ?_
      refine wp_istore (q := 138) d_Y_weigh_136 rfl (Nat.le_of_ble_eq_true rfl) rfl ?_
      refine wp_lload_n (q := 139) d_Y_weigh_138 rfl rfl rfl ?_
      refine wp_iload (q := 141) d_Y_weigh_139 rfl rfl ?_
      refine wp_iconst (q := 142) (v := 1) d_Y_weigh_141 rfl (by decide) ?_
      refine wp_icmp_ne (q := 145) (tgt := 151) d_Y_weigh_142 (by decide) rfl (fun c142 => ?_) (fun c142 => ?_)
      · refine wp_bipush (q := 153) (v := 8) d_Y_weigh_151 rfl (by decide) ?_
        refine wp_iload (q := 155) d_Y_weigh_153 rfl rfl ?_
        refine wp_isub (q := 156) d_Y_weigh_155 rfl ?_
        rw [show (8 : Int32) = nI 8 from rfl, pk_sub (hO _)]
        refine wp_i2l (q := 157) d_Y_weigh_156 rfl ?_
        rw [nI_l (by omega)]
        refine wp_lmul (q := 158) d_Y_weigh_157 rfl ?_
        rw [lN_mul]
        refine wp_lstore_n (q := 159) d_Y_weigh_158 rfl rfl (Nat.le_of_ble_eq_true rfl) rfl ?_
        refine wp_inc1 (q := 162) d_Y_weigh_159 rfl rfl (nI_1 _) (Nat.le_of_ble_eq_true rfl) rfl ?_
        refine wp_goto (tgt := 17) d_Y_weigh_162 (by decide) ?_
        have hb : v.testBit p = false := by cases h : v.testBit p with | false => rfl | true => rw [h] at c142; exact absurd rfl c142
        have e : pu_yp n P H O v (p + 1) = pu_yp n P H O v p * (8 - (O (128 * p + pu_rv (P p) v n))) := by rw [pu_yp, pu_yf, if_pos c42, hb]; rfl
        refine wp_lo [(0, .ref 35), (1, .int (nI v)), (2, .long (lN (pu_yp n P H O v (p + 1)))), (4, .int (nI (p + 1)))] ⟨rfl, rfl, by rw [e]; rfl, rfl, trivial⟩ ?_
        exact ih
      · refine wp_iload (q := 147) d_Y_weigh_145 rfl rfl ?_
        refine wp_i2l (q := 148) d_Y_weigh_147 rfl ?_
        rw [nI_l (by have := hO (128 * p + pu_rv (P p) v n); omega)]
        refine wp_goto (tgt := 157) d_Y_weigh_148 (by decide) ?_
        refine wp_lmul (q := 158) d_Y_weigh_157 rfl ?_
        rw [lN_mul]
        refine wp_lstore_n (q := 159) d_Y_weigh_158 rfl rfl (Nat.le_of_ble_eq_true rfl) rfl ?_
        refine wp_inc1 (q := 162) d_Y_weigh_159 rfl rfl (nI_1 _) (Nat.le_of_ble_eq_true rfl) rfl ?_
        refine wp_goto (tgt := 17) d_Y_weigh_162 (by decide) ?_
        have hb : v.testBit p = true := pu_h1.mp c142
        have e : pu_yp n P H O v (p + 1) = pu_yp n P H O v p * (O (128 * p + pu_rv (P p) v n)) := by rw [pu_yp, pu_yf, if_pos c42, hb]; rfl
        refine wp_lo [(0, .ref 35), (1, .int (nI v)), (2, .long (lN (pu_yp n P H O v (p + 1)))), (4, .int (nI (p + 1)))] ⟨rfl, rfl, by rw [e]; rfl, rfl, trivial⟩ ?_
        exact ih
    · refine wp_lload_n (q := 46) d_Y_weigh_45 rfl rfl rfl ?_
      refine wp_aload_n (q := 47) d_Y_weigh_46 rfl rfl rfl ?_
      refine wp_get (q := 50) (k := 3) d_Y_weigh_47 rfl ok_Y (Nat.le_of_ble_eq_true rfl) fk_Y_13 hY.1 rfl ?_
      refine wp_iload (q := 52) d_Y_weigh_50 rfl rfl ?_
      refine wp_ialoadN (q := 53) d_Y_weigh_52 rfl hY.2.2.1 rfl (by omega) (by decide) ?_
      refine wp_iload (q := 55) d_Y_weigh_53 rfl rfl ?_
      refine wp_icmp_ne (q := 58) (tgt := 64) d_Y_weigh_55 (by decide) rfl (fun c55 => ?_) (fun c55 => ?_)
      · refine wp_lconst (q := 65) (v := 0) d_Y_weigh_64 rfl (by decide) ?_
        refine wp_lmul (q := 66) d_Y_weigh_65 rfl ?_
        rw [show (0 : Int64) = lN 0 from rfl, lN_mul]
        refine wp_lstore_n (q := 67) d_Y_weigh_66 rfl rfl (Nat.le_of_ble_eq_true rfl) rfl ?_
        refine wp_goto (tgt := 159) d_Y_weigh_67 (by decide) ?_
        refine wp_inc1 (q := 162) d_Y_weigh_159 rfl rfl (nI_1 _) (Nat.le_of_ble_eq_true rfl) rfl ?_
        refine wp_goto (tgt := 17) d_Y_weigh_162 (by decide) ?_
        have e : pu_yp n P H O v (p + 1) = pu_yp n P H O v p * 0 := by rw [pu_yp, pu_yf, if_neg c42, if_neg c55]
        refine wp_lo [(0, .ref 35), (1, .int (nI v)), (2, .long (lN (pu_yp n P H O v (p + 1)))), (4, .int (nI (p + 1)))] ⟨rfl, rfl, by rw [e]; rfl, rfl, trivial⟩ ?_
        exact ih
      · refine wp_ldc2 (q := 61) d_Y_weigh_58 rfl kk_Y_121 ?_
        refine wp_goto (tgt := 65) d_Y_weigh_61 (by decide) ?_
        refine wp_lmul (q := 66) d_Y_weigh_65 rfl ?_
        rw [show (8 : Int64) = lN 8 from rfl, lN_mul]
        refine wp_lstore_n (q := 67) d_Y_weigh_66 rfl rfl (Nat.le_of_ble_eq_true rfl) rfl ?_
        refine wp_goto (tgt := 159) d_Y_weigh_67 (by decide) ?_
        refine wp_inc1 (q := 162) d_Y_weigh_159 rfl rfl (nI_1 _) (Nat.le_of_ble_eq_true rfl) rfl ?_
        refine wp_goto (tgt := 17) d_Y_weigh_162 (by decide) ?_
        have e : pu_yp n P H O v (p + 1) = pu_yp n P H O v p * 8 := by rw [pu_yp, pu_yf, if_neg c42, if_pos c55]
        refine wp_lo [(0, .ref 35), (1, .int (nI v)), (2, .long (lN (pu_yp n P H O v (p + 1)))), (4, .int (nI (p + 1)))] ⟨rfl, rfl, by rw [e]; rfl, rfl, trivial⟩ ?_
        exact ih
set_option maxHeartbeats 4000000 in
set_option maxRecDepth 100000 in
theorem y_weigh_v {n k : Nat} {P : Nat → Nat} {H : Nat → Int32} {O : Nat → Nat} {ik : Bool} {kn : Nat} {KP : Nat → Nat} {ic : Bool} {fz sm : Nat} {w : am_W} (hY : YI n k P H O ik kn KP ic fz sm w) (hW : YW n k P H O kn KP) {f : Nat → Int64} : ∀ v, v ≤ 2 ^ n → ∀ w1, YF [46] w w1 → w1[46]? = some (.inl (1, 256, .inr (.inl (pu_mxL (pu_yw n P H O) f v)))) → am_Wp none m_Y_weigh 1 0 0 2 [(0, .ref 35), (1, .int (nI v))] [] w1 (fun z w2 => z = none ∧ YF [46] w w2 ∧ ∃ f, w2[46]? = some (.inl (1, 256, .inr (.inl (pu_mxL (pu_yw n P H O) f (2 ^ n)))))) := by
  obtain ⟨hn, hk, hP, hO, hkn, hKP, hpop⟩ := id hW
  have hp2 := pu_p2e hn
  refine pu_up (P := fun v => ∀ w1, YF [46] w w1 → w1[46]? = some (.inl (1, 256, .inr (.inl (pu_mxL (pu_yw n P H O) f v)))) → am_Wp none m_Y_weigh 1 0 0 2 [(0, .ref 35), (1, .int (nI v))] [] w1 (fun z w2 => z = none ∧ YF [46] w w2 ∧ ∃ f, w2[46]? = some (.inl (1, 256, .inr (.inl (pu_mxL (pu_yw n P H O) f (2 ^ n))))))) ?_ ?_
  · intro w1 fr h46
    have hY1 := hY.s fr (by decide)
    refine wp_iload_n (q := 3) d_Y_weigh_2 rfl rfl rfl ?_
    refine wp_iconst (q := 4) (v := 1) d_Y_weigh_3 rfl (by decide) ?_
    refine wp_aload_n (q := 5) d_Y_weigh_4 rfl rfl rfl ?_
    refine wp_get (q := 8) (k := 0) d_Y_weigh_5 rfl ok_Y (Nat.le_of_ble_eq_true rfl) fk_Y_63 hY1.1 rfl ?_
    refine wp_ishl (q := 9) d_Y_weigh_8 rfl ?_
    rw [pu_bit n (by omega)]
    refine wp_icmp_ge (q := 12) (tgt := 178) d_Y_weigh_9 (by decide) rfl (fun _ => ?_) (fun c9 => absurd (nI_le (Nat.le_refl _) (by omega)) c9)
    exact wp_return rfl d_Y_weigh_178 ⟨rfl, fr, f, h46⟩
  · intro v hv ih w1 fr h46
    have hY1 := hY.s fr (by decide)
    refine wp_iload_n (q := 3) d_Y_weigh_2 rfl rfl rfl ?_
    refine wp_iconst (q := 4) (v := 1) d_Y_weigh_3 rfl (by decide) ?_
    refine wp_aload_n (q := 5) d_Y_weigh_4 rfl rfl rfl ?_
    refine wp_get (q := 8) (k := 0) d_Y_weigh_5 rfl ok_Y (Nat.le_of_ble_eq_true rfl) fk_Y_63 hY1.1 rfl ?_
    refine wp_ishl (q := 9) d_Y_weigh_8 rfl ?_
    rw [pu_bit n (by omega)]
    refine wp_icmp_ge (q := 12) (tgt := 178) d_Y_weigh_9 (by decide) rfl (fun c9 => absurd c9 (nI_ge hv (by omega))) (fun _ => ?_)
    refine wp_lconst (q := 13) (v := 1) d_Y_weigh_12 rfl (by decide) ?_
    refine wp_lstore_n (q := 14) d_Y_weigh_13 rfl rfl (Nat.le_of_ble_eq_true rfl) rfl ?_
    refine wp_iconst (q := 15) (v := 0) d_Y_weigh_14 rfl (by decide) ?_
    refine wp_istore (q := 17) d_Y_weigh_15 rfl (Nat.le_of_ble_eq_true rfl) rfl ?_
    refine y_weigh_p hY1 hW hv ?_ 0 (Nat.zero_le _)
    refine wp_aload_n (q := 166) d_Y_weigh_165 rfl rfl rfl ?_
    refine wp_get (q := 169) (k := 17) d_Y_weigh_166 rfl ok_Y (Nat.le_of_ble_eq_true rfl) fk_Y_40 hY1.1 rfl ?_
    refine wp_iload_n (q := 170) d_Y_weigh_169 rfl rfl rfl ?_
    refine wp_lload_n (q := 171) d_Y_weigh_170 rfl rfl rfl ?_
    refine wp_lastoreN (w' := w1.set 46 (.inl (1, 256, .inr (.inl (pu_mxL (pu_yw n P H O) f (v + 1)))))) (q := 172) d_Y_weigh_171 rfl h46 rfl (by omega) (by decide) (by rw [← pu_mxL_s]; rfl) ?_
    refine wp_inc1 (q := 175) d_Y_weigh_172 rfl rfl (nI_1 _) (Nat.le_of_ble_eq_true rfl) rfl ?_
    refine wp_goto (tgt := 2) d_Y_weigh_175 (by decide) ?_
    refine wp_lo [(0, .ref 35), (1, .int (nI (v + 1)))] ⟨rfl, rfl, trivial⟩ ?_
    exact ih _ (fr.put (by decide) h46 (by rfl)) (am_at_eq h46)
set_option maxHeartbeats 4000000 in
set_option maxRecDepth 100000 in
theorem y_weigh {n k : Nat} {P : Nat → Nat} {H : Nat → Int32} {O : Nat → Nat} {ik : Bool} {kn : Nat} {KP : Nat → Nat} {ic : Bool} {fz sm : Nat} {w : am_W} (hY : YI n k P H O ik kn KP ic fz sm w) (hW : YW n k P H O kn KP) : am_Wp none m_Y_weigh 1 0 0 0 [(0, .ref 35)] [] w (fun z w2 => z = none ∧ YF [46] w w2 ∧ ∃ f, w2[46]? = some (.inl (1, 256, .inr (.inl (pu_mxL (pu_yw n P H O) f (2 ^ n)))))) := by
  obtain ⟨f, h46⟩ := hY.2.2.2.2.2.2.2.2.2.2.2.1.l
  refine wp_iconst (q := 1) (v := 0) d_Y_weigh_0 rfl (by decide) ?_
  refine wp_istore_n (q := 2) d_Y_weigh_1 rfl rfl (Nat.le_of_ble_eq_true rfl) rfl ?_
  exact y_weigh_v hY hW 0 (Nat.zero_le _) w YF.rf (by rw [pu_mxL_0]; exact h46)
set_option maxHeartbeats 4000000 in
set_option maxRecDepth 100000 in
theorem y_weight_bad {n k : Nat} {P : Nat → Nat} {H : Nat → Int32} {O : Nat → Nat} {ik : Bool} {kn : Nat} {KP : Nat → Nat} {ic : Bool} {fz sm : Nat} {w : am_W} (hY : YI n k P H O ik kn KP ic fz sm w) (hW : YW n k P H O kn KP) {x y : Int32} (hb : ¬ (SE n x ∧ SE n y)) : am_Wp none m_Y_weight 2 0 0 0 [(0, .ref 35), (1, .int x), (2, .int y)] [] w (am_R (some (.long (-2))) w) := by
  obtain ⟨hn, hk, hP, hO, hkn, hKP, hpop⟩ := id hW
  refine wp_aload_n (q := 1) d_Y_weight_0 rfl rfl rfl ?_
  refine wp_iload_n (q := 2) d_Y_weight_1 rfl rfl rfl ?_
  refine wp_cV1r (q := 5) d_Y_weight_2 rfl bd_Y_isSet lk_Y_81 im_Y_isSet se_Y_isSet rfl (Nat.le_of_ble_eq_true rfl) (Nat.le_of_ble_eq_true rfl) hY.1 (Nat.le_of_ble_eq_true rfl) (y_isSet hY hn) ?_
  refine wp_if_eq (q := 8) (tgt := 16) d_Y_weight_5 (by decide) rfl (fun c5 => ?_) (fun c5 => ?_)
  · refine wp_ldc2 (q := 19) d_Y_weight_16 rfl kk_Y_123 ?_
    exact wp_lreturn rfl d_Y_weight_19 ⟨rfl, rfl⟩
  · refine wp_aload_n (q := 9) d_Y_weight_8 rfl rfl rfl ?_
    refine wp_iload_n (q := 10) d_Y_weight_9 rfl rfl rfl ?_
    refine wp_cV1r (q := 13) d_Y_weight_10 rfl bd_Y_isSet lk_Y_81 im_Y_isSet se_Y_isSet rfl (Nat.le_of_ble_eq_true rfl) (Nat.le_of_ble_eq_true rfl) hY.1 (Nat.le_of_ble_eq_true rfl) (y_isSet hY hn) ?_
    refine wp_if_ne (q := 16) (tgt := 20) d_Y_weight_13 (by decide) rfl (fun c13 => absurd (pu_q_f (fun h => hb ⟨pu_q1 c5, h⟩)) c13) (fun _ => ?_)
    refine wp_ldc2 (q := 19) d_Y_weight_16 rfl kk_Y_123 ?_
    exact wp_lreturn rfl d_Y_weight_19 ⟨rfl, rfl⟩
set_option maxHeartbeats 4000000 in
set_option maxRecDepth 100000 in
theorem y_weight_L {n k : Nat} {P : Nat → Nat} {H : Nat → Int32} {O : Nat → Nat} {ik : Bool} {kn : Nat} {KP : Nat → Nat} {ic : Bool} {fz sm : Nat} {w : am_W} (hY : YI n k P H O ik kn KP ic fz sm w) (hW : YW n k P H O kn KP) {t v : Nat} (ht : t < 2 ^ n) (hv0 : v < 2 ^ n) {w1 : am_W} (fr : YF [46] w w1) {f : Nat → Int64} (h46 : w1[46]? = some (.inl (1, 256, .inr (.inl (pu_mxL (pu_yw n P H O) f (2 ^ n)))))) : ∀ s, s ≤ 2 ^ n → am_Wp none m_Y_weight 2 0 0 29 [(0, .ref 35), (1, .int (nI t)), (2, .int (nI v)), (3, .long (lN (pu_sm (pu_yw n P H O) t v s))), (5, .int (nI s))] [] w1 (fun z w2 => z = some (.long (lN (pu_sm (pu_yw n P H O) t v (2 ^ n)))) ∧ YF [46] w w2) := by
  obtain ⟨hn, hk, hP, hO, hkn, hKP, hpop⟩ := id hW
  have hp2 := pu_p2e hn
  have hY1 := hY.s fr (by decide)
  refine pu_up (P := fun s => am_Wp none m_Y_weight 2 0 0 29 [(0, .ref 35), (1, .int (nI t)), (2, .int (nI v)), (3, .long (lN (pu_sm (pu_yw n P H O) t v s))), (5, .int (nI s))] [] w1 (fun z w2 => z = some (.long (lN (pu_sm (pu_yw n P H O) t v (2 ^ n)))) ∧ YF [46] w w2)) ?_ ?_
  · show am_Wp _ _ _ _ _ _ _ _ _ _
    refine wp_iload (q := 31) d_Y_weight_29 rfl rfl ?_
    refine wp_iconst (q := 32) (v := 1) d_Y_weight_31 rfl (by decide) ?_
    refine wp_aload_n (q := 33) d_Y_weight_32 rfl rfl rfl ?_
    refine wp_get (q := 36) (k := 0) d_Y_weight_33 rfl ok_Y (Nat.le_of_ble_eq_true rfl) fk_Y_63 hY1.1 rfl ?_
    refine wp_ishl (q := 37) d_Y_weight_36 rfl ?_
    rw [pu_bit n (by omega)]
    refine wp_icmp_ge (q := 40) (tgt := 69) d_Y_weight_37 (by decide) rfl (fun _ => ?_) (fun c37 => absurd (nI_le (Nat.le_refl _) (by omega)) c37)
    refine wp_lload_n (q := 70) d_Y_weight_69 rfl rfl rfl ?_
    exact wp_lreturn rfl d_Y_weight_70 ⟨rfl, fr⟩
  · intro s hs ih
    have ih : am_Wp _ _ _ _ _ _ _ _ _ _ := ih
    show am_Wp _ _ _ _ _ _ _ _ _ _
    refine wp_iload (q := 31) d_Y_weight_29 rfl rfl ?_
    refine wp_iconst (q := 32) (v := 1) d_Y_weight_31 rfl (by decide) ?_
    refine wp_aload_n (q := 33) d_Y_weight_32 rfl rfl rfl ?_
    refine wp_get (q := 36) (k := 0) d_Y_weight_33 rfl ok_Y (Nat.le_of_ble_eq_true rfl) fk_Y_63 hY1.1 rfl ?_
    refine wp_ishl (q := 37) d_Y_weight_36 rfl ?_
    rw [pu_bit n (by omega)]
    refine wp_icmp_ge (q := 40) (tgt := 69) d_Y_weight_37 (by decide) rfl (fun c37 => absurd c37 (nI_ge hs (by omega))) (fun _ => ?_)
    refine wp_lload_n (q := 41) d_Y_weight_40 rfl rfl rfl ?_
    refine wp_iload (q := 43) d_Y_weight_41 rfl rfl ?_
    refine wp_iload_n (q := 44) d_Y_weight_43 rfl rfl rfl ?_
    refine wp_ixor (q := 45) d_Y_weight_44 rfl ?_
    rw [pu_xor]
    refine wp_iload_n (q := 46) d_Y_weight_45 rfl rfl rfl ?_
    refine wp_iand (q := 47) d_Y_weight_46 rfl ?_
    rw [pu_and]
    refine wp_if_ne (q := 50) (tgt := 60) d_Y_weight_47 (by decide) rfl (fun c47 => ?_) (fun c47 => ?_)
    · refine wp_lconst (q := 61) (v := 0) d_Y_weight_60 rfl (by decide) ?_
      refine wp_ladd (q := 62) d_Y_weight_61 rfl ?_
      rw [show (0 : Int64) = lN 0 from rfl, lN_add, Nat.add_zero]
      refine wp_lstore_n (q := 63) d_Y_weight_62 rfl rfl (Nat.le_of_ble_eq_true rfl) rfl ?_
      refine wp_inc1 (q := 66) d_Y_weight_63 rfl rfl (nI_1 _) (Nat.le_of_ble_eq_true rfl) rfl ?_
      refine wp_goto (tgt := 29) d_Y_weight_66 (by decide) ?_
      have e : pu_sm (pu_yw n P H O) t v (s + 1) = pu_sm (pu_yw n P H O) t v s := by simp only [pu_sm]; rw [if_neg (fun h => c47 (by rw [h]; exact nI_0))]
      rw [e] at ih
      exact ih
    · have h47 : (s ^^^ v) &&& t = 0 := pu_nI_inj (Nat.lt_of_le_of_lt Nat.and_le_right (by omega)) (by decide) (c47.trans nI_0.symm)
      refine wp_aload_n (q := 51) d_Y_weight_50 rfl rfl rfl ?_
      refine wp_get (q := 54) (k := 17) d_Y_weight_51 rfl ok_Y (Nat.le_of_ble_eq_true rfl) fk_Y_40 hY1.1 rfl ?_
      refine wp_iload (q := 56) d_Y_weight_54 rfl rfl ?_
      refine wp_laloadN (q := 57) d_Y_weight_56 rfl h46 rfl (by omega) (by decide) ?_
      refine wp_goto (tgt := 61) d_Y_weight_57 (by decide) ?_
      refine wp_ladd (q := 62) d_Y_weight_61 rfl ?_
      rw [pu_mxL_at hs, lN_add]
      refine wp_lstore_n (q := 63) d_Y_weight_62 rfl rfl (Nat.le_of_ble_eq_true rfl) rfl ?_
      refine wp_inc1 (q := 66) d_Y_weight_63 rfl rfl (nI_1 _) (Nat.le_of_ble_eq_true rfl) rfl ?_
      refine wp_goto (tgt := 29) d_Y_weight_66 (by decide) ?_
      have e : pu_sm (pu_yw n P H O) t v (s + 1) = pu_sm (pu_yw n P H O) t v s + (pu_yw n P H O) s := by simp only [pu_sm]; rw [if_pos h47]
      rw [e] at ih
      exact ih
set_option maxHeartbeats 4000000 in
set_option maxRecDepth 100000 in
theorem y_weight {n k : Nat} {P : Nat → Nat} {H : Nat → Int32} {O : Nat → Nat} {ik : Bool} {kn : Nat} {KP : Nat → Nat} {ic : Bool} {fz sm : Nat} {w : am_W} (hY : YI n k P H O ik kn KP ic fz sm w) (hW : YW n k P H O kn KP) {t v : Nat} (ht : t < 2 ^ n) (hv0 : v < 2 ^ n) : am_Wp none m_Y_weight 2 0 0 0 [(0, .ref 35), (1, .int (nI t)), (2, .int (nI v))] [] w (fun z w1 => z = some (.long (lN (pu_sm (pu_yw n P H O) t v (2 ^ n)))) ∧ YF DY w w1 ∧ YI n k P H O ik kn KP ic fz sm w1) := by
  obtain ⟨hn, hk, hP, hO, hkn, hKP, hpop⟩ := id hW
  refine wp_aload_n (q := 1) d_Y_weight_0 rfl rfl rfl ?_
  refine wp_iload_n (q := 2) d_Y_weight_1 rfl rfl rfl ?_
  refine wp_cV1r (q := 5) d_Y_weight_2 rfl bd_Y_isSet lk_Y_81 im_Y_isSet se_Y_isSet rfl (Nat.le_of_ble_eq_true rfl) (Nat.le_of_ble_eq_true rfl) hY.1 (Nat.le_of_ble_eq_true rfl) (y_isSet hY hn) ?_
  refine wp_if_eq (q := 8) (tgt := 16) d_Y_weight_5 (by decide) rfl (fun c5 => absurd c5 (by rw [pu_q_t ⟨t, ht, rfl⟩]; decide)) (fun _ => ?_)
  refine wp_aload_n (q := 9) d_Y_weight_8 rfl rfl rfl ?_
  refine wp_iload_n (q := 10) d_Y_weight_9 rfl rfl rfl ?_
  refine wp_cV1r (q := 13) d_Y_weight_10 rfl bd_Y_isSet lk_Y_81 im_Y_isSet se_Y_isSet rfl (Nat.le_of_ble_eq_true rfl) (Nat.le_of_ble_eq_true rfl) hY.1 (Nat.le_of_ble_eq_true rfl) (y_isSet hY hn) ?_
  refine wp_if_ne (q := 16) (tgt := 20) d_Y_weight_13 (by decide) rfl (fun _ => ?_) (fun c13 => absurd c13 (by rw [pu_q_t ⟨v, hv0, rfl⟩]; decide))
  refine wp_aload_n (q := 21) d_Y_weight_20 rfl rfl rfl ?_
  refine wp_cV0g (q := 24) (bc1 := 0) (bs1 := 0) d_Y_weight_21 rfl bd_Y_weigh lk_Y_125 im_Y_weigh se_Y_weigh rfl (Nat.le_of_ble_eq_true rfl) (Nat.le_of_ble_eq_true rfl) hY.1 (Nat.le_of_ble_eq_true rfl) (y_weigh hY hW) (fun v w1 hF => ?_)
  obtain ⟨rfl, f1, f, h46⟩ := hF
  refine wp_lconst (q := 25) (v := 0) d_Y_weight_24 rfl (by decide) ?_
  refine wp_lstore_n (q := 26) d_Y_weight_25 rfl rfl (Nat.le_of_ble_eq_true rfl) rfl ?_
  refine wp_iconst (q := 27) (v := 0) d_Y_weight_26 rfl (by decide) ?_
  refine wp_istore (q := 29) d_Y_weight_27 rfl (Nat.le_of_ble_eq_true rfl) rfl ?_
  exact wp_post (fun z w2 h => ⟨h.1, h.2.up (by decide), hY.s h.2 (by decide)⟩) (y_weight_L hY hW ht hv0 f1 h46 0 (Nat.zero_le _))
set_option maxHeartbeats 4000000 in
set_option maxRecDepth 100000 in
theorem y_hangs_B {n k : Nat} {P : Nat → Nat} {H : Nat → Int32} {O : Nat → Nat} {ik : Bool} {kn : Nat} {KP : Nat → Nat} {ic : Bool} {fz sm : Nat} {w : am_W} (hY : YI n k P H O ik kn KP ic fz sm w) (hW : YW n k P H O kn KP) {i j t : Nat} (hi : i < n) (hj : j < n) (ht : t < 2 ^ n) {w1 : am_W} (fr : YF [46, 47] w w1) (h47 : w1[47]? = some (.inl (1, 1024, .inr (.inl (fun q => lN ((pu_sec (pu_mg (pu_yw n P H O) (t ||| 2 ^ i ||| 2 ^ j) (2 ^ n)) (pu_mg (pu_yw n P H O) t (2 ^ n)) (pu_mg (pu_yw n P H O) (t ||| 2 ^ i) (2 ^ n)) (pu_mg (pu_yw n P H O) (t ||| 2 ^ j) (2 ^ n))) q)))))) : ∀ (r v : Nat), v + r = (t ||| 2 ^ i ||| 2 ^ j) + 1 → pu_ld (pu_yw n P H O) (2 ^ n) (t ||| 2 ^ i) (t ||| 2 ^ j) (t ||| 2 ^ i ||| 2 ^ j) t r v = pu_ld (pu_yw n P H O) (2 ^ n) (t ||| 2 ^ i) (t ||| 2 ^ j) (t ||| 2 ^ i ||| 2 ^ j) t ((t ||| 2 ^ i ||| 2 ^ j) + 1) 0 → am_Wp none m_Y_hangs 2 0 0 164 [(0, .ref 35), (1, .int (nI i)), (2, .int (nI j)), (3, .int (nI t)), (4, .int (nI (t ||| 2 ^ i))), (5, .int (nI (t ||| 2 ^ j))), (6, .int (nI (t ||| 2 ^ i ||| 2 ^ j))), (7, .int (nI v))] [] w1 (fun z w2 => z = some (.int (pu_ld (pu_yw n P H O) (2 ^ n) (t ||| 2 ^ i) (t ||| 2 ^ j) (t ||| 2 ^ i ||| 2 ^ j) t ((t ||| 2 ^ i ||| 2 ^ j) + 1) 0)) ∧ YF [46, 47] w w2) := by
  obtain ⟨hn, hk, hP, hO, hkn, hKP, hpop⟩ := id hW
  have hp2 := pu_p2e hn
  have b1 : t < 256 := by omega
  have b2 : (t ||| 2 ^ i) < 256 := pu_or_lt b1 (pu_p2 (by omega))
  have b3 : (t ||| 2 ^ j) < 256 := pu_or_lt b1 (pu_p2 (by omega))
  have b4 : (t ||| 2 ^ i ||| 2 ^ j) < 256 := pu_or_lt b2 (pu_p2 (by omega))
  have hY1 := hY.s fr (by decide)
  intro r
  induction r with
  | zero =>
    intro v hv1 hres
    refine wp_iload (q := 166) d_Y_hangs_164 rfl rfl ?_
    refine wp_iload (q := 168) d_Y_hangs_166 rfl rfl ?_
    refine wp_icmp_gt (q := 171) (tgt := 244) d_Y_hangs_168 (by decide) rfl (fun _ => ?_) (fun c168 => absurd (nI_lt (by omega) (by omega)) c168)
    refine wp_iconst (q := 245) (v := -1) d_Y_hangs_244 rfl (by decide) ?_
    exact wp_ireturn rfl d_Y_hangs_245 ⟨by rw [← hres]; rfl, fr⟩
  | succ r ih =>
    intro v hv1 hres
    refine wp_iload (q := 166) d_Y_hangs_164 rfl rfl ?_
    refine wp_iload (q := 168) d_Y_hangs_166 rfl rfl ?_
    refine wp_icmp_gt (q := 171) (tgt := 244) d_Y_hangs_168 (by decide) rfl (fun c168 => absurd c168 (nI_nlt (by omega) (by omega))) (fun _ => ?_)
    refine wp_iload (q := 173) d_Y_hangs_171 rfl rfl ?_
    refine wp_iload (q := 175) d_Y_hangs_173 rfl rfl ?_
    refine wp_iconst (q := 176) (v := -1) d_Y_hangs_175 rfl (by decide) ?_
    refine wp_ixor (q := 177) d_Y_hangs_176 rfl ?_
    refine wp_iand (q := 178) d_Y_hangs_177 rfl ?_
    rw [pu_not]
    refine wp_if_ne (q := 181) (tgt := 238) d_Y_hangs_178 (by decide) rfl (fun c178 => ?_) (fun c178 => ?_)
    · refine wp_inc1 (q := 241) d_Y_hangs_238 rfl rfl (nI_1 _) (Nat.le_of_ble_eq_true rfl) rfl ?_
      refine wp_goto (tgt := 164) d_Y_hangs_241 (by decide) ?_
      have e : pu_ld (pu_yw n P H O) (2 ^ n) (t ||| 2 ^ i) (t ||| 2 ^ j) (t ||| 2 ^ i ||| 2 ^ j) t (r + 1) v = pu_ld (pu_yw n P H O) (2 ^ n) (t ||| 2 ^ i) (t ||| 2 ^ j) (t ||| 2 ^ i ||| 2 ^ j) t r (v + 1) := by simp only [pu_ld]; rw [if_neg (fun h => c178 (by rw [h.1]; exact nI_0))]
      rw [e] at hres
      exact ih (v + 1) (by omega) hres
    · have h178 : pu_dif v (t ||| 2 ^ i ||| 2 ^ j) = 0 := pu_nI_inj (Nat.lt_trans (pu_dif_lt (show v < 256 by omega)) (by decide)) (by decide) (c178.trans nI_0.symm)
      have hva : v &&& (t ||| 2 ^ i ||| 2 ^ j) = v := pu_dif_all (by omega) h178
      have k1 : v &&& t < 256 := (Nat.lt_of_le_of_lt Nat.and_le_right b1)
      have k2 : v &&& (t ||| 2 ^ i) < 256 := (Nat.lt_of_le_of_lt Nat.and_le_right b2)
      have k3 : v &&& (t ||| 2 ^ j) < 256 := (Nat.lt_of_le_of_lt Nat.and_le_right b3)
      refine wp_aload_n (q := 182) d_Y_hangs_181 rfl rfl rfl ?_
      refine wp_get (q := 185) (k := 18) d_Y_hangs_182 rfl ok_Y (Nat.le_of_ble_eq_true rfl) fk_Y_44 hY1.1 rfl ?_
      refine wp_iload (q := 187) d_Y_hangs_185 rfl rfl ?_
      refine wp_laloadN (q := 188) d_Y_hangs_187 rfl h47 rfl (by omega) (by decide) ?_
      show am_Wp _ _ _ _ _ _ _ (.long (lN ((pu_sec (pu_mg (pu_yw n P H O) (t ||| 2 ^ i ||| 2 ^ j) (2 ^ n)) (pu_mg (pu_yw n P H O) t (2 ^ n)) (pu_mg (pu_yw n P H O) (t ||| 2 ^ i) (2 ^ n)) (pu_mg (pu_yw n P H O) (t ||| 2 ^ j) (2 ^ n))) v)) :: _) _ _
      rw [pu_secA (by omega)]
      refine wp_aload_n (q := 189) d_Y_hangs_188 rfl rfl rfl ?_
      refine wp_get (q := 192) (k := 18) d_Y_hangs_189 rfl ok_Y (Nat.le_of_ble_eq_true rfl) fk_Y_44 hY1.1 rfl ?_
      refine wp_sipush (q := 195) (v := 256) d_Y_hangs_192 rfl (by decide) ?_
      refine wp_iload (q := 197) d_Y_hangs_195 rfl rfl ?_
      refine wp_iload_n (q := 198) d_Y_hangs_197 rfl rfl rfl ?_
      refine wp_iand (q := 199) d_Y_hangs_198 rfl ?_
      rw [pu_and]
      refine wp_iadd (q := 200) d_Y_hangs_199 rfl ?_
      rw [show (256 : Int32) = nI 256 from rfl, nI_add]
      refine wp_laloadN (q := 201) d_Y_hangs_200 rfl h47 rfl (by omega) (by decide) ?_
      show am_Wp _ _ _ _ _ _ _ (.long (lN ((pu_sec (pu_mg (pu_yw n P H O) (t ||| 2 ^ i ||| 2 ^ j) (2 ^ n)) (pu_mg (pu_yw n P H O) t (2 ^ n)) (pu_mg (pu_yw n P H O) (t ||| 2 ^ i) (2 ^ n)) (pu_mg (pu_yw n P H O) (t ||| 2 ^ j) (2 ^ n))) (256 + (v &&& t)))) :: _) _ _
      rw [pu_secB k1]
      refine wp_lmul (q := 202) d_Y_hangs_201 rfl ?_
      rw [lN_mul]
      refine wp_aload_n (q := 203) d_Y_hangs_202 rfl rfl rfl ?_
      refine wp_get (q := 206) (k := 18) d_Y_hangs_203 rfl ok_Y (Nat.le_of_ble_eq_true rfl) fk_Y_44 hY1.1 rfl ?_
      refine wp_sipush (q := 209) (v := 512) d_Y_hangs_206 rfl (by decide) ?_
      refine wp_iload (q := 211) d_Y_hangs_209 rfl rfl ?_
      refine wp_iload (q := 213) d_Y_hangs_211 rfl rfl ?_
      refine wp_iand (q := 214) d_Y_hangs_213 rfl ?_
      rw [pu_and]
      refine wp_iadd (q := 215) d_Y_hangs_214 rfl ?_
      rw [show (512 : Int32) = nI 512 from rfl, nI_add]
      refine wp_laloadN (q := 216) d_Y_hangs_215 rfl h47 rfl (by omega) (by decide) ?_
      show am_Wp _ _ _ _ _ _ _ (.long (lN ((pu_sec (pu_mg (pu_yw n P H O) (t ||| 2 ^ i ||| 2 ^ j) (2 ^ n)) (pu_mg (pu_yw n P H O) t (2 ^ n)) (pu_mg (pu_yw n P H O) (t ||| 2 ^ i) (2 ^ n)) (pu_mg (pu_yw n P H O) (t ||| 2 ^ j) (2 ^ n))) (512 + (v &&& (t ||| 2 ^ i))))) :: _) _ _
      rw [pu_secX k2]
      refine wp_aload_n (q := 217) d_Y_hangs_216 rfl rfl rfl ?_
      refine wp_get (q := 220) (k := 18) d_Y_hangs_217 rfl ok_Y (Nat.le_of_ble_eq_true rfl) fk_Y_44 hY1.1 rfl ?_
      refine wp_sipush (q := 223) (v := 768) d_Y_hangs_220 rfl (by decide) ?_
      refine wp_iload (q := 225) d_Y_hangs_223 rfl rfl ?_
      refine wp_iload (q := 227) d_Y_hangs_225 rfl rfl ?_
      refine wp_iand (q := 228) d_Y_hangs_227 rfl ?_
      rw [pu_and]
      refine wp_iadd (q := 229) d_Y_hangs_228 rfl ?_
      rw [show (768 : Int32) = nI 768 from rfl, nI_add]
      refine wp_laloadN (q := 230) d_Y_hangs_229 rfl h47 rfl (by omega) (by decide) ?_
      show am_Wp _ _ _ _ _ _ _ (.long (lN ((pu_sec (pu_mg (pu_yw n P H O) (t ||| 2 ^ i ||| 2 ^ j) (2 ^ n)) (pu_mg (pu_yw n P H O) t (2 ^ n)) (pu_mg (pu_yw n P H O) (t ||| 2 ^ i) (2 ^ n)) (pu_mg (pu_yw n P H O) (t ||| 2 ^ j) (2 ^ n))) (768 + (v &&& (t ||| 2 ^ j))))) :: _) _ _
      rw [pu_secY]
      refine wp_lmul (q := 231) d_Y_hangs_230 rfl ?_
      rw [lN_mul]
      refine wp_lcmp (q := 232) d_Y_hangs_231 rfl ?_
      refine wp_if_eq (q := 235) (tgt := 238) d_Y_hangs_232 (by decide) rfl (fun c232 => ?_) (fun c232 => ?_)
      · refine wp_inc1 (q := 241) d_Y_hangs_238 rfl rfl (nI_1 _) (Nat.le_of_ble_eq_true rfl) rfl ?_
        refine wp_goto (tgt := 164) d_Y_hangs_241 (by decide) ?_
        have e : pu_ld (pu_yw n P H O) (2 ^ n) (t ||| 2 ^ i) (t ||| 2 ^ j) (t ||| 2 ^ i ||| 2 ^ j) t (r + 1) v = pu_ld (pu_yw n P H O) (2 ^ n) (t ||| 2 ^ i) (t ||| 2 ^ j) (t ||| 2 ^ i ||| 2 ^ j) t r (v + 1) := by simp only [pu_ld]; rw [if_neg (fun h => h.2 (by have := lg_cmp0.mp c232; rw [hva]; exact this))]
        rw [e] at hres
        exact ih (v + 1) (by omega) hres
      · refine wp_iload (q := 237) d_Y_hangs_235 rfl rfl ?_
        exact wp_ireturn rfl d_Y_hangs_237 ⟨by rw [← hres]; simp only [pu_ld]; rw [if_pos ⟨h178, fun h => c232 (lg_cmp0.mpr (by rw [hva] at h; exact h))⟩], fr⟩
theorem pu_mg_s {f : Nat → Nat} {m s : Nat} : pu_ad (pu_mg f m s) (s &&& m) (f s) = pu_mg f m (s + 1) := rfl
set_option maxHeartbeats 4000000 in
set_option maxRecDepth 100000 in
theorem y_hangs_A {n k : Nat} {P : Nat → Nat} {H : Nat → Int32} {O : Nat → Nat} {ik : Bool} {kn : Nat} {KP : Nat → Nat} {ic : Bool} {fz sm : Nat} {w : am_W} (hY : YI n k P H O ik kn KP ic fz sm w) (hW : YW n k P H O kn KP) {i j t : Nat} (hi : i < n) (hj : j < n) (ht : t < 2 ^ n) : ∀ s, s ≤ 2 ^ n → ∀ w1, YF [46, 47] w w1 → (∃ f, w1[46]? = some (.inl (1, 256, .inr (.inl (pu_mxL (pu_yw n P H O) f (2 ^ n)))))) → w1[47]? = some (.inl (1, 1024, .inr (.inl (fun q => lN ((pu_sec (pu_mg (pu_yw n P H O) (t ||| 2 ^ i ||| 2 ^ j) s) (pu_mg (pu_yw n P H O) t s) (pu_mg (pu_yw n P H O) (t ||| 2 ^ i) s) (pu_mg (pu_yw n P H O) (t ||| 2 ^ j) s)) q))))) → am_Wp none m_Y_hangs 2 0 0 53 [(0, .ref 35), (1, .int (nI i)), (2, .int (nI j)), (3, .int (nI t)), (4, .int (nI (t ||| 2 ^ i))), (5, .int (nI (t ||| 2 ^ j))), (6, .int (nI (t ||| 2 ^ i ||| 2 ^ j))), (7, .int (nI s))] [] w1 (fun z w2 => z = some (.int (pu_ld (pu_yw n P H O) (2 ^ n) (t ||| 2 ^ i) (t ||| 2 ^ j) (t ||| 2 ^ i ||| 2 ^ j) t ((t ||| 2 ^ i ||| 2 ^ j) + 1) 0)) ∧ YF [46, 47] w w2) := by
  obtain ⟨hn, hk, hP, hO, hkn, hKP, hpop⟩ := id hW
  have hp2 := pu_p2e hn
  have b1 : t < 256 := by omega
  have b2 : (t ||| 2 ^ i) < 256 := pu_or_lt b1 (pu_p2 (by omega))
  have b3 : (t ||| 2 ^ j) < 256 := pu_or_lt b1 (pu_p2 (by omega))
  have b4 : (t ||| 2 ^ i ||| 2 ^ j) < 256 := pu_or_lt b2 (pu_p2 (by omega))
  refine pu_up (P := fun s => ∀ w1, YF [46, 47] w w1 → (∃ f, w1[46]? = some (.inl (1, 256, .inr (.inl (pu_mxL (pu_yw n P H O) f (2 ^ n)))))) → w1[47]? = some (.inl (1, 1024, .inr (.inl (fun q => lN ((pu_sec (pu_mg (pu_yw n P H O) (t ||| 2 ^ i ||| 2 ^ j) s) (pu_mg (pu_yw n P H O) t s) (pu_mg (pu_yw n P H O) (t ||| 2 ^ i) s) (pu_mg (pu_yw n P H O) (t ||| 2 ^ j) s)) q))))) → am_Wp none m_Y_hangs 2 0 0 53 [(0, .ref 35), (1, .int (nI i)), (2, .int (nI j)), (3, .int (nI t)), (4, .int (nI (t ||| 2 ^ i))), (5, .int (nI (t ||| 2 ^ j))), (6, .int (nI (t ||| 2 ^ i ||| 2 ^ j))), (7, .int (nI s))] [] w1 (fun z w2 => z = some (.int (pu_ld (pu_yw n P H O) (2 ^ n) (t ||| 2 ^ i) (t ||| 2 ^ j) (t ||| 2 ^ i ||| 2 ^ j) t ((t ||| 2 ^ i ||| 2 ^ j) + 1) 0)) ∧ YF [46, 47] w w2)) ?_ ?_
  · intro w1 fr h46 h47
    have hY1 := hY.s fr (by decide)
    refine wp_iload (q := 55) d_Y_hangs_53 rfl rfl ?_
    refine wp_iconst (q := 56) (v := 1) d_Y_hangs_55 rfl (by decide) ?_
    refine wp_aload_n (q := 57) d_Y_hangs_56 rfl rfl rfl ?_
    refine wp_get (q := 60) (k := 0) d_Y_hangs_57 rfl ok_Y (Nat.le_of_ble_eq_true rfl) fk_Y_63 hY1.1 rfl ?_
    refine wp_ishl (q := 61) d_Y_hangs_60 rfl ?_
    rw [pu_bit n (by omega)]
    refine wp_icmp_ge (q := 64) (tgt := 161) d_Y_hangs_61 (by decide) rfl (fun _ => ?_) (fun c61 => absurd (nI_le (Nat.le_refl _) (by omega)) c61)
    refine wp_iconst (q := 162) (v := 0) d_Y_hangs_161 rfl (by decide) ?_
    refine wp_istore (q := 164) d_Y_hangs_162 rfl (Nat.le_of_ble_eq_true rfl) rfl ?_
    exact y_hangs_B hY hW hi hj ht fr h47 ((t ||| 2 ^ i ||| 2 ^ j) + 1) 0 (by omega) rfl
  · intro s hs ih w1 fr h46 h47
    obtain ⟨f, h46⟩ := h46
    have hY1 := hY.s fr (by decide)
    have k1 : s &&& t < 256 := (Nat.lt_of_le_of_lt Nat.and_le_right b1)
    have k2 : s &&& (t ||| 2 ^ i) < 256 := (Nat.lt_of_le_of_lt Nat.and_le_right b2)
    have k3 : s &&& (t ||| 2 ^ j) < 256 := (Nat.lt_of_le_of_lt Nat.and_le_right b3)
    have k4 : s &&& (t ||| 2 ^ i ||| 2 ^ j) < 256 := (Nat.lt_of_le_of_lt Nat.and_le_right b4)
    refine wp_iload (q := 55) d_Y_hangs_53 rfl rfl ?_
    refine wp_iconst (q := 56) (v := 1) d_Y_hangs_55 rfl (by decide) ?_
    refine wp_aload_n (q := 57) d_Y_hangs_56 rfl rfl rfl ?_
    refine wp_get (q := 60) (k := 0) d_Y_hangs_57 rfl ok_Y (Nat.le_of_ble_eq_true rfl) fk_Y_63 hY1.1 rfl ?_
    refine wp_ishl (q := 61) d_Y_hangs_60 rfl ?_
    rw [pu_bit n (by omega)]
    refine wp_icmp_ge (q := 64) (tgt := 161) d_Y_hangs_61 (by decide) rfl (fun c61 => absurd c61 (nI_ge hs (by omega))) (fun _ => ?_)
    refine wp_aload_n (q := 65) d_Y_hangs_64 rfl rfl rfl ?_
    refine wp_get (q := 68) (k := 18) d_Y_hangs_65 rfl ok_Y (Nat.le_of_ble_eq_true rfl) fk_Y_44 hY1.1 rfl ?_
    refine wp_iload (q := 70) d_Y_hangs_68 rfl rfl ?_
    refine wp_iload (q := 72) d_Y_hangs_70 rfl rfl ?_
    refine wp_iand (q := 73) d_Y_hangs_72 rfl ?_
    rw [pu_and]
    refine wp_dup2 (q := 74) d_Y_hangs_73 rfl rfl rfl ?_
    refine wp_laloadN (q := 75) d_Y_hangs_74 rfl h47 rfl (by omega) (by decide) ?_
    refine wp_aload_n (q := 76) d_Y_hangs_75 rfl rfl rfl ?_
    refine wp_get (q := 79) (k := 17) d_Y_hangs_76 rfl ok_Y (Nat.le_of_ble_eq_true rfl) fk_Y_40 hY1.1 rfl ?_
    refine wp_iload (q := 81) d_Y_hangs_79 rfl rfl ?_
    refine wp_laloadN (q := 82) d_Y_hangs_81 rfl h46 rfl (by omega) (by decide) ?_
    refine wp_ladd (q := 83) d_Y_hangs_82 rfl ?_
    rw [pu_mxL_at hs]
    refine wp_lastoreN (w' := w1.set 47 (.inl (1, 1024, .inr (.inl (fun q => lN ((pu_sec (pu_mg (pu_yw n P H O) (t ||| 2 ^ i ||| 2 ^ j) (s + 1)) (pu_mg (pu_yw n P H O) t s) (pu_mg (pu_yw n P H O) (t ||| 2 ^ i) s) (pu_mg (pu_yw n P H O) (t ||| 2 ^ j) s)) q)))))) (q := 84) d_Y_hangs_83 rfl h47 rfl (by omega) (by decide) (by rw [pu_ad_u, pu_sec_a k4, pu_mg_s]) ?_
    have fr := fr.put (a := 47) (c := (.inl (1, 1024, .inr (.inl (fun q => lN ((pu_sec (pu_mg (pu_yw n P H O) (t ||| 2 ^ i ||| 2 ^ j) (s + 1)) (pu_mg (pu_yw n P H O) t s) (pu_mg (pu_yw n P H O) (t ||| 2 ^ i) s) (pu_mg (pu_yw n P H O) (t ||| 2 ^ j) s)) q)))))) (by decide) h47 (by rfl)
    have hY1 := hY.s fr (by decide)
    replace h46 : (w1.set 47 (.inl (1, 1024, .inr (.inl (fun q => lN ((pu_sec (pu_mg (pu_yw n P H O) (t ||| 2 ^ i ||| 2 ^ j) (s + 1)) (pu_mg (pu_yw n P H O) t s) (pu_mg (pu_yw n P H O) (t ||| 2 ^ i) s) (pu_mg (pu_yw n P H O) (t ||| 2 ^ j) s)) q))))))[46]? = _ := am_at_ne (by decide) h46
    replace h47 : (w1.set 47 (.inl (1, 1024, .inr (.inl (fun q => lN ((pu_sec (pu_mg (pu_yw n P H O) (t ||| 2 ^ i ||| 2 ^ j) (s + 1)) (pu_mg (pu_yw n P H O) t s) (pu_mg (pu_yw n P H O) (t ||| 2 ^ i) s) (pu_mg (pu_yw n P H O) (t ||| 2 ^ j) s)) q))))))[47]? = some (.inl (1, 1024, .inr (.inl (fun q => lN ((pu_sec (pu_mg (pu_yw n P H O) (t ||| 2 ^ i ||| 2 ^ j) (s + 1)) (pu_mg (pu_yw n P H O) t s) (pu_mg (pu_yw n P H O) (t ||| 2 ^ i) s) (pu_mg (pu_yw n P H O) (t ||| 2 ^ j) s)) q))))) := am_at_eq h47
    generalize w1.set 47 (.inl (1, 1024, .inr (.inl (fun q => lN ((pu_sec (pu_mg (pu_yw n P H O) (t ||| 2 ^ i ||| 2 ^ j) (s + 1)) (pu_mg (pu_yw n P H O) t s) (pu_mg (pu_yw n P H O) (t ||| 2 ^ i) s) (pu_mg (pu_yw n P H O) (t ||| 2 ^ j) s)) q))))) = w1 at fr hY1 h46 h47 ⊢
    refine wp_aload_n (q := 85) d_Y_hangs_84 rfl rfl rfl ?_
    refine wp_get (q := 88) (k := 18) d_Y_hangs_85 rfl ok_Y (Nat.le_of_ble_eq_true rfl) fk_Y_44 hY1.1 rfl ?_
    refine wp_sipush (q := 91) (v := 256) d_Y_hangs_88 rfl (by decide) ?_
    refine wp_iload (q := 93) d_Y_hangs_91 rfl rfl ?_
    refine wp_iload_n (q := 94) d_Y_hangs_93 rfl rfl rfl ?_
    refine wp_iand (q := 95) d_Y_hangs_94 rfl ?_
    rw [pu_and]
    refine wp_iadd (q := 96) d_Y_hangs_95 rfl ?_
    rw [show (256 : Int32) = nI 256 from rfl, nI_add]
    refine wp_dup2 (q := 97) d_Y_hangs_96 rfl rfl rfl ?_
    refine wp_laloadN (q := 98) d_Y_hangs_97 rfl h47 rfl (by omega) (by decide) ?_
    refine wp_aload_n (q := 99) d_Y_hangs_98 rfl rfl rfl ?_
    refine wp_get (q := 102) (k := 17) d_Y_hangs_99 rfl ok_Y (Nat.le_of_ble_eq_true rfl) fk_Y_40 hY1.1 rfl ?_
    refine wp_iload (q := 104) d_Y_hangs_102 rfl rfl ?_
    refine wp_laloadN (q := 105) d_Y_hangs_104 rfl h46 rfl (by omega) (by decide) ?_
    refine wp_ladd (q := 106) d_Y_hangs_105 rfl ?_
    rw [pu_mxL_at hs]
    refine wp_lastoreN (w' := w1.set 47 (.inl (1, 1024, .inr (.inl (fun q => lN ((pu_sec (pu_mg (pu_yw n P H O) (t ||| 2 ^ i ||| 2 ^ j) (s + 1)) (pu_mg (pu_yw n P H O) t (s + 1)) (pu_mg (pu_yw n P H O) (t ||| 2 ^ i) s) (pu_mg (pu_yw n P H O) (t ||| 2 ^ j) s)) q)))))) (q := 107) d_Y_hangs_106 rfl h47 rfl (by omega) (by decide) (by rw [pu_ad_u, pu_sec_b k1, pu_mg_s]) ?_
    have fr := fr.put (a := 47) (c := (.inl (1, 1024, .inr (.inl (fun q => lN ((pu_sec (pu_mg (pu_yw n P H O) (t ||| 2 ^ i ||| 2 ^ j) (s + 1)) (pu_mg (pu_yw n P H O) t (s + 1)) (pu_mg (pu_yw n P H O) (t ||| 2 ^ i) s) (pu_mg (pu_yw n P H O) (t ||| 2 ^ j) s)) q)))))) (by decide) h47 (by rfl)
    have hY1 := hY.s fr (by decide)
    replace h46 : (w1.set 47 (.inl (1, 1024, .inr (.inl (fun q => lN ((pu_sec (pu_mg (pu_yw n P H O) (t ||| 2 ^ i ||| 2 ^ j) (s + 1)) (pu_mg (pu_yw n P H O) t (s + 1)) (pu_mg (pu_yw n P H O) (t ||| 2 ^ i) s) (pu_mg (pu_yw n P H O) (t ||| 2 ^ j) s)) q))))))[46]? = _ := am_at_ne (by decide) h46
    replace h47 : (w1.set 47 (.inl (1, 1024, .inr (.inl (fun q => lN ((pu_sec (pu_mg (pu_yw n P H O) (t ||| 2 ^ i ||| 2 ^ j) (s + 1)) (pu_mg (pu_yw n P H O) t (s + 1)) (pu_mg (pu_yw n P H O) (t ||| 2 ^ i) s) (pu_mg (pu_yw n P H O) (t ||| 2 ^ j) s)) q))))))[47]? = some (.inl (1, 1024, .inr (.inl (fun q => lN ((pu_sec (pu_mg (pu_yw n P H O) (t ||| 2 ^ i ||| 2 ^ j) (s + 1)) (pu_mg (pu_yw n P H O) t (s + 1)) (pu_mg (pu_yw n P H O) (t ||| 2 ^ i) s) (pu_mg (pu_yw n P H O) (t ||| 2 ^ j) s)) q))))) := am_at_eq h47
    generalize w1.set 47 (.inl (1, 1024, .inr (.inl (fun q => lN ((pu_sec (pu_mg (pu_yw n P H O) (t ||| 2 ^ i ||| 2 ^ j) (s + 1)) (pu_mg (pu_yw n P H O) t (s + 1)) (pu_mg (pu_yw n P H O) (t ||| 2 ^ i) s) (pu_mg (pu_yw n P H O) (t ||| 2 ^ j) s)) q))))) = w1 at fr hY1 h46 h47 ⊢
    refine wp_aload_n (q := 108) d_Y_hangs_107 rfl rfl rfl ?_
    refine wp_get (q := 111) (k := 18) d_Y_hangs_108 rfl ok_Y (Nat.le_of_ble_eq_true rfl) fk_Y_44 hY1.1 rfl ?_
    refine wp_sipush (q := 114) (v := 512) d_Y_hangs_111 rfl (by decide) ?_
    refine wp_iload (q := 116) d_Y_hangs_114 rfl rfl ?_
    refine wp_iload (q := 118) d_Y_hangs_116 rfl rfl ?_
    refine wp_iand (q := 119) d_Y_hangs_118 rfl ?_
    rw [pu_and]
    refine wp_iadd (q := 120) d_Y_hangs_119 rfl ?_
    rw [show (512 : Int32) = nI 512 from rfl, nI_add]
    refine wp_dup2 (q := 121) d_Y_hangs_120 rfl rfl rfl ?_
    refine wp_laloadN (q := 122) d_Y_hangs_121 rfl h47 rfl (by omega) (by decide) ?_
    refine wp_aload_n (q := 123) d_Y_hangs_122 rfl rfl rfl ?_
    refine wp_get (q := 126) (k := 17) d_Y_hangs_123 rfl ok_Y (Nat.le_of_ble_eq_true rfl) fk_Y_40 hY1.1 rfl ?_
    refine wp_iload (q := 128) d_Y_hangs_126 rfl rfl ?_
    refine wp_laloadN (q := 129) d_Y_hangs_128 rfl h46 rfl (by omega) (by decide) ?_
    refine wp_ladd (q := 130) d_Y_hangs_129 rfl ?_
    rw [pu_mxL_at hs]
    refine wp_lastoreN (w' := w1.set 47 (.inl (1, 1024, .inr (.inl (fun q => lN ((pu_sec (pu_mg (pu_yw n P H O) (t ||| 2 ^ i ||| 2 ^ j) (s + 1)) (pu_mg (pu_yw n P H O) t (s + 1)) (pu_mg (pu_yw n P H O) (t ||| 2 ^ i) (s + 1)) (pu_mg (pu_yw n P H O) (t ||| 2 ^ j) s)) q)))))) (q := 131) d_Y_hangs_130 rfl h47 rfl (by omega) (by decide) (by rw [pu_ad_u, pu_sec_x k2, pu_mg_s]) ?_
    have fr := fr.put (a := 47) (c := (.inl (1, 1024, .inr (.inl (fun q => lN ((pu_sec (pu_mg (pu_yw n P H O) (t ||| 2 ^ i ||| 2 ^ j) (s + 1)) (pu_mg (pu_yw n P H O) t (s + 1)) (pu_mg (pu_yw n P H O) (t ||| 2 ^ i) (s + 1)) (pu_mg (pu_yw n P H O) (t ||| 2 ^ j) s)) q)))))) (by decide) h47 (by rfl)
    have hY1 := hY.s fr (by decide)
    replace h46 : (w1.set 47 (.inl (1, 1024, .inr (.inl (fun q => lN ((pu_sec (pu_mg (pu_yw n P H O) (t ||| 2 ^ i ||| 2 ^ j) (s + 1)) (pu_mg (pu_yw n P H O) t (s + 1)) (pu_mg (pu_yw n P H O) (t ||| 2 ^ i) (s + 1)) (pu_mg (pu_yw n P H O) (t ||| 2 ^ j) s)) q))))))[46]? = _ := am_at_ne (by decide) h46
    replace h47 : (w1.set 47 (.inl (1, 1024, .inr (.inl (fun q => lN ((pu_sec (pu_mg (pu_yw n P H O) (t ||| 2 ^ i ||| 2 ^ j) (s + 1)) (pu_mg (pu_yw n P H O) t (s + 1)) (pu_mg (pu_yw n P H O) (t ||| 2 ^ i) (s + 1)) (pu_mg (pu_yw n P H O) (t ||| 2 ^ j) s)) q))))))[47]? = some (.inl (1, 1024, .inr (.inl (fun q => lN ((pu_sec (pu_mg (pu_yw n P H O) (t ||| 2 ^ i ||| 2 ^ j) (s + 1)) (pu_mg (pu_yw n P H O) t (s + 1)) (pu_mg (pu_yw n P H O) (t ||| 2 ^ i) (s + 1)) (pu_mg (pu_yw n P H O) (t ||| 2 ^ j) s)) q))))) := am_at_eq h47
    generalize w1.set 47 (.inl (1, 1024, .inr (.inl (fun q => lN ((pu_sec (pu_mg (pu_yw n P H O) (t ||| 2 ^ i ||| 2 ^ j) (s + 1)) (pu_mg (pu_yw n P H O) t (s + 1)) (pu_mg (pu_yw n P H O) (t ||| 2 ^ i) (s + 1)) (pu_mg (pu_yw n P H O) (t ||| 2 ^ j) s)) q))))) = w1 at fr hY1 h46 h47 ⊢
    refine wp_aload_n (q := 132) d_Y_hangs_131 rfl rfl rfl ?_
    refine wp_get (q := 135) (k := 18) d_Y_hangs_132 rfl ok_Y (Nat.le_of_ble_eq_true rfl) fk_Y_44 hY1.1 rfl ?_
    refine wp_sipush (q := 138) (v := 768) d_Y_hangs_135 rfl (by decide) ?_
    refine wp_iload (q := 140) d_Y_hangs_138 rfl rfl ?_
    refine wp_iload (q := 142) d_Y_hangs_140 rfl rfl ?_
    refine wp_iand (q := 143) d_Y_hangs_142 rfl ?_
    rw [pu_and]
    refine wp_iadd (q := 144) d_Y_hangs_143 rfl ?_
    rw [show (768 : Int32) = nI 768 from rfl, nI_add]
    refine wp_dup2 (q := 145) d_Y_hangs_144 rfl rfl rfl ?_
    refine wp_laloadN (q := 146) d_Y_hangs_145 rfl h47 rfl (by omega) (by decide) ?_
    refine wp_aload_n (q := 147) d_Y_hangs_146 rfl rfl rfl ?_
    refine wp_get (q := 150) (k := 17) d_Y_hangs_147 rfl ok_Y (Nat.le_of_ble_eq_true rfl) fk_Y_40 hY1.1 rfl ?_
    refine wp_iload (q := 152) d_Y_hangs_150 rfl rfl ?_
    refine wp_laloadN (q := 153) d_Y_hangs_152 rfl h46 rfl (by omega) (by decide) ?_
    refine wp_ladd (q := 154) d_Y_hangs_153 rfl ?_
    rw [pu_mxL_at hs]
    refine wp_lastoreN (w' := w1.set 47 (.inl (1, 1024, .inr (.inl (fun q => lN ((pu_sec (pu_mg (pu_yw n P H O) (t ||| 2 ^ i ||| 2 ^ j) (s + 1)) (pu_mg (pu_yw n P H O) t (s + 1)) (pu_mg (pu_yw n P H O) (t ||| 2 ^ i) (s + 1)) (pu_mg (pu_yw n P H O) (t ||| 2 ^ j) (s + 1))) q)))))) (q := 155) d_Y_hangs_154 rfl h47 rfl (by omega) (by decide) (by rw [pu_ad_u, pu_sec_y, pu_mg_s]) ?_
    have fr := fr.put (a := 47) (c := (.inl (1, 1024, .inr (.inl (fun q => lN ((pu_sec (pu_mg (pu_yw n P H O) (t ||| 2 ^ i ||| 2 ^ j) (s + 1)) (pu_mg (pu_yw n P H O) t (s + 1)) (pu_mg (pu_yw n P H O) (t ||| 2 ^ i) (s + 1)) (pu_mg (pu_yw n P H O) (t ||| 2 ^ j) (s + 1))) q)))))) (by decide) h47 (by rfl)
    have hY1 := hY.s fr (by decide)
    replace h46 : (w1.set 47 (.inl (1, 1024, .inr (.inl (fun q => lN ((pu_sec (pu_mg (pu_yw n P H O) (t ||| 2 ^ i ||| 2 ^ j) (s + 1)) (pu_mg (pu_yw n P H O) t (s + 1)) (pu_mg (pu_yw n P H O) (t ||| 2 ^ i) (s + 1)) (pu_mg (pu_yw n P H O) (t ||| 2 ^ j) (s + 1))) q))))))[46]? = _ := am_at_ne (by decide) h46
    replace h47 : (w1.set 47 (.inl (1, 1024, .inr (.inl (fun q => lN ((pu_sec (pu_mg (pu_yw n P H O) (t ||| 2 ^ i ||| 2 ^ j) (s + 1)) (pu_mg (pu_yw n P H O) t (s + 1)) (pu_mg (pu_yw n P H O) (t ||| 2 ^ i) (s + 1)) (pu_mg (pu_yw n P H O) (t ||| 2 ^ j) (s + 1))) q))))))[47]? = some (.inl (1, 1024, .inr (.inl (fun q => lN ((pu_sec (pu_mg (pu_yw n P H O) (t ||| 2 ^ i ||| 2 ^ j) (s + 1)) (pu_mg (pu_yw n P H O) t (s + 1)) (pu_mg (pu_yw n P H O) (t ||| 2 ^ i) (s + 1)) (pu_mg (pu_yw n P H O) (t ||| 2 ^ j) (s + 1))) q))))) := am_at_eq h47
    generalize w1.set 47 (.inl (1, 1024, .inr (.inl (fun q => lN ((pu_sec (pu_mg (pu_yw n P H O) (t ||| 2 ^ i ||| 2 ^ j) (s + 1)) (pu_mg (pu_yw n P H O) t (s + 1)) (pu_mg (pu_yw n P H O) (t ||| 2 ^ i) (s + 1)) (pu_mg (pu_yw n P H O) (t ||| 2 ^ j) (s + 1))) q))))) = w1 at fr hY1 h46 h47 ⊢
    refine wp_inc1 (q := 158) d_Y_hangs_155 rfl rfl (nI_1 _) (Nat.le_of_ble_eq_true rfl) rfl ?_
    refine wp_goto (tgt := 53) d_Y_hangs_158 (by decide) ?_
    exact ih _ fr ⟨_, h46⟩ h47
set_option maxHeartbeats 4000000 in
set_option maxRecDepth 100000 in
theorem y_hangs_Z {n k : Nat} {P : Nat → Nat} {H : Nat → Int32} {O : Nat → Nat} {ik : Bool} {kn : Nat} {KP : Nat → Nat} {ic : Bool} {fz sm : Nat} {w : am_W} (hY : YI n k P H O ik kn KP ic fz sm w) (hW : YW n k P H O kn KP) {i j t : Nat} (hi : i < n) (hj : j < n) (ht : t < 2 ^ n) {f0 : Nat → Int64} : ∀ q, q ≤ 1024 → ∀ w1, YF [46, 47] w w1 → (∃ f, w1[46]? = some (.inl (1, 256, .inr (.inl (pu_mxL (pu_yw n P H O) f (2 ^ n)))))) → w1[47]? = some (.inl (1, 1024, .inr (.inl (pu_flL f0 0 q)))) → am_Wp none m_Y_hangs 2 0 0 28 [(0, .ref 35), (1, .int (nI i)), (2, .int (nI j)), (3, .int (nI t)), (4, .int (nI (t ||| 2 ^ i))), (5, .int (nI (t ||| 2 ^ j))), (6, .int (nI (t ||| 2 ^ i ||| 2 ^ j))), (7, .int (nI q))] [] w1 (fun z w2 => z = some (.int (pu_ld (pu_yw n P H O) (2 ^ n) (t ||| 2 ^ i) (t ||| 2 ^ j) (t ||| 2 ^ i ||| 2 ^ j) t ((t ||| 2 ^ i ||| 2 ^ j) + 1) 0)) ∧ YF [46, 47] w w2) := by
  obtain ⟨hn, hk, hP, hO, hkn, hKP, hpop⟩ := id hW
  have hp2 := pu_p2e hn
  have b1 : t < 256 := by omega
  have b2 : (t ||| 2 ^ i) < 256 := pu_or_lt b1 (pu_p2 (by omega))
  have b3 : (t ||| 2 ^ j) < 256 := pu_or_lt b1 (pu_p2 (by omega))
  have b4 : (t ||| 2 ^ i ||| 2 ^ j) < 256 := pu_or_lt b2 (pu_p2 (by omega))
  refine pu_up (P := fun q => ∀ w1, YF [46, 47] w w1 → (∃ f, w1[46]? = some (.inl (1, 256, .inr (.inl (pu_mxL (pu_yw n P H O) f (2 ^ n)))))) → w1[47]? = some (.inl (1, 1024, .inr (.inl (pu_flL f0 0 q)))) → am_Wp none m_Y_hangs 2 0 0 28 [(0, .ref 35), (1, .int (nI i)), (2, .int (nI j)), (3, .int (nI t)), (4, .int (nI (t ||| 2 ^ i))), (5, .int (nI (t ||| 2 ^ j))), (6, .int (nI (t ||| 2 ^ i ||| 2 ^ j))), (7, .int (nI q))] [] w1 (fun z w2 => z = some (.int (pu_ld (pu_yw n P H O) (2 ^ n) (t ||| 2 ^ i) (t ||| 2 ^ j) (t ||| 2 ^ i ||| 2 ^ j) t ((t ||| 2 ^ i ||| 2 ^ j) + 1) 0)) ∧ YF [46, 47] w w2)) ?_ ?_
  · intro w1 fr h46 h47
    have hY1 := hY.s fr (by decide)
    refine wp_iload (q := 30) d_Y_hangs_28 rfl rfl ?_
    refine wp_sipush (q := 33) (v := 1024) d_Y_hangs_30 rfl (by decide) ?_
    refine wp_icmp_ge (q := 36) (tgt := 50) d_Y_hangs_33 (by decide) rfl (fun _ => ?_) (fun c33 => absurd (by decide) c33)
    refine wp_iconst (q := 51) (v := 0) d_Y_hangs_50 rfl (by decide) ?_
    refine wp_istore (q := 53) d_Y_hangs_51 rfl (Nat.le_of_ble_eq_true rfl) rfl ?_
    refine wp_chgL (g := fun q => lN ((pu_sec (pu_mg (pu_yw n P H O) (t ||| 2 ^ i ||| 2 ^ j) 0) (pu_mg (pu_yw n P H O) t 0) (pu_mg (pu_yw n P H O) (t ||| 2 ^ i) 0) (pu_mg (pu_yw n P H O) (t ||| 2 ^ j) 0)) q)) h47 (fun q hq => by unfold pu_flL; rw [if_pos hq]; unfold pu_sec; simp only [pu_mg]; split <;> (try split) <;> (try split) <;> rfl) rfl ?_
    exact y_hangs_A hY hW hi hj ht 0 (Nat.zero_le _) _ (fr.put (by decide) h47 (by rfl)) (by obtain ⟨f, h⟩ := h46; exact ⟨f, am_at_ne (by decide) h⟩) (am_at_eq h47)
  · intro q hq ih w1 fr h46 h47
    have hY1 := hY.s fr (by decide)
    refine wp_iload (q := 30) d_Y_hangs_28 rfl rfl ?_
    refine wp_sipush (q := 33) (v := 1024) d_Y_hangs_30 rfl (by decide) ?_
    refine wp_icmp_ge (q := 36) (tgt := 50) d_Y_hangs_33 (by decide) rfl (fun c33 => absurd c33 (by rw [show (1024 : Int32) = nI 1024 from rfl]; exact nI_ge hq (by decide))) (fun _ => ?_)
    refine wp_aload_n (q := 37) d_Y_hangs_36 rfl rfl rfl ?_
    refine wp_get (q := 40) (k := 18) d_Y_hangs_37 rfl ok_Y (Nat.le_of_ble_eq_true rfl) fk_Y_44 hY1.1 rfl ?_
    refine wp_iload (q := 42) d_Y_hangs_40 rfl rfl ?_
    refine wp_lconst (q := 43) (v := 0) d_Y_hangs_42 rfl (by decide) ?_
    refine wp_lastoreN (w' := w1.set 47 (.inl (1, 1024, .inr (.inl (pu_flL f0 0 (q + 1)))))) (q := 44) d_Y_hangs_43 rfl h47 rfl hq (by decide) (by rw [pu_flL_s]) ?_
    refine wp_inc1 (q := 47) d_Y_hangs_44 rfl rfl (nI_1 _) (Nat.le_of_ble_eq_true rfl) rfl ?_
    refine wp_goto (tgt := 28) d_Y_hangs_47 (by decide) ?_
    exact ih _ (fr.put (by decide) h47 (by rfl)) (by obtain ⟨f, h⟩ := h46; exact ⟨f, am_at_ne (by decide) h⟩) (am_at_eq h47)
set_option maxHeartbeats 4000000 in
set_option maxRecDepth 100000 in
theorem y_hangs {n k : Nat} {P : Nat → Nat} {H : Nat → Int32} {O : Nat → Nat} {ik : Bool} {kn : Nat} {KP : Nat → Nat} {ic : Bool} {fz sm : Nat} {w : am_W} (hY : YI n k P H O ik kn KP ic fz sm w) (hW : YW n k P H O kn KP) {i j t : Nat} (hi : i < n) (hj : j < n) (ht : t < 2 ^ n) : am_Wp none m_Y_hangs 2 0 0 0 [(0, .ref 35), (1, .int (nI i)), (2, .int (nI j)), (3, .int (nI t))] [] w (fun z w2 => z = some (.int (pu_ld (pu_yw n P H O) (2 ^ n) (t ||| 2 ^ i) (t ||| 2 ^ j) (t ||| 2 ^ i ||| 2 ^ j) t ((t ||| 2 ^ i ||| 2 ^ j) + 1) 0)) ∧ YF [46, 47] w w2) := by
  obtain ⟨hn, hk, hP, hO, hkn, hKP, hpop⟩ := id hW
  refine wp_aload_n (q := 1) d_Y_hangs_0 rfl rfl rfl ?_
  refine wp_cV0g (q := 4) (bc1 := 0) (bs1 := 0) d_Y_hangs_1 rfl bd_Y_weigh lk_Y_125 im_Y_weigh se_Y_weigh rfl (Nat.le_of_ble_eq_true rfl) (Nat.le_of_ble_eq_true rfl) hY.1 (Nat.le_of_ble_eq_true rfl) (y_weigh hY hW) (fun v w1 hF => ?_)
  obtain ⟨rfl, f1, f, h46⟩ := hF
  have hY1 := hY.s f1 (by decide)
  obtain ⟨f0, h47⟩ := hY1.2.2.2.2.2.2.2.2.2.2.2.2.1.l
  refine wp_iload_n (q := 5) d_Y_hangs_4 rfl rfl rfl ?_
  refine wp_iconst (q := 6) (v := 1) d_Y_hangs_5 rfl (by decide) ?_
  refine wp_iload_n (q := 7) d_Y_hangs_6 rfl rfl rfl ?_
  refine wp_ishl (q := 8) d_Y_hangs_7 rfl ?_
  rw [pu_bit i (by omega)]
  refine wp_ior (q := 9) d_Y_hangs_8 rfl ?_
  rw [pu_or]
  refine wp_istore (q := 11) d_Y_hangs_9 rfl (Nat.le_of_ble_eq_true rfl) rfl ?_
  refine wp_iload_n (q := 12) d_Y_hangs_11 rfl rfl rfl ?_
  refine wp_iconst (q := 13) (v := 1) d_Y_hangs_12 rfl (by decide) ?_
  refine wp_iload_n (q := 14) d_Y_hangs_13 rfl rfl rfl ?_
  refine wp_ishl (q := 15) d_Y_hangs_14 rfl ?_
  rw [pu_bit j (by omega)]
  refine wp_ior (q := 16) d_Y_hangs_15 rfl ?_
  rw [pu_or]
  refine wp_istore (q := 18) d_Y_hangs_16 rfl (Nat.le_of_ble_eq_true rfl) rfl ?_
  refine wp_iload (q := 20) d_Y_hangs_18 rfl rfl ?_
  refine wp_iload (q := 22) d_Y_hangs_20 rfl rfl ?_
  refine wp_ior (q := 23) d_Y_hangs_22 rfl ?_
  rw [pu_or, pu_or3]
  refine wp_istore (q := 25) d_Y_hangs_23 rfl (Nat.le_of_ble_eq_true rfl) rfl ?_
  refine wp_iconst (q := 26) (v := 0) d_Y_hangs_25 rfl (by decide) ?_
  refine wp_istore (q := 28) d_Y_hangs_26 rfl (Nat.le_of_ble_eq_true rfl) rfl ?_
  exact y_hangs_Z hY hW hi hj ht 0 (by decide) w1 (f1.up (by decide)) ⟨f, h46⟩ (by rw [pu_flL_0]; exact h47)
set_option maxHeartbeats 4000000 in
set_option maxRecDepth 100000 in
theorem y_independent_bad {n k : Nat} {P : Nat → Nat} {H : Nat → Int32} {O : Nat → Nat} {ik : Bool} {kn : Nat} {KP : Nat → Nat} {ic : Bool} {fz sm : Nat} {w : am_W} (hY : YI n k P H O ik kn KP ic fz sm w) (hW : YW n k P H O kn KP) {x y s : Int32} (hb : ¬ QU n x y s) : am_Wp none m_Y_independent 3 0 0 0 [(0, .ref 35), (1, .int x), (2, .int y), (3, .int s)] [] w (am_R (some (.int (-2))) w) := by
  obtain ⟨hn, hk, hP, hO, hkn, hKP, hpop⟩ := id hW
  refine wp_aload_n (q := 1) d_Y_independent_0 rfl rfl rfl ?_
  refine wp_iload_n (q := 2) d_Y_independent_1 rfl rfl rfl ?_
  refine wp_iload_n (q := 3) d_Y_independent_2 rfl rfl rfl ?_
  refine wp_iload_n (q := 4) d_Y_independent_3 rfl rfl rfl ?_
  refine wp_cV3r (q := 7) d_Y_independent_4 rfl bd_Y_isAsked lk_Y_109 im_Y_isAsked se_Y_isAsked rfl (Nat.le_of_ble_eq_true rfl) (Nat.le_of_ble_eq_true rfl) hY.1 (Nat.le_of_ble_eq_true rfl) (y_isAsked hY hn) ?_
  refine wp_if_ne (q := 10) (tgt := 13) d_Y_independent_7 (by decide) rfl (fun c7 => absurd (pu_q_f hb) c7) (fun _ => ?_)
  refine wp_bipush (q := 12) (v := -2) d_Y_independent_10 rfl (by decide) ?_
  exact wp_ireturn rfl d_Y_independent_12 ⟨rfl, rfl⟩
set_option maxHeartbeats 4000000 in
set_option maxRecDepth 100000 in
theorem y_independent {n k : Nat} {P : Nat → Nat} {H : Nat → Int32} {O : Nat → Nat} {ik : Bool} {kn : Nat} {KP : Nat → Nat} {ic : Bool} {fz sm : Nat} {w : am_W} (hY : YI n k P H O ik kn KP ic fz sm w) (hW : YW n k P H O kn KP) {i j t : Nat} (hi : i < n) (hj : j < n) (hij : i ≠ j) (ht : t < 2 ^ n) (hti : t.testBit i = false) (htj : t.testBit j = false) : am_Wp none m_Y_independent 3 0 0 0 [(0, .ref 35), (1, .int (nI i)), (2, .int (nI j)), (3, .int (nI t))] [] w (fun v w1 => v = some (.int (pu_q (pu_ld (pu_yw n P H O) (2 ^ n) (t ||| 2 ^ i) (t ||| 2 ^ j) (t ||| 2 ^ i ||| 2 ^ j) t ((t ||| 2 ^ i ||| 2 ^ j) + 1) 0 = -1))) ∧ YF DY w w1 ∧ YI n k P H O ik kn KP ic fz sm w1) := by
  obtain ⟨hn, hk, hP, hO, hkn, hKP, hpop⟩ := id hW
  refine wp_aload_n (q := 1) d_Y_independent_0 rfl rfl rfl ?_
  refine wp_iload_n (q := 2) d_Y_independent_1 rfl rfl rfl ?_
  refine wp_iload_n (q := 3) d_Y_independent_2 rfl rfl rfl ?_
  refine wp_iload_n (q := 4) d_Y_independent_3 rfl rfl rfl ?_
  refine wp_cV3r (q := 7) d_Y_independent_4 rfl bd_Y_isAsked lk_Y_109 im_Y_isAsked se_Y_isAsked rfl (Nat.le_of_ble_eq_true rfl) (Nat.le_of_ble_eq_true rfl) hY.1 (Nat.le_of_ble_eq_true rfl) (y_isAsked hY hn) ?_
  refine wp_if_ne (q := 10) (tgt := 13) d_Y_independent_7 (by decide) rfl (fun _ => ?_) (fun c7 => absurd c7 (by rw [pu_q_t ⟨i, j, t, hi, hj, hij, ht, rfl, rfl, rfl, hti, htj⟩]; decide))
  refine wp_aload_n (q := 14) d_Y_independent_13 rfl rfl rfl ?_
  refine wp_iload_n (q := 15) d_Y_independent_14 rfl rfl rfl ?_
  refine wp_iload_n (q := 16) d_Y_independent_15 rfl rfl rfl ?_
  refine wp_iload_n (q := 17) d_Y_independent_16 rfl rfl rfl ?_
  refine wp_cV3g (q := 20) (bc1 := 0) (bs1 := 0) d_Y_independent_17 rfl bd_Y_hangs lk_Y_128 im_Y_hangs se_Y_hangs rfl (Nat.le_of_ble_eq_true rfl) (Nat.le_of_ble_eq_true rfl) hY.1 (Nat.le_of_ble_eq_true rfl) (y_hangs hY hW hi hj ht) (fun v w1 hF => ?_)
  obtain ⟨rfl, f1⟩ := hF
  have hY1 := hY.s f1 (by decide)
  show am_Wp _ _ _ _ _ _ _ [.int (pu_ld (pu_yw n P H O) (2 ^ n) (t ||| 2 ^ i) (t ||| 2 ^ j) (t ||| 2 ^ i ||| 2 ^ j) t ((t ||| 2 ^ i ||| 2 ^ j) + 1) 0)] _ _
  refine wp_iconst (q := 21) (v := -1) d_Y_independent_20 rfl (by decide) ?_
  refine wp_icmp_ne (q := 24) (tgt := 28) d_Y_independent_21 (by decide) rfl (fun c21 => ?_) (fun c21 => ?_)
  · refine wp_iconst (q := 29) (v := 0) d_Y_independent_28 rfl (by decide) ?_
    exact wp_ireturn rfl d_Y_independent_29 ⟨by rw [pu_q_f c21], f1.up (by decide), hY1⟩
  · refine wp_iconst (q := 25) (v := 1) d_Y_independent_24 rfl (by decide) ?_
    refine wp_goto (tgt := 29) d_Y_independent_25 (by decide) ?_
    exact wp_ireturn rfl d_Y_independent_29 ⟨by rw [pu_q_t c21], f1.up (by decide), hY1⟩
set_option maxHeartbeats 4000000 in
set_option maxRecDepth 100000 in
theorem y_differ_bad {n k : Nat} {P : Nat → Nat} {H : Nat → Int32} {O : Nat → Nat} {ik : Bool} {kn : Nat} {KP : Nat → Nat} {ic : Bool} {fz sm : Nat} {w : am_W} (hY : YI n k P H O ik kn KP ic fz sm w) (hW : YW n k P H O kn KP) {x y s : Int32} (hb : ¬ QU n x y s) : am_Wp none m_Y_differ 3 0 0 0 [(0, .ref 35), (1, .int x), (2, .int y), (3, .int s)] [] w (am_R (some (.int (-2))) w) := by
  obtain ⟨hn, hk, hP, hO, hkn, hKP, hpop⟩ := id hW
  refine wp_aload_n (q := 1) d_Y_differ_0 rfl rfl rfl ?_
  refine wp_iload_n (q := 2) d_Y_differ_1 rfl rfl rfl ?_
  refine wp_iload_n (q := 3) d_Y_differ_2 rfl rfl rfl ?_
  refine wp_iload_n (q := 4) d_Y_differ_3 rfl rfl rfl ?_
  refine wp_cV3r (q := 7) d_Y_differ_4 rfl bd_Y_isAsked lk_Y_109 im_Y_isAsked se_Y_isAsked rfl (Nat.le_of_ble_eq_true rfl) (Nat.le_of_ble_eq_true rfl) hY.1 (Nat.le_of_ble_eq_true rfl) (y_isAsked hY hn) ?_
  refine wp_if_eq (q := 10) (tgt := 20) d_Y_differ_7 (by decide) rfl (fun _ => ?_) (fun c7 => absurd (pu_q_f hb) c7)
  refine wp_bipush (q := 22) (v := -2) d_Y_differ_20 rfl (by decide) ?_
  exact wp_ireturn rfl d_Y_differ_22 ⟨rfl, rfl⟩
set_option maxHeartbeats 4000000 in
set_option maxRecDepth 100000 in
theorem y_differ {n k : Nat} {P : Nat → Nat} {H : Nat → Int32} {O : Nat → Nat} {ik : Bool} {kn : Nat} {KP : Nat → Nat} {ic : Bool} {fz sm : Nat} {w : am_W} (hY : YI n k P H O ik kn KP ic fz sm w) (hW : YW n k P H O kn KP) {i j t : Nat} (hi : i < n) (hj : j < n) (hij : i ≠ j) (ht : t < 2 ^ n) (hti : t.testBit i = false) (htj : t.testBit j = false) : am_Wp none m_Y_differ 3 0 0 0 [(0, .ref 35), (1, .int (nI i)), (2, .int (nI j)), (3, .int (nI t))] [] w (fun v w1 => v = some (.int (pu_ld (pu_yw n P H O) (2 ^ n) (t ||| 2 ^ i) (t ||| 2 ^ j) (t ||| 2 ^ i ||| 2 ^ j) t ((t ||| 2 ^ i ||| 2 ^ j) + 1) 0)) ∧ YF DY w w1 ∧ YI n k P H O ik kn KP ic fz sm w1) := by
  obtain ⟨hn, hk, hP, hO, hkn, hKP, hpop⟩ := id hW
  refine wp_aload_n (q := 1) d_Y_differ_0 rfl rfl rfl ?_
  refine wp_iload_n (q := 2) d_Y_differ_1 rfl rfl rfl ?_
  refine wp_iload_n (q := 3) d_Y_differ_2 rfl rfl rfl ?_
  refine wp_iload_n (q := 4) d_Y_differ_3 rfl rfl rfl ?_
  refine wp_cV3r (q := 7) d_Y_differ_4 rfl bd_Y_isAsked lk_Y_109 im_Y_isAsked se_Y_isAsked rfl (Nat.le_of_ble_eq_true rfl) (Nat.le_of_ble_eq_true rfl) hY.1 (Nat.le_of_ble_eq_true rfl) (y_isAsked hY hn) ?_
  refine wp_if_eq (q := 10) (tgt := 20) d_Y_differ_7 (by decide) rfl (fun c7 => absurd c7 (by rw [pu_q_t ⟨i, j, t, hi, hj, hij, ht, rfl, rfl, rfl, hti, htj⟩]; decide)) (fun _ => ?_)
  refine wp_aload_n (q := 11) d_Y_differ_10 rfl rfl rfl ?_
  refine wp_iload_n (q := 12) d_Y_differ_11 rfl rfl rfl ?_
  refine wp_iload_n (q := 13) d_Y_differ_12 rfl rfl rfl ?_
  refine wp_iload_n (q := 14) d_Y_differ_13 rfl rfl rfl ?_
  refine wp_cV3g (q := 17) (bc1 := 0) (bs1 := 0) d_Y_differ_14 rfl bd_Y_hangs lk_Y_128 im_Y_hangs se_Y_hangs rfl (Nat.le_of_ble_eq_true rfl) (Nat.le_of_ble_eq_true rfl) hY.1 (Nat.le_of_ble_eq_true rfl) (y_hangs hY hW hi hj ht) (fun v w1 hF => ?_)
  obtain ⟨rfl, f1⟩ := hF
  have hY1 := hY.s f1 (by decide)
  show am_Wp _ _ _ _ _ _ _ [.int (pu_ld (pu_yw n P H O) (2 ^ n) (t ||| 2 ^ i) (t ||| 2 ^ j) (t ||| 2 ^ i ||| 2 ^ j) t ((t ||| 2 ^ i ||| 2 ^ j) + 1) 0)] _ _
  refine wp_goto (tgt := 22) d_Y_differ_17 (by decide) ?_
  exact wp_ireturn rfl d_Y_differ_22 ⟨rfl, f1.up (by decide), hY1⟩
