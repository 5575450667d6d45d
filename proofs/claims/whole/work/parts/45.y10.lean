/-! CONTRACTS of the reference (10) -/
set_option maxHeartbeats 4000000 in
set_option maxRecDepth 100000 in
theorem y_cf_q {n k : Nat} {P : Nat → Nat} {H : Nat → Int32} {O : Nat → Nat} {ik : Bool} {kn : Nat} {KP : Nat → Nat} {ic : Bool} {fz sm : Nat} {w : am_W} (hY : YI n k P H O ik kn KP ic fz sm w) (hn : n ≤ 8) (hPn : ∀ i, P i < 2 ^ n) (hl : (pu_al P n n).length ≤ 10) {way : Nat} (hw : way < 2 ^ (pu_al P n n).length) {F : Option Value → am_W → Prop} (hout : ∀ w1, YF DY w w1 → YC n k P H O ik kn KP true (pu_fm (GW P n (pu_al P n n)) (pu_al P n n).length way).1 (pu_fm (GW P n (pu_al P n n)) (pu_al P n n).length way).2 (pu_al P n n) w1 → w1[51]? = some (am_ar 8 (pu_tw (pu_al P n n) way (pu_al P n n).length)) → am_Wp none m_Y_countFamily 4 0 0 149 [(0, .ref 35), (1, .int (nI (pu_al P n n).length)), (2, .int (nI way))] [] w1 F) : ∀ q, q ≤ (pu_al P n n).length → ∀ w1, YF DY w w1 → YC n k P H O ik kn KP true (pu_fm (GW P n (pu_al P n n)) (pu_al P n n).length way).1 (pu_fm (GW P n (pu_al P n n)) (pu_al P n n).length way).2 (pu_al P n n) w1 → w1[51]? = some (am_ar 8 (pu_tw (pu_al P n n) way q)) → am_Wp none m_Y_countFamily 4 0 0 68 [(0, .ref 35), (1, .int (nI (pu_al P n n).length)), (2, .int (nI way)), (3, .int (nI q))] [] w1 F := by
  have hk2 : 2 ^ (pu_al P n n).length ≤ 2 ^ 10 := Nat.pow_le_pow_right (by decide) hl
  refine pu_up (P := fun q => ∀ w1, YF DY w w1 → YC n k P H O ik kn KP true (pu_fm (GW P n (pu_al P n n)) (pu_al P n n).length way).1 (pu_fm (GW P n (pu_al P n n)) (pu_al P n n).length way).2 (pu_al P n n) w1 → w1[51]? = some (am_ar 8 (pu_tw (pu_al P n n) way q)) → am_Wp none m_Y_countFamily 4 0 0 68 [(0, .ref 35), (1, .int (nI (pu_al P n n).length)), (2, .int (nI way)), (3, .int (nI q))] [] w1 F) ?_ ?_
  · intro w1 fr hC h51
    refine wp_iload_n (q := 69) d_Y_countFamily_68 rfl rfl rfl ?_
    refine wp_iload_n (q := 70) d_Y_countFamily_69 rfl rfl rfl ?_
    refine wp_icmp_ge (q := 73) (tgt := 149) d_Y_countFamily_70 (by decide) rfl (fun _ => ?_) (fun c70 => absurd (nI_le (Nat.le_refl _) (by omega)) c70)
    refine wp_lo [(0, .ref 35), (1, .int (nI (pu_al P n n).length)), (2, .int (nI way))] ⟨rfl, rfl, rfl, trivial⟩ ?_
    exact hout w1 fr hC h51
  · intro q hq ih w1 fr hC h51
    have hY1 := hC.1
    obtain ⟨f1, f2, h50, h49⟩ := hC.2.1
    obtain ⟨qq, hqe⟩ : ∃ qq, (pu_al P n n)[q]? = some qq := ⟨_, List.getElem?_eq_getElem hq⟩
    have hqb := pu_al_lt qq (List.mem_of_getElem? hqe)
    have hq10 : q < 10 := by omega
    refine wp_iload_n (q := 69) d_Y_countFamily_68 rfl rfl rfl ?_
    refine wp_iload_n (q := 70) d_Y_countFamily_69 rfl rfl rfl ?_
    refine wp_icmp_ge (q := 73) (tgt := 149) d_Y_countFamily_70 (by decide) rfl (fun c70 => absurd c70 (nI_ge hq (by omega))) (fun _ => ?_)
    refine wp_iload_n (q := 74) d_Y_countFamily_73 rfl rfl rfl ?_
    refine wp_iload_n (q := 75) d_Y_countFamily_74 rfl rfl rfl ?_
    refine wp_ishr (q := 76) d_Y_countFamily_75 rfl ?_
    refine wp_iconst (q := 77) (v := 1) d_Y_countFamily_76 rfl (by decide) ?_
    refine wp_iand (q := 78) d_Y_countFamily_77 rfl ?_
    rw [pu_has (by omega) (by omega)]
    refine wp_iconst (q := 79) (v := 1) d_Y_countFamily_78 rfl (by decide) ?_
    refine wp_icmp_ne (q := 82) (tgt := 86) d_Y_countFamily_79 (by decide) rfl (fun c79 => ?_) (fun c79 => ?_)
    · have hbt : way.testBit q = false := by cases h : way.testBit q with | false => rfl | true => rw [h] at c79; exact absurd rfl c79
      have etw : (pu_tw (pu_al P n n) way (q + 1)) = pu_lay (pu_tw (pu_al P n n) way q) qq := by rw [pu_tw, hqe]; show (if way.testBit q then _ else _ : Nat → Nat) = _; rw [hbt]; rfl
      refine wp_iconst (q := 87) (v := 0) d_Y_countFamily_86 rfl (by decide) ?_
      refine wp_istore (q := 89) d_Y_countFamily_87 rfl (Nat.le_of_ble_eq_true rfl) rfl ?_
      refine wp_iload (q := 91) d_Y_countFamily_89 rfl rfl ?_
      refine wp_if_eq (q := 94) (tgt := 103) d_Y_countFamily_91 (by decide) rfl (fun _ => ?_) (fun c91 => absurd rfl c91)
      refine wp_aload_n (q := 104) d_Y_countFamily_103 rfl rfl rfl ?_
      refine wp_get (q := 107) (k := 21) d_Y_countFamily_104 rfl ok_Y (Nat.le_of_ble_eq_true rfl) fk_Y_54 hY1.1 rfl ?_
      refine wp_iload_n (q := 108) d_Y_countFamily_107 rfl rfl rfl ?_
      refine wp_ialoadN (q := 109) d_Y_countFamily_108 rfl h50 rfl hq10 (by decide) ?_
      rw [pu_l1_at hqe]
      refine wp_istore (q := 111) d_Y_countFamily_109 rfl (Nat.le_of_ble_eq_true rfl) rfl ?_
      refine wp_aload_n (q := 112) d_Y_countFamily_111 rfl rfl rfl ?_
      refine wp_get (q := 115) (k := 22) d_Y_countFamily_112 rfl ok_Y (Nat.le_of_ble_eq_true rfl) fk_Y_57 hY1.1 rfl ?_
      refine wp_iload (q := 117) d_Y_countFamily_115 rfl rfl ?_
      refine wp_dup2 (q := 118) d_Y_countFamily_117 rfl rfl rfl ?_
      refine wp_ialoadN (q := 119) d_Y_countFamily_118 rfl h51 rfl (by omega) (by decide) ?_
      refine wp_iconst (q := 120) (v := 1) d_Y_countFamily_119 rfl (by decide) ?_
      refine wp_iload (q := 122) d_Y_countFamily_120 rfl rfl ?_
      refine wp_if_eq (q := 125) (tgt := 134) d_Y_countFamily_122 (by decide) rfl (fun _ => ?_) (fun c122 => absurd rfl c122)
      refine wp_aload_n (q := 135) d_Y_countFamily_134 rfl rfl rfl ?_
      refine wp_get (q := 138) (k := 20) d_Y_countFamily_135 rfl ok_Y (Nat.le_of_ble_eq_true rfl) fk_Y_51 hY1.1 rfl ?_
      refine wp_iload_n (q := 139) d_Y_countFamily_138 rfl rfl rfl ?_
      refine wp_ialoadN (q := 140) d_Y_countFamily_139 rfl h49 rfl hq10 (by decide) ?_
      rw [pu_l2_at hqe]
      refine wp_ishl (q := 141) d_Y_countFamily_140 rfl ?_
      rw [pu_bit qq.2 (by omega)]
      refine wp_ior (q := 142) d_Y_countFamily_141 rfl ?_
      rw [pu_or]
      refine wp_iastoreN (w' := w1.set 51 (am_ar 8 (pu_tw (pu_al P n n) way (q + 1)))) (q := 143) d_Y_countFamily_142 rfl h51 rfl (by omega) (by decide) (by rw [pu_upd, etw]; rfl) ?_
      refine wp_inc1 (q := 146) d_Y_countFamily_143 rfl rfl (nI_1 _) (Nat.le_of_ble_eq_true rfl) rfl ?_
      refine wp_goto (tgt := 68) d_Y_countFamily_146 (by decide) ?_
      refine wp_lo [(0, .ref 35), (1, .int (nI (pu_al P n n).length)), (2, .int (nI way)), (3, .int (nI (q + 1)))] ⟨rfl, rfl, rfl, rfl, trivial⟩ ?_
      have f51 : YF [51] w1 (w1.set 51 (am_ar 8 (pu_tw (pu_al P n n) way (q + 1)))) := YF.rf.put (by decide) h51 (by rfl)
      exact ih _ (fr.tr (f51.up (by decide))) (hC.s f51 (by decide)) (am_at_eq h51)
    · have hbt : way.testBit q = true := pu_h1.mp c79
      have etw : (pu_tw (pu_al P n n) way (q + 1)) = pu_lay (pu_tw (pu_al P n n) way q) (qq.2, qq.1) := by rw [pu_tw, hqe]; show (if way.testBit q then _ else _ : Nat → Nat) = _; rw [hbt]; rfl
      refine wp_iconst (q := 83) (v := 1) d_Y_countFamily_82 rfl (by decide) ?_
      refine wp_goto (tgt := 87) d_Y_countFamily_83 (by decide) ?_
      refine wp_istore (q := 89) d_Y_countFamily_87 rfl (Nat.le_of_ble_eq_true rfl) rfl ?_
      refine wp_iload (q := 91) d_Y_countFamily_89 rfl rfl ?_
      refine wp_if_eq (q := 94) (tgt := 103) d_Y_countFamily_91 (by decide) rfl (fun c91 => absurd c91 (by decide)) (fun _ => ?_)
      refine wp_aload_n (q := 95) d_Y_countFamily_94 rfl rfl rfl ?_
      refine wp_get (q := 98) (k := 20) d_Y_countFamily_95 rfl ok_Y (Nat.le_of_ble_eq_true rfl) fk_Y_51 hY1.1 rfl ?_
      refine wp_iload_n (q := 99) d_Y_countFamily_98 rfl rfl rfl ?_
      refine wp_ialoadN (q := 100) d_Y_countFamily_99 rfl h49 rfl hq10 (by decide) ?_
      refine wp_goto (tgt := 109) d_Y_countFamily_100 (by decide) ?_
      rw [pu_l2_at hqe]
      refine wp_istore (q := 111) d_Y_countFamily_109 rfl (Nat.le_of_ble_eq_true rfl) rfl ?_
      refine wp_aload_n (q := 112) d_Y_countFamily_111 rfl rfl rfl ?_
      refine wp_get (q := 115) (k := 22) d_Y_countFamily_112 rfl ok_Y (Nat.le_of_ble_eq_true rfl) fk_Y_57 hY1.1 rfl ?_
      refine wp_iload (q := 117) d_Y_countFamily_115 rfl rfl ?_
      refine wp_dup2 (q := 118) d_Y_countFamily_117 rfl rfl rfl ?_
      refine wp_ialoadN (q := 119) d_Y_countFamily_118 rfl h51 rfl (by omega) (by decide) ?_
      refine wp_iconst (q := 120) (v := 1) d_Y_countFamily_119 rfl (by decide) ?_
      refine wp_iload (q := 122) d_Y_countFamily_120 rfl rfl ?_
      refine wp_if_eq (q := 125) (tgt := 134) d_Y_countFamily_122 (by decide) rfl (fun c122 => absurd c122 (by decide)) (fun _ => ?_)
      refine wp_aload_n (q := 126) d_Y_countFamily_125 rfl rfl rfl ?_
      refine wp_get (q := 129) (k := 21) d_Y_countFamily_126 rfl ok_Y (Nat.le_of_ble_eq_true rfl) fk_Y_54 hY1.1 rfl ?_
      refine wp_iload_n (q := 130) d_Y_countFamily_129 rfl rfl rfl ?_
      refine wp_ialoadN (q := 131) d_Y_countFamily_130 rfl h50 rfl hq10 (by decide) ?_
      refine wp_goto (tgt := 140) d_Y_countFamily_131 (by decide) ?_
      rw [pu_l1_at hqe]
      refine wp_ishl (q := 141) d_Y_countFamily_140 rfl ?_
      rw [pu_bit qq.1 (by omega)]
      refine wp_ior (q := 142) d_Y_countFamily_141 rfl ?_
      rw [pu_or]
      refine wp_iastoreN (w' := w1.set 51 (am_ar 8 (pu_tw (pu_al P n n) way (q + 1)))) (q := 143) d_Y_countFamily_142 rfl h51 rfl (by omega) (by decide) (by rw [pu_upd, etw]; rfl) ?_
      refine wp_inc1 (q := 146) d_Y_countFamily_143 rfl rfl (nI_1 _) (Nat.le_of_ble_eq_true rfl) rfl ?_
      refine wp_goto (tgt := 68) d_Y_countFamily_146 (by decide) ?_
      refine wp_lo [(0, .ref 35), (1, .int (nI (pu_al P n n).length)), (2, .int (nI way)), (3, .int (nI (q + 1)))] ⟨rfl, rfl, rfl, rfl, trivial⟩ ?_
      have f51 : YF [51] w1 (w1.set 51 (am_ar 8 (pu_tw (pu_al P n n) way (q + 1)))) := YF.rf.put (by decide) h51 (by rfl)
      exact ih _ (fr.tr (f51.up (by decide))) (hC.s f51 (by decide)) (am_at_eq h51)
set_option maxHeartbeats 4000000 in
set_option maxRecDepth 100000 in
theorem y_cf_z {n k : Nat} {P : Nat → Nat} {H : Nat → Int32} {O : Nat → Nat} {ik : Bool} {kn : Nat} {KP : Nat → Nat} {ic : Bool} {fz sm : Nat} {w : am_W} (hY : YI n k P H O ik kn KP ic fz sm w) (hn : n ≤ 8) (hPn : ∀ i, P i < 2 ^ n) (hl : (pu_al P n n).length ≤ 10) {way : Nat} (hw : way < 2 ^ (pu_al P n n).length) {F : Option Value → am_W → Prop} {f : Nat → Int32} (hout : ∀ w1, YF DY w w1 → YC n k P H O ik kn KP true (pu_fm (GW P n (pu_al P n n)) (pu_al P n n).length way).1 (pu_fm (GW P n (pu_al P n n)) (pu_al P n n).length way).2 (pu_al P n n) w1 → w1[51]? = some (am_ar 8 (pu_tw (pu_al P n n) way (pu_al P n n).length)) → am_Wp none m_Y_countFamily 4 0 0 149 [(0, .ref 35), (1, .int (nI (pu_al P n n).length)), (2, .int (nI way))] [] w1 F) : ∀ p, p ≤ 8 → ∀ w1, YF DY w w1 → YC n k P H O ik kn KP true (pu_fm (GW P n (pu_al P n n)) (pu_al P n n).length way).1 (pu_fm (GW P n (pu_al P n n)) (pu_al P n n).length way).2 (pu_al P n n) w1 → w1[51]? = some (.inl (0, 8, .inl (pu_mx (fun _ => 0) f p))) → am_Wp none m_Y_countFamily 4 0 0 47 [(0, .ref 35), (1, .int (nI (pu_al P n n).length)), (2, .int (nI way)), (3, .int (nI p))] [] w1 F := by
  refine pu_up (P := fun p => ∀ w1, YF DY w w1 → YC n k P H O ik kn KP true (pu_fm (GW P n (pu_al P n n)) (pu_al P n n).length way).1 (pu_fm (GW P n (pu_al P n n)) (pu_al P n n).length way).2 (pu_al P n n) w1 → w1[51]? = some (.inl (0, 8, .inl (pu_mx (fun _ => 0) f p))) → am_Wp none m_Y_countFamily 4 0 0 47 [(0, .ref 35), (1, .int (nI (pu_al P n n).length)), (2, .int (nI way)), (3, .int (nI p))] [] w1 F) ?_ ?_
  · intro w1 fr hC h51
    refine wp_iload_n (q := 48) d_Y_countFamily_47 rfl rfl rfl ?_
    refine wp_bipush (q := 50) (v := 8) d_Y_countFamily_48 rfl (by decide) ?_
    refine wp_icmp_ge (q := 53) (tgt := 66) d_Y_countFamily_50 (by decide) rfl (fun _ => ?_) (fun c50 => absurd (by decide) c50)
    refine wp_iconst (q := 67) (v := 0) d_Y_countFamily_66 rfl (by decide) ?_
    refine wp_istore_n (q := 68) d_Y_countFamily_67 rfl rfl (Nat.le_of_ble_eq_true rfl) rfl ?_
    refine wp_chg (g := fun i => nI ((pu_tw (pu_al P n n) way 0) i)) h51 (fun j hj => pu_mx_at hj) rfl ?_
    have f51 : YF [51] w1 (w1.set 51 (am_ar 8 (pu_tw (pu_al P n n) way 0))) := YF.rf.put (by decide) h51 (by rfl)
    exact y_cf_q hY hn hPn hl hw hout 0 (Nat.zero_le _) _ (fr.tr (f51.up (by decide))) (hC.s f51 (by decide)) (am_at_eq h51)
  · intro p hp ih w1 fr hC h51
    have hY1 := hC.1
    refine wp_iload_n (q := 48) d_Y_countFamily_47 rfl rfl rfl ?_
    refine wp_bipush (q := 50) (v := 8) d_Y_countFamily_48 rfl (by decide) ?_
    refine wp_icmp_ge (q := 53) (tgt := 66) d_Y_countFamily_50 (by decide) rfl (fun c50 => absurd c50 (by rw [show (8 : Int32) = nI 8 from rfl]; exact nI_ge hp (by decide))) (fun _ => ?_)
    refine wp_aload_n (q := 54) d_Y_countFamily_53 rfl rfl rfl ?_
    refine wp_get (q := 57) (k := 22) d_Y_countFamily_54 rfl ok_Y (Nat.le_of_ble_eq_true rfl) fk_Y_57 hY1.1 rfl ?_
    refine wp_iload_n (q := 58) d_Y_countFamily_57 rfl rfl rfl ?_
    refine wp_iconst (q := 59) (v := 0) d_Y_countFamily_58 rfl (by decide) ?_
    refine wp_iastoreN (w' := w1.set 51 (.inl (0, 8, .inl (pu_mx (fun _ => 0) f (p + 1))))) (q := 60) d_Y_countFamily_59 rfl h51 rfl hp (by decide) (by rw [← pu_mx_s (g := fun _ => 0)]; rfl) ?_
    refine wp_inc1 (q := 63) d_Y_countFamily_60 rfl rfl (nI_1 _) (Nat.le_of_ble_eq_true rfl) rfl ?_
    refine wp_goto (tgt := 47) d_Y_countFamily_63 (by decide) ?_
    have f51 : YF [51] w1 (w1.set 51 (.inl (0, 8, .inl (pu_mx (fun _ => 0) f (p + 1))))) := YF.rf.put (by decide) h51 (by rfl)
    exact ih _ (fr.tr (f51.up (by decide))) (hC.s f51 (by decide)) (am_at_eq h51)
set_option maxHeartbeats 4000000 in
set_option maxRecDepth 100000 in
theorem y_cf_w {n k : Nat} {P : Nat → Nat} {H : Nat → Int32} {O : Nat → Nat} {ik : Bool} {kn : Nat} {KP : Nat → Nat} {ic : Bool} {fz sm : Nat} {w : am_W} (hY : YI n k P H O ik kn KP ic fz sm w) (hn : n ≤ 8) (hPn : ∀ i, P i < 2 ^ n) (hl : (pu_al P n n).length ≤ 10) : ∀ way, way ≤ 2 ^ (pu_al P n n).length → ∀ w1, YF DY w w1 → YC n k P H O ik kn KP true (pu_fm (GW P n (pu_al P n n)) (pu_al P n n).length way).1 (pu_fm (GW P n (pu_al P n n)) (pu_al P n n).length way).2 (pu_al P n n) w1 → am_Wp none m_Y_countFamily 4 0 0 38 [(0, .ref 35), (1, .int (nI (pu_al P n n).length)), (2, .int (nI way))] [] w1 (fun v w2 => v = none ∧ YF DY w w2 ∧ YI n k P H O ik kn KP true (pu_fam P n).1 (pu_fam P n).2 w2) := by
  have hk2 : 2 ^ (pu_al P n n).length ≤ 2 ^ 10 := Nat.pow_le_pow_right (by decide) hl
  have hLn : ∀ q, q ∈ (pu_al P n n) → q.1 < n ∧ q.2 < n := fun q hq => pu_al_lt q hq
  refine pu_up (P := fun way => ∀ w1, YF DY w w1 → YC n k P H O ik kn KP true (pu_fm (GW P n (pu_al P n n)) (pu_al P n n).length way).1 (pu_fm (GW P n (pu_al P n n)) (pu_al P n n).length way).2 (pu_al P n n) w1 → am_Wp none m_Y_countFamily 4 0 0 38 [(0, .ref 35), (1, .int (nI (pu_al P n n).length)), (2, .int (nI way))] [] w1 (fun v w2 => v = none ∧ YF DY w w2 ∧ YI n k P H O ik kn KP true (pu_fam P n).1 (pu_fam P n).2 w2)) ?_ ?_
  · intro w1 fr hC
    refine wp_iload_n (q := 39) d_Y_countFamily_38 rfl rfl rfl ?_
    refine wp_iconst (q := 40) (v := 1) d_Y_countFamily_39 rfl (by decide) ?_
    refine wp_iload_n (q := 41) d_Y_countFamily_40 rfl rfl rfl ?_
    refine wp_ishl (q := 42) d_Y_countFamily_41 rfl ?_
    rw [pu_bit (pu_al P n n).length (by omega)]
    refine wp_icmp_ge (q := 45) (tgt := 195) d_Y_countFamily_42 (by decide) rfl (fun _ => ?_) (fun c42 => absurd (nI_le (Nat.le_refl _) (by omega)) c42)
    exact wp_return rfl d_Y_countFamily_195 ⟨rfl, fr, hC.1⟩
  · intro way hw ih w1 fr hC
    obtain ⟨f51, h51⟩ := hC.1.2.2.2.2.2.2.2.2.2.2.2.2.2.2.2.2.i
    refine wp_iload_n (q := 39) d_Y_countFamily_38 rfl rfl rfl ?_
    refine wp_iconst (q := 40) (v := 1) d_Y_countFamily_39 rfl (by decide) ?_
    refine wp_iload_n (q := 41) d_Y_countFamily_40 rfl rfl rfl ?_
    refine wp_ishl (q := 42) d_Y_countFamily_41 rfl ?_
    rw [pu_bit (pu_al P n n).length (by omega)]
    refine wp_icmp_ge (q := 45) (tgt := 195) d_Y_countFamily_42 (by decide) rfl (fun c42 => absurd c42 (nI_ge hw (by omega))) (fun _ => ?_)
    refine wp_iconst (q := 46) (v := 0) d_Y_countFamily_45 rfl (by decide) ?_
    refine wp_istore_n (q := 47) d_Y_countFamily_46 rfl rfl (Nat.le_of_ble_eq_true rfl) rfl ?_
    refine y_cf_z hY hn hPn hl hw (f := f51) ?_ 0 (by decide) w1 fr hC (by rw [pu_mx_0]; exact h51)
    intro w2 fr2 hC2 h51
    have hY2 := hC2.1
    refine wp_aload_n (q := 150) d_Y_countFamily_149 rfl rfl rfl ?_
    refine wp_cV0r (q := 153) d_Y_countFamily_150 rfl bd_Y_hasNoRing lk_Y_152 im_Y_hasNoRing se_Y_hasNoRing rfl (Nat.le_of_ble_eq_true rfl) (Nat.le_of_ble_eq_true rfl) hY2.1 (Nat.le_of_ble_eq_true rfl) (y_ring hY2 hn (pu_tw_lt hLn _) h51) ?_
    refine wp_if_eq (q := 156) (tgt := 189) d_Y_countFamily_153 (by decide) rfl (fun c153 => ?_) (fun c153 => ?_)
    · refine wp_inc1 (q := 192) d_Y_countFamily_189 rfl rfl (nI_1 _) (Nat.le_of_ble_eq_true rfl) rfl ?_
      refine wp_goto (tgt := 38) d_Y_countFamily_192 (by decide) ?_
      have e := pu_fm_f (G := GW P n (pu_al P n n)) (k := (pu_al P n n).length) (x := way) (fun h => pu_q0 c153 h.1)
      rw [e] at ih
      exact ih w2 fr2 hC2
    · have hacy := pu_q1 c153
      obtain ⟨f, h48, hLF⟩ := hC2.2.2
      refine wp_aload_n (q := 157) d_Y_countFamily_156 rfl rfl rfl ?_
      refine wp_aload_n (q := 158) d_Y_countFamily_157 rfl rfl rfl ?_
      refine wp_get (q := 161) (k := 22) d_Y_countFamily_158 rfl ok_Y (Nat.le_of_ble_eq_true rfl) fk_Y_57 hY2.1 rfl ?_
      refine wp_cV1g (q := 164) (bc1 := 0) (bs1 := 0) d_Y_countFamily_161 rfl bd_Y_tellsAlike lk_Y_138 im_Y_tellsAlike se_Y_tellsAlike rfl (Nat.le_of_ble_eq_true rfl) (Nat.le_of_ble_eq_true rfl) hY2.1 (Nat.le_of_ble_eq_true rfl) (y_tells hY2 hn (pu_tw_lt hLn _) h51 (by decide) h48 hLF) (fun v w3 hF => ?_)
      obtain ⟨rfl, f3⟩ := hF
      have hC3 := hC2.s f3 (by decide)
      have fr3 := fr2.tr (f3.up (by decide))
      show am_Wp _ _ _ _ _ _ _ [.int (pu_q (SAME P (pu_tw (pu_al P n n) way (pu_al P n n).length) n))] _ _
      refine wp_if_eq (q := 167) (tgt := 189) d_Y_countFamily_164 (by decide) rfl (fun c164 => ?_) (fun c164 => ?_)
      · refine wp_inc1 (q := 192) d_Y_countFamily_189 rfl rfl (nI_1 _) (Nat.le_of_ble_eq_true rfl) rfl ?_
        refine wp_goto (tgt := 38) d_Y_countFamily_192 (by decide) ?_
        have e := pu_fm_f (G := GW P n (pu_al P n n)) (k := (pu_al P n n).length) (x := way) (fun h => pu_q0 c164 h.2)
        rw [e] at ih
        exact ih w3 fr3 hC3
      · have hsm := pu_q1 c164
        have e := pu_fm_t (G := GW P n (pu_al P n n)) (k := (pu_al P n n).length) (x := way) ⟨hacy, hsm⟩
        rw [e] at ih
        refine wp_aload_n (q := 168) d_Y_countFamily_167 rfl rfl rfl ?_
        refine wp_dup (q := 169) d_Y_countFamily_168 rfl rfl ?_
        refine wp_get (q := 172) (k := 9) d_Y_countFamily_169 rfl ok_Y (Nat.le_of_ble_eq_true rfl) fk_Y_146 hC3.1.1 rfl ?_
        refine wp_iconst (q := 173) (v := 1) d_Y_countFamily_172 rfl (by decide) ?_
        refine wp_iadd (q := 174) d_Y_countFamily_173 rfl ?_
        rw [nI_1]
        refine wp_put (q := 177) (k := 9) d_Y_countFamily_174 rfl ok_Y (Nat.le_of_ble_eq_true rfl) fk_Y_146 rfl am_fit_i hC3.1.1 (Nat.le_of_ble_eq_true rfl) rfl ?_
        obtain ⟨f4, hY4⟩ := hC3.1.set_ob (n1 := n) (k1 := k) (ik1 := ik) (kn1 := kn) (ic1 := true) (fz1 := (pu_fm (GW P n (pu_al P n n)) (pu_al P n n).length way).1 + 1) (sm1 := (pu_fm (GW P n (pu_al P n n)) (pu_al P n n).length way).2)
        show am_Wp _ _ _ _ _ _ _ _ (w3.set 35 (yob n k ik kn true ((pu_fm (GW P n (pu_al P n n)) (pu_al P n n).length way).1 + 1) (pu_fm (GW P n (pu_al P n n)) (pu_al P n n).length way).2)) _
        have k4 : KLY (pu_al P n n) (w3.set 35 (yob n k ik kn true ((pu_fm (GW P n (pu_al P n n)) (pu_al P n n).length way).1 + 1) (pu_fm (GW P n (pu_al P n n)) (pu_al P n n).length way).2)) := by obtain ⟨g1, g2, e1, e2⟩ := hC3.2.1; exact ⟨g1, g2, am_at_ne (by decide) e1, am_at_ne (by decide) e2⟩
        have l4 : ∃ f, (w3.set 35 (yob n k ik kn true ((pu_fm (GW P n (pu_al P n n)) (pu_al P n n).length way).1 + 1) (pu_fm (GW P n (pu_al P n n)) (pu_al P n n).length way).2))[48]? = some (.inl (2, 16384, .inl f)) ∧ LF P n (2 ^ n) 0 1 f := by obtain ⟨g1, e1, e2⟩ := hC3.2.2; exact ⟨g1, am_at_ne (by decide) e1, e2⟩
        generalize w3.set 35 (yob n k ik kn true ((pu_fm (GW P n (pu_al P n n)) (pu_al P n n).length way).1 + 1) (pu_fm (GW P n (pu_al P n n)) (pu_al P n n).length way).2) = w4 at f4 hY4 k4 l4 ⊢
        refine wp_aload_n (q := 178) d_Y_countFamily_177 rfl rfl rfl ?_
        refine wp_dup (q := 179) d_Y_countFamily_178 rfl rfl ?_
        refine wp_get (q := 182) (k := 10) d_Y_countFamily_179 rfl ok_Y (Nat.le_of_ble_eq_true rfl) fk_Y_149 hY4.1 rfl ?_
        refine wp_iload_n (q := 183) d_Y_countFamily_182 rfl rfl rfl ?_
        refine wp_iconst (q := 184) (v := -1) d_Y_countFamily_183 rfl (by decide) ?_
        refine wp_ixor (q := 185) d_Y_countFamily_184 rfl ?_
        refine wp_iand (q := 186) d_Y_countFamily_185 rfl ?_
        rw [pu_not]
        refine wp_put (q := 189) (k := 10) d_Y_countFamily_186 rfl ok_Y (Nat.le_of_ble_eq_true rfl) fk_Y_149 rfl am_fit_i hY4.1 (Nat.le_of_ble_eq_true rfl) rfl ?_
        obtain ⟨f5, hY5⟩ := hY4.set_ob (n1 := n) (k1 := k) (ik1 := ik) (kn1 := kn) (ic1 := true) (fz1 := (pu_fm (GW P n (pu_al P n n)) (pu_al P n n).length way).1 + 1) (sm1 := pu_dif (pu_fm (GW P n (pu_al P n n)) (pu_al P n n).length way).2 way)
        refine wp_inc1 (q := 192) d_Y_countFamily_189 rfl rfl (nI_1 _) (Nat.le_of_ble_eq_true rfl) rfl ?_
        refine wp_goto (tgt := 38) d_Y_countFamily_192 (by decide) ?_
        exact ih _ (fr3.tr (f4.tr f5)) ⟨hY5, by obtain ⟨g1, g2, e1, e2⟩ := k4; exact ⟨g1, g2, am_at_ne (by decide) e1, am_at_ne (by decide) e2⟩, by obtain ⟨g1, e1, e2⟩ := l4; exact ⟨g1, am_at_ne (by decide) e1, e2⟩⟩
set_option maxHeartbeats 4000000 in
set_option maxRecDepth 100000 in
theorem y_cf0 {n k : Nat} {P : Nat → Nat} {H : Nat → Int32} {O : Nat → Nat} {ik : Bool} {kn : Nat} {KP : Nat → Nat} {ic : Bool} {fz sm : Nat} {w : am_W} (hY : YI n k P H O ik kn KP ic fz sm w) (hn : n ≤ 8) (hPn : ∀ i, P i < 2 ^ n) (hl : (pu_al P n n).length ≤ 10) (hic : ic = false) : am_Wp none m_Y_countFamily 4 0 0 0 [(0, .ref 35)] [] w (fun v w2 => v = none ∧ YF DY w w2 ∧ YI n k P H O ik kn KP true (pu_fam P n).1 (pu_fam P n).2 w2) := by
  refine wp_aload_n (q := 1) d_Y_countFamily_0 rfl rfl rfl ?_
  refine wp_get (q := 4) (k := 8) d_Y_countFamily_1 rfl ok_Y (Nat.le_of_ble_eq_true rfl) fk_Y_74 hY.1 rfl ?_
  refine wp_if_eq (q := 7) (tgt := 8) d_Y_countFamily_4 (by decide) rfl (fun _ => ?_) (fun c4 => absurd (by rw [hic]; rfl) c4)
  refine wp_aload_n (q := 9) d_Y_countFamily_8 rfl rfl rfl ?_
  refine wp_iconst (q := 10) (v := 1) d_Y_countFamily_9 rfl (by decide) ?_
  refine wp_put (q := 13) (k := 8) d_Y_countFamily_10 rfl ok_Y (Nat.le_of_ble_eq_true rfl) fk_Y_74 rfl (am_fit_b (b := true)) hY.1 (Nat.le_of_ble_eq_true rfl) rfl ?_
  obtain ⟨f1, hY1⟩ := hY.set_ob (n1 := n) (k1 := k) (ik1 := ik) (kn1 := kn) (ic1 := true) (fz1 := fz) (sm1 := sm)
  show am_Wp _ _ _ _ _ _ _ _ (w.set 35 (yob n k ik kn true fz sm)) _
  generalize w.set 35 (yob n k ik kn true fz sm) = w1 at f1 hY1 ⊢
  refine wp_aload_n (q := 14) d_Y_countFamily_13 rfl rfl rfl ?_
  refine wp_cV0g (q := 17) (bc1 := 0) (bs1 := 0) d_Y_countFamily_14 rfl bd_Y_listArcs lk_Y_142 im_Y_listArcs se_Y_listArcs rfl (Nat.le_of_ble_eq_true rfl) (Nat.le_of_ble_eq_true rfl) hY1.1 (Nat.le_of_ble_eq_true rfl) (y_list hY1 hn (fun i => pu_lt8 hn (hPn i)) hl) (fun v w2 hF => ?_)
  obtain ⟨rfl, f2, hK2⟩ := hF
  have hY2 := hY1.s f2 (by decide)
  show am_Wp _ _ _ _ _ _ _ [.int (nI (pu_al P n n).length)] _ _
  refine wp_istore_n (q := 18) d_Y_countFamily_17 rfl rfl (Nat.le_of_ble_eq_true rfl) rfl ?_
  refine wp_aload_n (q := 19) d_Y_countFamily_18 rfl rfl rfl ?_
  refine wp_iconst (q := 20) (v := 0) d_Y_countFamily_19 rfl (by decide) ?_
  refine wp_put (q := 23) (k := 9) d_Y_countFamily_20 rfl ok_Y (Nat.le_of_ble_eq_true rfl) fk_Y_146 rfl am_fit_i hY2.1 (Nat.le_of_ble_eq_true rfl) rfl ?_
  obtain ⟨f3, hY3⟩ := hY2.set_ob (n1 := n) (k1 := k) (ik1 := ik) (kn1 := kn) (ic1 := true) (fz1 := 0) (sm1 := sm)
  show am_Wp _ _ _ _ _ _ _ _ (w2.set 35 (yob n k ik kn true 0 sm)) _
  have hK3 : KLY (pu_al P n n) (w2.set 35 (yob n k ik kn true 0 sm)) := by obtain ⟨g1, g2, e1, e2⟩ := hK2; exact ⟨g1, g2, am_at_ne (by decide) e1, am_at_ne (by decide) e2⟩
  generalize w2.set 35 (yob n k ik kn true 0 sm) = w3 at f3 hY3 hK3 ⊢
  refine wp_aload_n (q := 24) d_Y_countFamily_23 rfl rfl rfl ?_
  refine wp_iconst (q := 25) (v := 1) d_Y_countFamily_24 rfl (by decide) ?_
  refine wp_iload_n (q := 26) d_Y_countFamily_25 rfl rfl rfl ?_
  refine wp_ishl (q := 27) d_Y_countFamily_26 rfl ?_
  rw [pu_bit (pu_al P n n).length (by omega)]
  refine wp_iconst (q := 28) (v := 1) d_Y_countFamily_27 rfl (by decide) ?_
  refine wp_isub (q := 29) d_Y_countFamily_28 rfl ?_
  rw [pu_1, pk_sub (Nat.one_le_two_pow)]
  refine wp_put (q := 32) (k := 10) d_Y_countFamily_29 rfl ok_Y (Nat.le_of_ble_eq_true rfl) fk_Y_149 rfl am_fit_i hY3.1 (Nat.le_of_ble_eq_true rfl) rfl ?_
  obtain ⟨f4, hY4⟩ := hY3.set_ob (n1 := n) (k1 := k) (ik1 := ik) (kn1 := kn) (ic1 := true) (fz1 := 0) (sm1 := 2 ^ (pu_al P n n).length - 1)
  show am_Wp _ _ _ _ _ _ _ _ (w3.set 35 (yob n k ik kn true 0 (2 ^ (pu_al P n n).length - 1))) _
  have hK4 : KLY (pu_al P n n) (w3.set 35 (yob n k ik kn true 0 (2 ^ (pu_al P n n).length - 1))) := by obtain ⟨g1, g2, e1, e2⟩ := hK3; exact ⟨g1, g2, am_at_ne (by decide) e1, am_at_ne (by decide) e2⟩
  generalize w3.set 35 (yob n k ik kn true 0 (2 ^ (pu_al P n n).length - 1)) = w4 at f4 hY4 hK4 ⊢
  refine wp_aload_n (q := 33) d_Y_countFamily_32 rfl rfl rfl ?_
  refine wp_cV0g (q := 36) (bc1 := 0) (bs1 := 0) d_Y_countFamily_33 rfl bd_Y_learn lk_Y_135 im_Y_learn se_Y_learn rfl (Nat.le_of_ble_eq_true rfl) (Nat.le_of_ble_eq_true rfl) hY4.1 (Nat.le_of_ble_eq_true rfl) (y_learn hY4 hn hPn) (fun v w5 hF => ?_)
  obtain ⟨rfl, f5, hLF⟩ := hF
  have hY5 := hY4.s f5 (by decide)
  refine wp_iconst (q := 37) (v := 0) d_Y_countFamily_36 rfl (by decide) ?_
  refine wp_istore_n (q := 38) d_Y_countFamily_37 rfl rfl (Nat.le_of_ble_eq_true rfl) rfl ?_
  exact y_cf_w hY hn hPn hl 0 (Nat.zero_le _) w5 (f1.tr ((f2.up (by decide)).tr (f3.tr (f4.tr (f5.up (by decide)))))) ⟨hY5, hK4.at f5 (by decide) (by decide), hLF⟩
set_option maxHeartbeats 4000000 in
set_option maxRecDepth 100000 in
theorem y_cf1 {n k : Nat} {P : Nat → Nat} {H : Nat → Int32} {O : Nat → Nat} {ik : Bool} {kn : Nat} {KP : Nat → Nat} {ic : Bool} {fz sm : Nat} {w : am_W} (hY : YI n k P H O ik kn KP ic fz sm w) (hic : ic = true) : am_Wp none m_Y_countFamily 4 0 0 0 [(0, .ref 35)] [] w (am_R none w) := by
  refine wp_aload_n (q := 1) d_Y_countFamily_0 rfl rfl rfl ?_
  refine wp_get (q := 4) (k := 8) d_Y_countFamily_1 rfl ok_Y (Nat.le_of_ble_eq_true rfl) fk_Y_74 hY.1 rfl ?_
  refine wp_if_eq (q := 7) (tgt := 8) d_Y_countFamily_4 (by decide) rfl (fun c4 => absurd c4 (by rw [hic]; decide)) (fun _ => ?_)
  exact wp_return rfl d_Y_countFamily_7 ⟨rfl, rfl⟩
set_option maxHeartbeats 4000000 in
set_option maxRecDepth 100000 in
theorem y_cf {n k : Nat} {P : Nat → Nat} {H : Nat → Int32} {O : Nat → Nat} {ik : Bool} {kn : Nat} {KP : Nat → Nat} {ic : Bool} {fz sm : Nat} {w : am_W} (hY : YI n k P H O ik kn KP ic fz sm w) (hn : n ≤ 8) (hPn : ∀ i, P i < 2 ^ n) (hl : (pu_al P n n).length ≤ 10) (hic : ic = true → fz = (pu_fam P n).1 ∧ sm = (pu_fam P n).2) : am_Wp none m_Y_countFamily 4 0 0 0 [(0, .ref 35)] [] w (fun v w2 => v = none ∧ YF DY w w2 ∧ YI n k P H O ik kn KP true (pu_fam P n).1 (pu_fam P n).2 w2) := by
  cases hc : ic with
  | false => exact y_cf0 hY hn hPn hl hc
  | true => exact wp_post (F1 := am_R none w) (fun v w2 h => ⟨h.1, h.2 ▸ YF.rf, by rw [h.2, ← (hic hc).1, ← (hic hc).2, ← hc]; exact hY⟩) (y_cf1 hY hc)
set_option maxHeartbeats 4000000 in
set_option maxRecDepth 100000 in
theorem y_family {n k : Nat} {P : Nat → Nat} {H : Nat → Int32} {O : Nat → Nat} {ik : Bool} {kn : Nat} {KP : Nat → Nat} {ic : Bool} {fz sm : Nat} {w : am_W} (hY : YI n k P H O ik kn KP ic fz sm w) (hW : YW n k P H O kn KP) (hPn : ∀ i, P i < 2 ^ n) (hl : (pu_al P n n).length ≤ 10) (hic : ic = true → fz = (pu_fam P n).1 ∧ sm = (pu_fam P n).2) : am_Wp none m_Y_family 5 0 0 0 [(0, .ref 35)] [] w (fun v w1 => v = some (.int (nI (pu_fam P n).1)) ∧ YF DY w w1 ∧ YI n k P H O ik kn KP true (pu_fam P n).1 (pu_fam P n).2 w1) := by
  obtain ⟨hn, hk, hP, hO, hkn, hKP, hpop⟩ := id hW
  refine wp_aload_n (q := 1) d_Y_family_0 rfl rfl rfl ?_
  refine wp_cV0g (q := 4) (bc1 := 0) (bs1 := 0) d_Y_family_1 rfl bd_Y_countFamily lk_Y_156 im_Y_countFamily se_Y_countFamily rfl (Nat.le_of_ble_eq_true rfl) (Nat.le_of_ble_eq_true rfl) hY.1 (Nat.le_of_ble_eq_true rfl) (y_cf hY hn hPn hl hic) (fun v w1 hF => ?_)
  obtain ⟨rfl, f1, hY1⟩ := hF
  refine wp_aload_n (q := 5) d_Y_family_4 rfl rfl rfl ?_
  refine wp_get (q := 8) (k := 9) d_Y_family_5 rfl ok_Y (Nat.le_of_ble_eq_true rfl) fk_Y_146 hY1.1 rfl ?_
  exact wp_ireturn rfl d_Y_family_8 ⟨rfl, f1, hY1⟩
set_option maxHeartbeats 4000000 in
set_option maxRecDepth 100000 in
theorem y_count0 {n k : Nat} {P : Nat → Nat} {H : Nat → Int32} {O : Nat → Nat} {ik : Bool} {kn : Nat} {KP : Nat → Nat} {ic : Bool} {fz sm : Nat} {w : am_W} (hY : YI n k P H O ik kn KP ic fz sm w) : am_Wp none m_Y_count 0 0 0 0 [(0, .ref 35), (1, .int 0)] [] w (am_R (some (.int (nI n))) w) := by
  refine wp_iload_n (q := 1) d_Y_count_0 rfl rfl rfl ?_
  refine wp_if_ne (q := 4) (tgt := 9) d_Y_count_1 (by decide) rfl (fun c1 => absurd rfl c1) (fun _ => ?_)
  refine wp_aload_n (q := 5) d_Y_count_4 rfl rfl rfl ?_
  refine wp_get (q := 8) (k := 0) d_Y_count_5 rfl ok_Y (Nat.le_of_ble_eq_true rfl) fk_Y_63 hY.1 rfl ?_
  exact wp_ireturn rfl d_Y_count_8 ⟨rfl, rfl⟩
set_option maxHeartbeats 4000000 in
set_option maxRecDepth 100000 in
theorem y_count1 {n k : Nat} {P : Nat → Nat} {H : Nat → Int32} {O : Nat → Nat} {ik : Bool} {kn : Nat} {KP : Nat → Nat} {ic : Bool} {fz sm : Nat} {w : am_W} (hY : YI n k P H O ik kn KP ic fz sm w) : am_Wp none m_Y_count 0 0 0 0 [(0, .ref 35), (1, .int 1)] [] w (am_R (some (.int (nI k))) w) := by
  refine wp_iload_n (q := 1) d_Y_count_0 rfl rfl rfl ?_
  refine wp_if_ne (q := 4) (tgt := 9) d_Y_count_1 (by decide) rfl (fun _ => ?_) (fun c1 => absurd c1 (by decide))
  refine wp_iload_n (q := 10) d_Y_count_9 rfl rfl rfl ?_
  refine wp_iconst (q := 11) (v := 1) d_Y_count_10 rfl (by decide) ?_
  refine wp_icmp_ne (q := 14) (tgt := 19) d_Y_count_11 (by decide) rfl (fun c11 => absurd rfl c11) (fun _ => ?_)
  refine wp_aload_n (q := 15) d_Y_count_14 rfl rfl rfl ?_
  refine wp_get (q := 18) (k := 1) d_Y_count_15 rfl ok_Y (Nat.le_of_ble_eq_true rfl) fk_Y_67 hY.1 rfl ?_
  exact wp_ireturn rfl d_Y_count_18 ⟨rfl, rfl⟩
set_option maxHeartbeats 4000000 in
set_option maxRecDepth 100000 in
theorem y_count2 {n k : Nat} {P : Nat → Nat} {H : Nat → Int32} {O : Nat → Nat} {ik : Bool} {kn : Nat} {KP : Nat → Nat} {ic : Bool} {fz sm : Nat} {w : am_W} (hY : YI n k P H O ik kn KP ic fz sm w) (hW : YW n k P H O kn KP) (hPn : ∀ i, P i < 2 ^ n) (hl : (pu_al P n n).length ≤ 10) (hic : ic = true → fz = (pu_fam P n).1 ∧ sm = (pu_fam P n).2) : am_Wp none m_Y_count 5 0 0 0 [(0, .ref 35), (1, .int 2)] [] w (fun v w1 => v = some (.int (nI (pu_pop 10 (pu_fam P n).2))) ∧ YF DY w w1 ∧ YI n k P H O ik kn KP true (pu_fam P n).1 (pu_fam P n).2 w1) := by
  obtain ⟨hn, hk, hP, hO, hkn, hKP, hpop⟩ := id hW
  refine wp_iload_n (q := 1) d_Y_count_0 rfl rfl rfl ?_
  refine wp_if_ne (q := 4) (tgt := 9) d_Y_count_1 (by decide) rfl (fun _ => ?_) (fun c1 => absurd c1 (by decide))
  refine wp_iload_n (q := 10) d_Y_count_9 rfl rfl rfl ?_
  refine wp_iconst (q := 11) (v := 1) d_Y_count_10 rfl (by decide) ?_
  refine wp_icmp_ne (q := 14) (tgt := 19) d_Y_count_11 (by decide) rfl (fun _ => ?_) (fun c11 => absurd c11 (by decide))
  refine wp_iload_n (q := 20) d_Y_count_19 rfl rfl rfl ?_
  refine wp_iconst (q := 21) (v := 2) d_Y_count_20 rfl (by decide) ?_
  refine wp_icmp_ne (q := 24) (tgt := 36) d_Y_count_21 (by decide) rfl (fun c21 => absurd rfl c21) (fun _ => ?_)
  refine wp_aload_n (q := 25) d_Y_count_24 rfl rfl rfl ?_
  refine wp_cV0g (q := 28) (bc1 := 0) (bs1 := 0) d_Y_count_25 rfl bd_Y_countFamily lk_Y_156 im_Y_countFamily se_Y_countFamily rfl (Nat.le_of_ble_eq_true rfl) (Nat.le_of_ble_eq_true rfl) hY.1 (Nat.le_of_ble_eq_true rfl) (y_cf hY hn hPn hl hic) (fun v w1 hF => ?_)
  obtain ⟨rfl, f1, hY1⟩ := hF
  refine wp_aload_n (q := 29) d_Y_count_28 rfl rfl rfl ?_
  refine wp_get (q := 32) (k := 10) d_Y_count_29 rfl ok_Y (Nat.le_of_ble_eq_true rfl) fk_Y_149 hY1.1 rfl ?_
  refine wp_cS1r (q := 35) d_Y_count_32 rfl bd_Y_many lk_Y_96 sm_Y_many (Nat.le_of_ble_eq_true rfl) (Nat.le_of_ble_eq_true rfl) (Nat.le_of_ble_eq_true rfl) (y_many (pu_fam_2 hl)) ?_
  exact wp_ireturn rfl d_Y_count_35 ⟨rfl, f1, hY1⟩
set_option maxHeartbeats 4000000 in
set_option maxRecDepth 100000 in
theorem y_count3_L {n k : Nat} {P : Nat → Nat} {H : Nat → Int32} {O : Nat → Nat} {ik : Bool} {kn : Nat} {KP : Nat → Nat} {ic : Bool} {fz sm : Nat} {w : am_W} (hY : YI n k P H O ik kn KP ic fz sm w) (hn : n ≤ 8) : ∀ p, p ≤ n → am_Wp none m_Y_count 0 0 0 45 [(0, .ref 35), (1, .int 3), (2, .int (nI (pu_hn H p))), (3, .int (nI p))] [] w (am_R (some (.int (nI (pu_hn H n)))) w) := by
  refine pu_up (P := fun p => am_Wp none m_Y_count 0 0 0 45 [(0, .ref 35), (1, .int 3), (2, .int (nI (pu_hn H p))), (3, .int (nI p))] [] w (am_R (some (.int (nI (pu_hn H n)))) w)) ?_ ?_
  · show am_Wp _ _ _ _ _ _ _ _ _ _
    refine wp_iload_n (q := 46) d_Y_count_45 rfl rfl rfl ?_
    refine wp_aload_n (q := 47) d_Y_count_46 rfl rfl rfl ?_
    refine wp_get (q := 50) (k := 0) d_Y_count_47 rfl ok_Y (Nat.le_of_ble_eq_true rfl) fk_Y_63 hY.1 rfl ?_
    refine wp_icmp_ge (q := 53) (tgt := 77) d_Y_count_50 (by decide) rfl (fun _ => ?_) (fun c50 => absurd (nI_le (Nat.le_refl n) (by omega)) c50)
    refine wp_iload_n (q := 78) d_Y_count_77 rfl rfl rfl ?_
    exact wp_ireturn rfl d_Y_count_78 ⟨rfl, rfl⟩
  · intro p hp ih
    have ih : am_Wp _ _ _ _ _ _ _ _ _ _ := ih
    show am_Wp _ _ _ _ _ _ _ _ _ _
    refine wp_iload_n (q := 46) d_Y_count_45 rfl rfl rfl ?_
    refine wp_aload_n (q := 47) d_Y_count_46 rfl rfl rfl ?_
    refine wp_get (q := 50) (k := 0) d_Y_count_47 rfl ok_Y (Nat.le_of_ble_eq_true rfl) fk_Y_63 hY.1 rfl ?_
    refine wp_icmp_ge (q := 53) (tgt := 77) d_Y_count_50 (by decide) rfl (fun c50 => absurd c50 (nI_ge hp (by omega))) (fun _ => ?_)
    refine wp_iload_n (q := 54) d_Y_count_53 rfl rfl rfl ?_
    refine wp_aload_n (q := 55) d_Y_count_54 rfl rfl rfl ?_
    refine wp_get (q := 58) (k := 3) d_Y_count_55 rfl ok_Y (Nat.le_of_ble_eq_true rfl) fk_Y_13 hY.1 rfl ?_
    refine wp_iload_n (q := 59) d_Y_count_58 rfl rfl rfl ?_
    refine wp_ialoadN (q := 60) d_Y_count_59 rfl hY.2.2.1 rfl (by omega) (by decide) ?_
    refine wp_iconst (q := 61) (v := -1) d_Y_count_60 rfl (by decide) ?_
    refine wp_icmp_eq (q := 64) (tgt := 68) d_Y_count_61 (by decide) rfl (fun c61 => ?_) (fun c61 => ?_)
    · refine wp_iconst (q := 69) (v := 0) d_Y_count_68 rfl (by decide) ?_
      refine wp_iadd (q := 70) d_Y_count_69 rfl ?_
      rw [show (0 : Int32) = nI 0 from rfl, nI_add]
      refine wp_istore_n (q := 71) d_Y_count_70 rfl rfl (Nat.le_of_ble_eq_true rfl) rfl ?_
      refine wp_inc1 (q := 74) d_Y_count_71 rfl rfl (nI_1 _) (Nat.le_of_ble_eq_true rfl) rfl ?_
      refine wp_goto (tgt := 45) d_Y_count_74 (by decide) ?_
      have e : pu_hn H (p + 1) = pu_hn H p + 0 := by rw [pu_hn, if_pos c61]
      rw [e] at ih
      exact ih
    · refine wp_iconst (q := 65) (v := 1) d_Y_count_64 rfl (by decide) ?_
      refine wp_goto (tgt := 69) d_Y_count_65 (by decide) ?_
      refine wp_iadd (q := 70) d_Y_count_69 rfl ?_
      rw [show (1 : Int32) = nI 1 from rfl, nI_add]
      refine wp_istore_n (q := 71) d_Y_count_70 rfl rfl (Nat.le_of_ble_eq_true rfl) rfl ?_
      refine wp_inc1 (q := 74) d_Y_count_71 rfl rfl (nI_1 _) (Nat.le_of_ble_eq_true rfl) rfl ?_
      refine wp_goto (tgt := 45) d_Y_count_74 (by decide) ?_
      have e : pu_hn H (p + 1) = pu_hn H p + 1 := by rw [pu_hn, if_neg c61]
      rw [e] at ih
      exact ih
set_option maxHeartbeats 4000000 in
set_option maxRecDepth 100000 in
theorem y_count3 {n k : Nat} {P : Nat → Nat} {H : Nat → Int32} {O : Nat → Nat} {ik : Bool} {kn : Nat} {KP : Nat → Nat} {ic : Bool} {fz sm : Nat} {w : am_W} (hY : YI n k P H O ik kn KP ic fz sm w) (hn : n ≤ 8) : am_Wp none m_Y_count 0 0 0 0 [(0, .ref 35), (1, .int 3)] [] w (am_R (some (.int (nI (pu_hn H n)))) w) := by
  refine wp_iload_n (q := 1) d_Y_count_0 rfl rfl rfl ?_
  refine wp_if_ne (q := 4) (tgt := 9) d_Y_count_1 (by decide) rfl (fun _ => ?_) (fun c1 => absurd c1 (by decide))
  refine wp_iload_n (q := 10) d_Y_count_9 rfl rfl rfl ?_
  refine wp_iconst (q := 11) (v := 1) d_Y_count_10 rfl (by decide) ?_
  refine wp_icmp_ne (q := 14) (tgt := 19) d_Y_count_11 (by decide) rfl (fun _ => ?_) (fun c11 => absurd c11 (by decide))
  refine wp_iload_n (q := 20) d_Y_count_19 rfl rfl rfl ?_
  refine wp_iconst (q := 21) (v := 2) d_Y_count_20 rfl (by decide) ?_
  refine wp_icmp_ne (q := 24) (tgt := 36) d_Y_count_21 (by decide) rfl (fun _ => ?_) (fun c21 => absurd c21 (by decide))
  refine wp_iload_n (q := 37) d_Y_count_36 rfl rfl rfl ?_
  refine wp_iconst (q := 38) (v := 3) d_Y_count_37 rfl (by decide) ?_
  refine wp_icmp_ne (q := 41) (tgt := 79) d_Y_count_38 (by decide) rfl (fun c38 => absurd rfl c38) (fun _ => ?_)
  refine wp_iconst (q := 42) (v := 0) d_Y_count_41 rfl (by decide) ?_
  refine wp_istore_n (q := 43) d_Y_count_42 rfl rfl (Nat.le_of_ble_eq_true rfl) rfl ?_
  refine wp_iconst (q := 44) (v := 0) d_Y_count_43 rfl (by decide) ?_
  refine wp_istore_n (q := 45) d_Y_count_44 rfl rfl (Nat.le_of_ble_eq_true rfl) rfl ?_
  exact y_count3_L hY hn 0 (Nat.zero_le _)
set_option maxHeartbeats 4000000 in
set_option maxRecDepth 100000 in
theorem y_count_bad {n k : Nat} {P : Nat → Nat} {H : Nat → Int32} {O : Nat → Nat} {ik : Bool} {kn : Nat} {KP : Nat → Nat} {ic : Bool} {fz sm : Nat} {w : am_W} (hY : YI n k P H O ik kn KP ic fz sm w) {x : Int32} (h0 : ¬ x = 0) (h1 : ¬ x = 1) (h2 : ¬ x = 2) (h3 : ¬ x = 3) : am_Wp none m_Y_count 0 0 0 0 [(0, .ref 35), (1, .int x)] [] w (am_R (some (.int (-2))) w) := by
  refine wp_iload_n (q := 1) d_Y_count_0 rfl rfl rfl ?_
  refine wp_if_ne (q := 4) (tgt := 9) d_Y_count_1 (by decide) rfl (fun _ => ?_) (fun c1 => absurd c1 h0)
  refine wp_iload_n (q := 10) d_Y_count_9 rfl rfl rfl ?_
  refine wp_iconst (q := 11) (v := 1) d_Y_count_10 rfl (by decide) ?_
  refine wp_icmp_ne (q := 14) (tgt := 19) d_Y_count_11 (by decide) rfl (fun _ => ?_) (fun c11 => absurd c11 h1)
  refine wp_iload_n (q := 20) d_Y_count_19 rfl rfl rfl ?_
  refine wp_iconst (q := 21) (v := 2) d_Y_count_20 rfl (by decide) ?_
  refine wp_icmp_ne (q := 24) (tgt := 36) d_Y_count_21 (by decide) rfl (fun _ => ?_) (fun c21 => absurd c21 h2)
  refine wp_iload_n (q := 37) d_Y_count_36 rfl rfl rfl ?_
  refine wp_iconst (q := 38) (v := 3) d_Y_count_37 rfl (by decide) ?_
  refine wp_icmp_ne (q := 41) (tgt := 79) d_Y_count_38 (by decide) rfl (fun _ => ?_) (fun c38 => absurd c38 h3)
  refine wp_bipush (q := 81) (v := -2) d_Y_count_79 rfl (by decide) ?_
  exact wp_ireturn rfl d_Y_count_81 ⟨rfl, rfl⟩
set_option maxHeartbeats 4000000 in
set_option maxRecDepth 100000 in
theorem y_settled_bad {n k : Nat} {P : Nat → Nat} {H : Nat → Int32} {O : Nat → Nat} {ik : Bool} {kn : Nat} {KP : Nat → Nat} {ic : Bool} {fz sm : Nat} {w : am_W} (hY : YI n k P H O ik kn KP ic fz sm w) (hW : YW n k P H O kn KP) {x y : Int32} (hb : ¬ PR n x y) : am_Wp none m_Y_settled 1 0 0 0 [(0, .ref 35), (1, .int x), (2, .int y)] [] w (am_R (some (.int (-2))) w) := by
  obtain ⟨hn, hk, hP, hO, hkn, hKP, hpop⟩ := id hW
  refine wp_aload_n (q := 1) d_Y_settled_0 rfl rfl rfl ?_
  refine wp_iload_n (q := 2) d_Y_settled_1 rfl rfl rfl ?_
  refine wp_cV1r (q := 5) d_Y_settled_2 rfl bd_Y_isPlace lk_Y_77 im_Y_isPlace se_Y_isPlace rfl (Nat.le_of_ble_eq_true rfl) (Nat.le_of_ble_eq_true rfl) hY.1 (Nat.le_of_ble_eq_true rfl) (y_isPlace hY hn) ?_
  refine wp_if_eq (q := 8) (tgt := 21) d_Y_settled_5 (by decide) rfl (fun c5 => ?_) (fun c5 => ?_)
  · refine wp_bipush (q := 23) (v := -2) d_Y_settled_21 rfl (by decide) ?_
    exact wp_ireturn rfl d_Y_settled_23 ⟨rfl, rfl⟩
  · refine wp_aload_n (q := 9) d_Y_settled_8 rfl rfl rfl ?_
    refine wp_iload_n (q := 10) d_Y_settled_9 rfl rfl rfl ?_
    refine wp_cV1r (q := 13) d_Y_settled_10 rfl bd_Y_isPlace lk_Y_77 im_Y_isPlace se_Y_isPlace rfl (Nat.le_of_ble_eq_true rfl) (Nat.le_of_ble_eq_true rfl) hY.1 (Nat.le_of_ble_eq_true rfl) (y_isPlace hY hn) ?_
    refine wp_if_eq (q := 16) (tgt := 21) d_Y_settled_13 (by decide) rfl (fun c13 => ?_) (fun c13 => ?_)
    · refine wp_bipush (q := 23) (v := -2) d_Y_settled_21 rfl (by decide) ?_
      exact wp_ireturn rfl d_Y_settled_23 ⟨rfl, rfl⟩
    · refine wp_iload_n (q := 17) d_Y_settled_16 rfl rfl rfl ?_
      refine wp_iload_n (q := 18) d_Y_settled_17 rfl rfl rfl ?_
      refine wp_icmp_ne (q := 21) (tgt := 24) d_Y_settled_18 (by decide) rfl (fun c18 => absurd (Classical.byContradiction fun e => hb (by obtain ⟨i, hi, rfl⟩ := pu_q1 c5; obtain ⟨j, hj, rfl⟩ := pu_q1 c13; exact ⟨i, j, hi, hj, fun h => e (by rw [h]), rfl, rfl⟩)) c18) (fun _ => ?_)
      refine wp_bipush (q := 23) (v := -2) d_Y_settled_21 rfl (by decide) ?_
      exact wp_ireturn rfl d_Y_settled_23 ⟨rfl, rfl⟩
set_option maxHeartbeats 4000000 in
set_option maxRecDepth 100000 in
theorem y_settled_none {n k : Nat} {P : Nat → Nat} {H : Nat → Int32} {O : Nat → Nat} {ik : Bool} {kn : Nat} {KP : Nat → Nat} {ic : Bool} {fz sm : Nat} {w : am_W} (hY : YI n k P H O ik kn KP ic fz sm w) (hW : YW n k P H O kn KP) {i j : Nat} (hi : i < n) (hj : j < n) (hij : i ≠ j) (h1 : (P j).testBit i = false) : am_Wp none m_Y_settled 1 0 0 0 [(0, .ref 35), (1, .int (nI i)), (2, .int (nI j))] [] w (am_R (some (.int (-1))) w) := by
  obtain ⟨hn, hk, hP, hO, hkn, hKP, hpop⟩ := id hW
  refine wp_aload_n (q := 1) d_Y_settled_0 rfl rfl rfl ?_
  refine wp_iload_n (q := 2) d_Y_settled_1 rfl rfl rfl ?_
  refine wp_cV1r (q := 5) d_Y_settled_2 rfl bd_Y_isPlace lk_Y_77 im_Y_isPlace se_Y_isPlace rfl (Nat.le_of_ble_eq_true rfl) (Nat.le_of_ble_eq_true rfl) hY.1 (Nat.le_of_ble_eq_true rfl) (y_isPlace hY hn) ?_
  refine wp_if_eq (q := 8) (tgt := 21) d_Y_settled_5 (by decide) rfl (fun c5 => absurd c5 (by rw [pu_q_t ⟨i, hi, rfl⟩]; decide)) (fun _ => ?_)
  refine wp_aload_n (q := 9) d_Y_settled_8 rfl rfl rfl ?_
  refine wp_iload_n (q := 10) d_Y_settled_9 rfl rfl rfl ?_
  refine wp_cV1r (q := 13) d_Y_settled_10 rfl bd_Y_isPlace lk_Y_77 im_Y_isPlace se_Y_isPlace rfl (Nat.le_of_ble_eq_true rfl) (Nat.le_of_ble_eq_true rfl) hY.1 (Nat.le_of_ble_eq_true rfl) (y_isPlace hY hn) ?_
  refine wp_if_eq (q := 16) (tgt := 21) d_Y_settled_13 (by decide) rfl (fun c13 => absurd c13 (by rw [pu_q_t ⟨j, hj, rfl⟩]; decide)) (fun _ => ?_)
  refine wp_iload_n (q := 17) d_Y_settled_16 rfl rfl rfl ?_
  refine wp_iload_n (q := 18) d_Y_settled_17 rfl rfl rfl ?_
  refine wp_icmp_ne (q := 21) (tgt := 24) d_Y_settled_18 (by decide) rfl (fun _ => ?_) (fun c18 => absurd c18 (fun e => hij (pu_nI_inj (by omega) (by omega) e)))
  refine wp_aload_n (q := 25) d_Y_settled_24 rfl rfl rfl ?_
  refine wp_iload_n (q := 26) d_Y_settled_25 rfl rfl rfl ?_
  refine wp_iload_n (q := 27) d_Y_settled_26 rfl rfl rfl ?_
  refine wp_cV2r (q := 30) d_Y_settled_27 rfl bd_Y_isArc lk_Y_92 im_Y_isArc se_Y_isArc rfl (Nat.le_of_ble_eq_true rfl) (Nat.le_of_ble_eq_true rfl) hY.1 (Nat.le_of_ble_eq_true rfl) (y_isArc hY hP (by omega) (by omega)) ?_
  refine wp_if_ne (q := 33) (tgt := 35) d_Y_settled_30 (by decide) rfl (fun c30 => absurd (by rw [h1]; rfl) c30) (fun _ => ?_)
  refine wp_iconst (q := 34) (v := -1) d_Y_settled_33 rfl (by decide) ?_
  exact wp_ireturn rfl d_Y_settled_34 ⟨rfl, rfl⟩
set_option maxHeartbeats 4000000 in
set_option maxRecDepth 100000 in
theorem y_settled_L {n k : Nat} {P : Nat → Nat} {H : Nat → Int32} {O : Nat → Nat} {ik : Bool} {kn : Nat} {KP : Nat → Nat} {w : am_W} (hY : YI n k P H O ik kn KP true (pu_fam P n).1 (pu_fam P n).2 w) (hn : n ≤ 8) (hl : (pu_al P n n).length ≤ 10) (hK : KLY (pu_al P n n) w) {i j : Nat} (hi : i < n) (hj : j < n) : ∀ q, q ≤ (pu_al P n n).length → am_Wp none m_Y_settled 5 0 0 50 [(0, .ref 35), (1, .int (nI i)), (2, .int (nI j)), (3, .int (nI (pu_al P n n).length)), (4, .int (pu_so (pu_al P n n) (pu_fam P n).2 i j q)), (5, .int (nI q))] [] w (am_R (some (.int (pu_so (pu_al P n n) (pu_fam P n).2 i j (pu_al P n n).length))) w) := by
  have hsm := pu_fam_2 hl
  refine pu_up (P := fun q => am_Wp none m_Y_settled 5 0 0 50 [(0, .ref 35), (1, .int (nI i)), (2, .int (nI j)), (3, .int (nI (pu_al P n n).length)), (4, .int (pu_so (pu_al P n n) (pu_fam P n).2 i j q)), (5, .int (nI q))] [] w (am_R (some (.int (pu_so (pu_al P n n) (pu_fam P n).2 i j (pu_al P n n).length))) w)) ?_ ?_
  · show am_Wp _ _ _ _ _ _ _ _ _ _
    refine wp_iload (q := 52) d_Y_settled_50 rfl rfl ?_
    refine wp_iload_n (q := 53) d_Y_settled_52 rfl rfl rfl ?_
    refine wp_icmp_ge (q := 56) (tgt := 102) d_Y_settled_53 (by decide) rfl (fun _ => ?_) (fun c53 => absurd (nI_le (Nat.le_refl _) (by omega)) c53)
    refine wp_iload (q := 104) d_Y_settled_102 rfl rfl ?_
    exact wp_ireturn rfl d_Y_settled_104 ⟨rfl, rfl⟩
  · intro q hq ih
    have ih : am_Wp _ _ _ _ _ _ _ _ _ _ := ih
    show am_Wp _ _ _ _ _ _ _ _ _ _
    obtain ⟨f1, f2, h50, h49⟩ := hK
    obtain ⟨qq, hqe⟩ : ∃ qq, (pu_al P n n)[q]? = some qq := ⟨_, List.getElem?_eq_getElem hq⟩
    have hqb := pu_al_lt qq (List.mem_of_getElem? hqe)
    have hq10 : q < 10 := by omega
    refine wp_iload (q := 52) d_Y_settled_50 rfl rfl ?_
    refine wp_iload_n (q := 53) d_Y_settled_52 rfl rfl rfl ?_
    refine wp_icmp_ge (q := 56) (tgt := 102) d_Y_settled_53 (by decide) rfl (fun c53 => absurd c53 (nI_ge hq (by omega))) (fun _ => ?_)
    refine wp_iload (q := 58) d_Y_settled_56 rfl rfl ?_
    refine wp_aload_n (q := 59) d_Y_settled_58 rfl rfl rfl ?_
    refine wp_get (q := 62) (k := 20) d_Y_settled_59 rfl ok_Y (Nat.le_of_ble_eq_true rfl) fk_Y_51 hY.1 rfl ?_
    refine wp_iload (q := 64) d_Y_settled_62 rfl rfl ?_
    refine wp_ialoadN (q := 65) d_Y_settled_64 rfl h49 rfl hq10 (by decide) ?_
    rw [pu_l2_at hqe]
    refine wp_iload_n (q := 66) d_Y_settled_65 rfl rfl rfl ?_
    refine wp_icmp_ne (q := 69) (tgt := 92) d_Y_settled_66 (by decide) rfl (fun c66 => ?_) (fun c66 => ?_)
    · refine wp_iconst (q := 93) (v := 0) d_Y_settled_92 rfl (by decide) ?_
      refine wp_ior (q := 94) d_Y_settled_93 rfl ?_
      refine wp_istore (q := 96) d_Y_settled_94 rfl (Nat.le_of_ble_eq_true rfl) rfl ?_
      refine wp_inc1 (q := 99) d_Y_settled_96 rfl rfl (nI_1 _) (Nat.le_of_ble_eq_true rfl) rfl ?_
      refine wp_goto (tgt := 50) d_Y_settled_99 (by decide) ?_
      have e : (pu_so (pu_al P n n) (pu_fam P n).2 i j (q + 1)) = (pu_so (pu_al P n n) (pu_fam P n).2 i j q) ||| 0 := by rw [pu_so, if_neg (fun h => c66 (by rw [hqe] at h; cases h; rfl))]
      rw [e] at ih
      exact ih
    · refine wp_aload_n (q := 70) d_Y_settled_69 rfl rfl rfl ?_
      refine wp_get (q := 73) (k := 21) d_Y_settled_70 rfl ok_Y (Nat.le_of_ble_eq_true rfl) fk_Y_54 hY.1 rfl ?_
      refine wp_iload (q := 75) d_Y_settled_73 rfl rfl ?_
      refine wp_ialoadN (q := 76) d_Y_settled_75 rfl h50 rfl hq10 (by decide) ?_
      rw [pu_l1_at hqe]
      refine wp_iload_n (q := 77) d_Y_settled_76 rfl rfl rfl ?_
      refine wp_icmp_ne (q := 80) (tgt := 92) d_Y_settled_77 (by decide) rfl (fun c77 => ?_) (fun c77 => ?_)
      · refine wp_iconst (q := 93) (v := 0) d_Y_settled_92 rfl (by decide) ?_
        refine wp_ior (q := 94) d_Y_settled_93 rfl ?_
        refine wp_istore (q := 96) d_Y_settled_94 rfl (Nat.le_of_ble_eq_true rfl) rfl ?_
        refine wp_inc1 (q := 99) d_Y_settled_96 rfl rfl (nI_1 _) (Nat.le_of_ble_eq_true rfl) rfl ?_
        refine wp_goto (tgt := 50) d_Y_settled_99 (by decide) ?_
        have e : (pu_so (pu_al P n n) (pu_fam P n).2 i j (q + 1)) = (pu_so (pu_al P n n) (pu_fam P n).2 i j q) ||| 0 := by rw [pu_so, if_neg (fun h => c77 (by rw [hqe] at h; cases h; rfl))]
        rw [e] at ih
        exact ih
      · refine wp_aload_n (q := 81) d_Y_settled_80 rfl rfl rfl ?_
        refine wp_get (q := 84) (k := 10) d_Y_settled_81 rfl ok_Y (Nat.le_of_ble_eq_true rfl) fk_Y_149 hY.1 rfl ?_
        refine wp_iload (q := 86) d_Y_settled_84 rfl rfl ?_
        refine wp_ishr (q := 87) d_Y_settled_86 rfl ?_
        refine wp_iconst (q := 88) (v := 1) d_Y_settled_87 rfl (by decide) ?_
        refine wp_iand (q := 89) d_Y_settled_88 rfl ?_
        rw [pu_has (by omega) (by omega)]
        refine wp_goto (tgt := 93) d_Y_settled_89 (by decide) ?_
        refine wp_ior (q := 94) d_Y_settled_93 rfl ?_
        refine wp_istore (q := 96) d_Y_settled_94 rfl (Nat.le_of_ble_eq_true rfl) rfl ?_
        refine wp_inc1 (q := 99) d_Y_settled_96 rfl rfl (nI_1 _) (Nat.le_of_ble_eq_true rfl) rfl ?_
        refine wp_goto (tgt := 50) d_Y_settled_99 (by decide) ?_
        have e : (pu_so (pu_al P n n) (pu_fam P n).2 i j (q + 1)) = (pu_so (pu_al P n n) (pu_fam P n).2 i j q) ||| pu_b ((pu_fam P n).2.testBit q) := by rw [pu_so, if_pos (by rw [hqe, show qq = (j, i) from Prod.ext (pu_nI_inj (by omega) (by omega) c77) (pu_nI_inj (by omega) (by omega) c66)])]
        rw [e] at ih
        exact ih
set_option maxHeartbeats 4000000 in
set_option maxRecDepth 100000 in
theorem y_settled {n k : Nat} {P : Nat → Nat} {H : Nat → Int32} {O : Nat → Nat} {ik : Bool} {kn : Nat} {KP : Nat → Nat} {ic : Bool} {fz sm : Nat} {w : am_W} (hY : YI n k P H O ik kn KP ic fz sm w) (hW : YW n k P H O kn KP) (hPn : ∀ i, P i < 2 ^ n) (hl : (pu_al P n n).length ≤ 10) (hic : ic = true → fz = (pu_fam P n).1 ∧ sm = (pu_fam P n).2) {i j : Nat} (hi : i < n) (hj : j < n) (hij : i ≠ j) (h1 : (P j).testBit i = true) : am_Wp none m_Y_settled 5 0 0 0 [(0, .ref 35), (1, .int (nI i)), (2, .int (nI j))] [] w (fun v w1 => v = some (.int ((pu_so (pu_al P n n) (pu_fam P n).2 i j (pu_al P n n).length))) ∧ YF DY w w1 ∧ YI n k P H O ik kn KP true (pu_fam P n).1 (pu_fam P n).2 w1) := by
  obtain ⟨hn, hk, hP, hO, hkn, hKP, hpop⟩ := id hW
  refine wp_aload_n (q := 1) d_Y_settled_0 rfl rfl rfl ?_
  refine wp_iload_n (q := 2) d_Y_settled_1 rfl rfl rfl ?_
  refine wp_cV1r (q := 5) d_Y_settled_2 rfl bd_Y_isPlace lk_Y_77 im_Y_isPlace se_Y_isPlace rfl (Nat.le_of_ble_eq_true rfl) (Nat.le_of_ble_eq_true rfl) hY.1 (Nat.le_of_ble_eq_true rfl) (y_isPlace hY hn) ?_
  refine wp_if_eq (q := 8) (tgt := 21) d_Y_settled_5 (by decide) rfl (fun c5 => absurd c5 (by rw [pu_q_t ⟨i, hi, rfl⟩]; decide)) (fun _ => ?_)
  refine wp_aload_n (q := 9) d_Y_settled_8 rfl rfl rfl ?_
  refine wp_iload_n (q := 10) d_Y_settled_9 rfl rfl rfl ?_
  refine wp_cV1r (q := 13) d_Y_settled_10 rfl bd_Y_isPlace lk_Y_77 im_Y_isPlace se_Y_isPlace rfl (Nat.le_of_ble_eq_true rfl) (Nat.le_of_ble_eq_true rfl) hY.1 (Nat.le_of_ble_eq_true rfl) (y_isPlace hY hn) ?_
  refine wp_if_eq (q := 16) (tgt := 21) d_Y_settled_13 (by decide) rfl (fun c13 => absurd c13 (by rw [pu_q_t ⟨j, hj, rfl⟩]; decide)) (fun _ => ?_)
  refine wp_iload_n (q := 17) d_Y_settled_16 rfl rfl rfl ?_
  refine wp_iload_n (q := 18) d_Y_settled_17 rfl rfl rfl ?_
  refine wp_icmp_ne (q := 21) (tgt := 24) d_Y_settled_18 (by decide) rfl (fun _ => ?_) (fun c18 => absurd c18 (fun e => hij (pu_nI_inj (by omega) (by omega) e)))
  refine wp_aload_n (q := 25) d_Y_settled_24 rfl rfl rfl ?_
  refine wp_iload_n (q := 26) d_Y_settled_25 rfl rfl rfl ?_
  refine wp_iload_n (q := 27) d_Y_settled_26 rfl rfl rfl ?_
  refine wp_cV2r (q := 30) d_Y_settled_27 rfl bd_Y_isArc lk_Y_92 im_Y_isArc se_Y_isArc rfl (Nat.le_of_ble_eq_true rfl) (Nat.le_of_ble_eq_true rfl) hY.1 (Nat.le_of_ble_eq_true rfl) (y_isArc hY hP (by omega) (by omega)) ?_
  refine wp_if_ne (q := 33) (tgt := 35) d_Y_settled_30 (by decide) rfl (fun _ => ?_) (fun c30 => absurd c30 (by rw [h1]; decide))
  refine wp_aload_n (q := 36) d_Y_settled_35 rfl rfl rfl ?_
  refine wp_cV0g (q := 39) (bc1 := 0) (bs1 := 0) d_Y_settled_36 rfl bd_Y_countFamily lk_Y_156 im_Y_countFamily se_Y_countFamily rfl (Nat.le_of_ble_eq_true rfl) (Nat.le_of_ble_eq_true rfl) hY.1 (Nat.le_of_ble_eq_true rfl) (y_cf hY hn hPn hl hic) (fun v w1 hF => ?_)
  obtain ⟨rfl, f1, hY1⟩ := hF
  refine wp_aload_n (q := 40) d_Y_settled_39 rfl rfl rfl ?_
  refine wp_cV0g (q := 43) (bc1 := 0) (bs1 := 0) d_Y_settled_40 rfl bd_Y_listArcs lk_Y_142 im_Y_listArcs se_Y_listArcs rfl (Nat.le_of_ble_eq_true rfl) (Nat.le_of_ble_eq_true rfl) hY1.1 (Nat.le_of_ble_eq_true rfl) (y_list hY1 hn hP hl) (fun v w2 hF => ?_)
  obtain ⟨rfl, f2, hK2⟩ := hF
  have hY2 := hY1.s f2 (by decide)
  show am_Wp _ _ _ _ _ _ _ [.int (nI (pu_al P n n).length)] _ _
  refine wp_istore_n (q := 44) d_Y_settled_43 rfl rfl (Nat.le_of_ble_eq_true rfl) rfl ?_
  refine wp_iconst (q := 45) (v := 0) d_Y_settled_44 rfl (by decide) ?_
  refine wp_istore (q := 47) d_Y_settled_45 rfl (Nat.le_of_ble_eq_true rfl) rfl ?_
  refine wp_iconst (q := 48) (v := 0) d_Y_settled_47 rfl (by decide) ?_
  refine wp_istore (q := 50) d_Y_settled_48 rfl (Nat.le_of_ble_eq_true rfl) rfl ?_
  exact wp_post (F1 := am_R _ w2) (fun v w3 h => ⟨h.1, h.2 ▸ f1.tr (f2.up (by decide)), h.2 ▸ hY2⟩) (y_settled_L hY2 hn hl hK2 hi hj 0 (Nat.zero_le _))
