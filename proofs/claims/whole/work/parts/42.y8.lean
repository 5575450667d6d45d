/-! CONTRACTS of the reference (8) -/
set_option maxHeartbeats 4000000 in
set_option maxRecDepth 100000 in
theorem y_learn_b {n k : Nat} {P : Nat → Nat} {H : Nat → Int32} {O : Nat → Nat} {ik : Bool} {kn : Nat} {KP : Nat → Nat} {ic : Bool} {fz sm : Nat} {w : am_W} (hY : YI n k P H O ik kn KP ic fz sm w) (hn : n ≤ 8) (hPn : ∀ i, P i < 2 ^ n) {s a : Nat} (hs : s < 2 ^ n) (ha : a < n) (hout : ∀ w1, YF [42, 48] w w1 → (∃ f, w1[48]? = some (.inl (2, 16384, .inl f)) ∧ LF P n s a n f) → am_Wp none m_Y_learn 2 0 0 105 [(0, .ref 35), (1, .int (nI s)), (2, .int (nI a))] [] w1 (fun v w2 => v = none ∧ YF [42, 48] w w2 ∧ ∃ f, w2[48]? = some (.inl (2, 16384, .inl f)) ∧ LF P n (2 ^ n) 0 1 f)) : ∀ b, b ≤ n → a < b → ∀ w1, YF [42, 48] w w1 → (∃ f, w1[48]? = some (.inl (2, 16384, .inl f)) ∧ LF P n s a b f) → am_Wp none m_Y_learn 2 0 0 26 [(0, .ref 35), (1, .int (nI s)), (2, .int (nI a)), (3, .int (nI b))] [] w1 (fun v w2 => v = none ∧ YF [42, 48] w w2 ∧ ∃ f, w2[48]? = some (.inl (2, 16384, .inl f)) ∧ LF P n (2 ^ n) 0 1 f) := by
  have hp2 := pu_p2e hn
  have key : ∀ b, b ≤ n → (a < b → ∀ w1, YF [42, 48] w w1 → (∃ f, w1[48]? = some (.inl (2, 16384, .inl f)) ∧ LF P n s a b f) → am_Wp none m_Y_learn 2 0 0 26 [(0, .ref 35), (1, .int (nI s)), (2, .int (nI a)), (3, .int (nI b))] [] w1 (fun v w2 => v = none ∧ YF [42, 48] w w2 ∧ ∃ f, w2[48]? = some (.inl (2, 16384, .inl f)) ∧ LF P n (2 ^ n) 0 1 f)) := by
    refine pu_up (P := fun b => a < b → ∀ w1, YF [42, 48] w w1 → (∃ f, w1[48]? = some (.inl (2, 16384, .inl f)) ∧ LF P n s a b f) → am_Wp none m_Y_learn 2 0 0 26 [(0, .ref 35), (1, .int (nI s)), (2, .int (nI a)), (3, .int (nI b))] [] w1 (fun v w2 => v = none ∧ YF [42, 48] w w2 ∧ ∃ f, w2[48]? = some (.inl (2, 16384, .inl f)) ∧ LF P n (2 ^ n) 0 1 f)) ?_ ?_
    · intro hab w1 fr hc
      have hY1 := hY.s fr (by decide)
      refine wp_iload_n (q := 27) d_Y_learn_26 rfl rfl rfl ?_
      refine wp_aload_n (q := 28) d_Y_learn_27 rfl rfl rfl ?_
      refine wp_get (q := 31) (k := 0) d_Y_learn_28 rfl ok_Y (Nat.le_of_ble_eq_true rfl) fk_Y_63 hY1.1 rfl ?_
      refine wp_icmp_ge (q := 34) (tgt := 105) d_Y_learn_31 (by decide) rfl (fun _ => ?_) (fun c31 => absurd (nI_le (Nat.le_refl n) (by omega)) c31)
      refine wp_lo [(0, .ref 35), (1, .int (nI s)), (2, .int (nI a))] ⟨rfl, rfl, rfl, trivial⟩ ?_
      exact hout w1 fr hc
    · intro b hb ih0 hab w1 fr hc
      have ih := ih0 (by omega)
      have hY1 := hY.s fr (by decide)
      obtain ⟨f, h48, hLF⟩ := hc
      have h57 : am_Wp none m_Y_learn 2 0 0 57 [(0, .ref 35), (1, .int (nI s)), (2, .int (nI a)), (3, .int (nI b))] [.int (pu_b (s.testBit a || s.testBit b))] w1 (fun v w2 => v = none ∧ YF [42, 48] w w2 ∧ ∃ f, w2[48]? = some (.inl (2, 16384, .inl f)) ∧ LF P n (2 ^ n) 0 1 f) := by
        refine wp_istore (q := 59) d_Y_learn_57 rfl (Nat.le_of_ble_eq_true rfl) rfl ?_
        refine wp_aload_n (q := 60) d_Y_learn_59 rfl rfl rfl ?_
        refine wp_get (q := 63) (k := 19) d_Y_learn_60 rfl ok_Y (Nat.le_of_ble_eq_true rfl) fk_Y_47 hY1.1 rfl ?_
        refine wp_bipush (q := 65) (v := 64) d_Y_learn_63 rfl (by decide) ?_
        refine wp_iload_n (q := 66) d_Y_learn_65 rfl rfl rfl ?_
        refine wp_imul (q := 67) d_Y_learn_66 rfl ?_
        rw [show (64 : Int32) = nI 64 from rfl, pk_mul]
        refine wp_bipush (q := 69) (v := 8) d_Y_learn_67 rfl (by decide) ?_
        refine wp_iload_n (q := 70) d_Y_learn_69 rfl rfl rfl ?_
        refine wp_imul (q := 71) d_Y_learn_70 rfl ?_
        rw [show (8 : Int32) = nI 8 from rfl, pk_mul]
        refine wp_iadd (q := 72) d_Y_learn_71 rfl ?_
        rw [nI_add]
        refine wp_iload_n (q := 73) d_Y_learn_72 rfl rfl rfl ?_
        refine wp_iadd (q := 74) d_Y_learn_73 rfl ?_
        rw [nI_add]
        refine wp_iload (q := 76) d_Y_learn_74 rfl rfl ?_
        refine wp_if_ne (q := 79) (tgt := 97) d_Y_learn_76 (by decide) rfl (fun c76 => ?_) (fun c76 => ?_)
        · have hin : (s.testBit a || s.testBit b) = true := pu_b1 c76
          refine wp_iconst (q := 98) (v := 0) d_Y_learn_97 rfl (by decide) ?_
          rw [show (0 : Int32) = pu_b false from rfl]
          refine wp_zastoreN (b := false) (q := 99) d_Y_learn_98 rfl h48 rfl (by omega) (by decide) rfl ?_
          refine wp_inc1 (q := 102) d_Y_learn_99 rfl rfl (nI_1 _) (Nat.le_of_ble_eq_true rfl) rfl ?_
          refine wp_goto (tgt := 26) d_Y_learn_102 (by decide) ?_
          refine wp_lo [(0, .ref 35), (1, .int (nI s)), (2, .int (nI a)), (3, .int (nI (b + 1)))] ⟨rfl, rfl, rfl, rfl, trivial⟩ ?_
          refine ih _ (fr.put (by decide) h48 (by rfl)) ⟨_, am_at_eq h48, ?_⟩
          have h9 := hLF.put hn hab hb
          rw [show pu_lf P n s a b = false by unfold pu_lf; rw [hin]; rfl] at h9
          exact h9
        · have hin : (s.testBit a || s.testBit b) = false := pu_b0.mp c76
          refine wp_aload_n (q := 80) d_Y_learn_79 rfl rfl rfl ?_
          refine wp_aload_n (q := 81) d_Y_learn_80 rfl rfl rfl ?_
          refine wp_get (q := 84) (k := 2) d_Y_learn_81 rfl ok_Y (Nat.le_of_ble_eq_true rfl) fk_Y_7 hY1.1 rfl ?_
          refine wp_iload_n (q := 85) d_Y_learn_84 rfl rfl rfl ?_
          refine wp_iload_n (q := 86) d_Y_learn_85 rfl rfl rfl ?_
          refine wp_iload_n (q := 87) d_Y_learn_86 rfl rfl rfl ?_
          refine wp_cV4g (q := 90) (bc1 := 0) (bs1 := 0) d_Y_learn_87 rfl bd_Y_isSeparated lk_Y_113 im_Y_isSeparated se_Y_isSeparated rfl (Nat.le_of_ble_eq_true rfl) (Nat.le_of_ble_eq_true rfl) hY1.1 (Nat.le_of_ble_eq_true rfl) (y_sep hY1 hn hPn (show a < n by omega) hb hs hY1.2.1 (by decide)) (fun v w9 hF => ?_)
          obtain ⟨rfl, f9⟩ := hF
          have fr9 := fr.tr (f9.up (by decide))
          have h489 := f9.at (by decide) h48
          show am_Wp _ _ _ _ _ _ _ (.int (pu_b (pu_sp P n a b s)) :: _) _ _
          refine wp_if_eq (q := 93) (tgt := 97) d_Y_learn_90 (by decide) rfl (fun c90 => ?_) (fun c90 => ?_)
          · have hsp := pu_b0.mp c90
            refine wp_iconst (q := 98) (v := 0) d_Y_learn_97 rfl (by decide) ?_
            rw [show (0 : Int32) = pu_b false from rfl]
            refine wp_zastoreN (b := false) (q := 99) d_Y_learn_98 rfl h489 rfl (by omega) (by decide) rfl ?_
            refine wp_inc1 (q := 102) d_Y_learn_99 rfl rfl (nI_1 _) (Nat.le_of_ble_eq_true rfl) rfl ?_
            refine wp_goto (tgt := 26) d_Y_learn_102 (by decide) ?_
            refine wp_lo [(0, .ref 35), (1, .int (nI s)), (2, .int (nI a)), (3, .int (nI (b + 1)))] ⟨rfl, rfl, rfl, rfl, trivial⟩ ?_
            refine ih _ (fr9.put (by decide) h489 (by rfl)) ⟨_, am_at_eq h489, ?_⟩
            have h9 := hLF.put hn hab hb
            rw [show pu_lf P n s a b = false by unfold pu_lf; rw [hin, hsp]; rfl] at h9
            exact h9
          · have hsp := pu_b1 c90
            refine wp_iconst (q := 94) (v := 1) d_Y_learn_93 rfl (by decide) ?_
            refine wp_goto (tgt := 98) d_Y_learn_94 (by decide) ?_
            rw [show (1 : Int32) = pu_b true from rfl]
            refine wp_zastoreN (b := true) (q := 99) d_Y_learn_98 rfl h489 rfl (by omega) (by decide) rfl ?_
            refine wp_inc1 (q := 102) d_Y_learn_99 rfl rfl (nI_1 _) (Nat.le_of_ble_eq_true rfl) rfl ?_
            refine wp_goto (tgt := 26) d_Y_learn_102 (by decide) ?_
            refine wp_lo [(0, .ref 35), (1, .int (nI s)), (2, .int (nI a)), (3, .int (nI (b + 1)))] ⟨rfl, rfl, rfl, rfl, trivial⟩ ?_
            refine ih _ (fr9.put (by decide) h489 (by rfl)) ⟨_, am_at_eq h489, ?_⟩
            have h9 := hLF.put hn hab hb
            rw [show pu_lf P n s a b = true by unfold pu_lf; rw [hin, hsp]; rfl] at h9
            exact h9
      refine wp_iload_n (q := 27) d_Y_learn_26 rfl rfl rfl ?_
      refine wp_aload_n (q := 28) d_Y_learn_27 rfl rfl rfl ?_
      refine wp_get (q := 31) (k := 0) d_Y_learn_28 rfl ok_Y (Nat.le_of_ble_eq_true rfl) fk_Y_63 hY1.1 rfl ?_
      refine wp_icmp_ge (q := 34) (tgt := 105) d_Y_learn_31 (by decide) rfl (fun c31 => absurd c31 (nI_ge hb (by omega))) (fun _ => ?_)
      refine wp_iload_n (q := 35) d_Y_learn_34 rfl rfl rfl ?_
      refine wp_iload_n (q := 36) d_Y_learn_35 rfl rfl rfl ?_
      refine wp_ishr (q := 37) d_Y_learn_36 rfl ?_
      refine wp_iconst (q := 38) (v := 1) d_Y_learn_37 rfl (by decide) ?_
      refine wp_iand (q := 39) d_Y_learn_38 rfl ?_
      rw [pu_has (by omega) (by omega)]
      refine wp_iconst (q := 40) (v := 1) d_Y_learn_39 rfl (by decide) ?_
      refine wp_icmp_eq (q := 43) (tgt := 52) d_Y_learn_40 (by decide) rfl (fun c40 => ?_) (fun c40 => ?_)
      · have b40 : s.testBit a = true := pu_h1.mp c40
        refine wp_iconst (q := 53) (v := 1) d_Y_learn_52 rfl (by decide) ?_
        refine wp_goto (tgt := 57) d_Y_learn_53 (by decide) ?_
        rw [b40, Bool.true_or] at h57
        exact h57
      · have b40 : s.testBit a = false := by cases h : s.testBit a with | false => rfl | true => rw [h] at c40; exact absurd rfl c40
        refine wp_iload_n (q := 44) d_Y_learn_43 rfl rfl rfl ?_
        refine wp_iload_n (q := 45) d_Y_learn_44 rfl rfl rfl ?_
        refine wp_ishr (q := 46) d_Y_learn_45 rfl ?_
        refine wp_iconst (q := 47) (v := 1) d_Y_learn_46 rfl (by decide) ?_
        refine wp_iand (q := 48) d_Y_learn_47 rfl ?_
        rw [pu_has (by omega) (by omega)]
        refine wp_iconst (q := 49) (v := 1) d_Y_learn_48 rfl (by decide) ?_
        refine wp_icmp_ne (q := 52) (tgt := 56) d_Y_learn_49 (by decide) rfl (fun c49 => ?_) (fun c49 => ?_)
        · have b49 : s.testBit b = false := by cases h : s.testBit b with | false => rfl | true => rw [h] at c49; exact absurd rfl c49
          refine wp_iconst (q := 57) (v := 0) d_Y_learn_56 rfl (by decide) ?_
          rw [b40, b49] at h57
          exact h57
        · have b49 : s.testBit b = true := pu_h1.mp c49
          refine wp_iconst (q := 53) (v := 1) d_Y_learn_52 rfl (by decide) ?_
          refine wp_goto (tgt := 57) d_Y_learn_53 (by decide) ?_
          rw [b49, Bool.or_true] at h57
          exact h57
  exact key
set_option maxHeartbeats 4000000 in
set_option maxRecDepth 100000 in
theorem y_learn_a {n k : Nat} {P : Nat → Nat} {H : Nat → Int32} {O : Nat → Nat} {ik : Bool} {kn : Nat} {KP : Nat → Nat} {ic : Bool} {fz sm : Nat} {w : am_W} (hY : YI n k P H O ik kn KP ic fz sm w) (hn : n ≤ 8) (hPn : ∀ i, P i < 2 ^ n) {s : Nat} (hs : s < 2 ^ n) (hout : ∀ w1, YF [42, 48] w w1 → (∃ f, w1[48]? = some (.inl (2, 16384, .inl f)) ∧ LF P n (s + 1) 0 (0 + 1) f) → am_Wp none m_Y_learn 2 0 0 2 [(0, .ref 35), (1, .int (nI (s + 1)))] [] w1 (fun v w2 => v = none ∧ YF [42, 48] w w2 ∧ ∃ f, w2[48]? = some (.inl (2, 16384, .inl f)) ∧ LF P n (2 ^ n) 0 1 f)) : ∀ a, a ≤ n → ∀ w1, YF [42, 48] w w1 → (∃ f, w1[48]? = some (.inl (2, 16384, .inl f)) ∧ LF P n s a (a + 1) f) → am_Wp none m_Y_learn 2 0 0 14 [(0, .ref 35), (1, .int (nI s)), (2, .int (nI a))] [] w1 (fun v w2 => v = none ∧ YF [42, 48] w w2 ∧ ∃ f, w2[48]? = some (.inl (2, 16384, .inl f)) ∧ LF P n (2 ^ n) 0 1 f) := by
  have hp2 := pu_p2e hn
  refine pu_up (P := fun a => ∀ w1, YF [42, 48] w w1 → (∃ f, w1[48]? = some (.inl (2, 16384, .inl f)) ∧ LF P n s a (a + 1) f) → am_Wp none m_Y_learn 2 0 0 14 [(0, .ref 35), (1, .int (nI s)), (2, .int (nI a))] [] w1 (fun v w2 => v = none ∧ YF [42, 48] w w2 ∧ ∃ f, w2[48]? = some (.inl (2, 16384, .inl f)) ∧ LF P n (2 ^ n) 0 1 f)) ?_ ?_
  · intro w1 fr hc
    have hY1 := hY.s fr (by decide)
    refine wp_iload_n (q := 15) d_Y_learn_14 rfl rfl rfl ?_
    refine wp_aload_n (q := 16) d_Y_learn_15 rfl rfl rfl ?_
    refine wp_get (q := 19) (k := 0) d_Y_learn_16 rfl ok_Y (Nat.le_of_ble_eq_true rfl) fk_Y_63 hY1.1 rfl ?_
    refine wp_icmp_ge (q := 22) (tgt := 111) d_Y_learn_19 (by decide) rfl (fun _ => ?_) (fun c19 => absurd (nI_le (Nat.le_refl n) (by omega)) c19)
    refine wp_inc1 (q := 114) d_Y_learn_111 rfl rfl (nI_1 _) (Nat.le_of_ble_eq_true rfl) rfl ?_
    refine wp_goto (tgt := 2) d_Y_learn_114 (by decide) ?_
    refine wp_lo [(0, .ref 35), (1, .int (nI (s + 1)))] ⟨rfl, rfl, trivial⟩ ?_
    exact hout w1 fr (by obtain ⟨f, h1, h2⟩ := hc; exact ⟨f, h1, h2.ns⟩)
  · intro a ha ih w1 fr hc
    have hY1 := hY.s fr (by decide)
    refine wp_iload_n (q := 15) d_Y_learn_14 rfl rfl rfl ?_
    refine wp_aload_n (q := 16) d_Y_learn_15 rfl rfl rfl ?_
    refine wp_get (q := 19) (k := 0) d_Y_learn_16 rfl ok_Y (Nat.le_of_ble_eq_true rfl) fk_Y_63 hY1.1 rfl ?_
    refine wp_icmp_ge (q := 22) (tgt := 111) d_Y_learn_19 (by decide) rfl (fun c19 => absurd c19 (nI_ge ha (by omega))) (fun _ => ?_)
    refine wp_iload_n (q := 23) d_Y_learn_22 rfl rfl rfl ?_
    refine wp_iconst (q := 24) (v := 1) d_Y_learn_23 rfl (by decide) ?_
    refine wp_iadd (q := 25) d_Y_learn_24 rfl ?_
    rw [nI_1]
    refine wp_istore_n (q := 26) d_Y_learn_25 rfl rfl (Nat.le_of_ble_eq_true rfl) rfl ?_
    refine y_learn_b hY hn hPn hs ha ?_ (a + 1) (by omega) (by omega) w1 fr hc
    intro w2 fr2 hc2
    refine wp_inc1 (q := 108) d_Y_learn_105 rfl rfl (nI_1 _) (Nat.le_of_ble_eq_true rfl) rfl ?_
    refine wp_goto (tgt := 14) d_Y_learn_108 (by decide) ?_
    exact ih w2 fr2 (by obtain ⟨f, h1, h2⟩ := hc2; exact ⟨f, h1, h2.na⟩)
set_option maxHeartbeats 4000000 in
set_option maxRecDepth 100000 in
theorem y_learn_s {n k : Nat} {P : Nat → Nat} {H : Nat → Int32} {O : Nat → Nat} {ik : Bool} {kn : Nat} {KP : Nat → Nat} {ic : Bool} {fz sm : Nat} {w : am_W} (hY : YI n k P H O ik kn KP ic fz sm w) (hn : n ≤ 8) (hPn : ∀ i, P i < 2 ^ n) : ∀ s, s ≤ 2 ^ n → ∀ w1, YF [42, 48] w w1 → (∃ f, w1[48]? = some (.inl (2, 16384, .inl f)) ∧ LF P n s 0 (0 + 1) f) → am_Wp none m_Y_learn 2 0 0 2 [(0, .ref 35), (1, .int (nI s))] [] w1 (fun v w2 => v = none ∧ YF [42, 48] w w2 ∧ ∃ f, w2[48]? = some (.inl (2, 16384, .inl f)) ∧ LF P n (2 ^ n) 0 1 f) := by
  have hp2 := pu_p2e hn
  refine pu_up (P := fun s => ∀ w1, YF [42, 48] w w1 → (∃ f, w1[48]? = some (.inl (2, 16384, .inl f)) ∧ LF P n s 0 (0 + 1) f) → am_Wp none m_Y_learn 2 0 0 2 [(0, .ref 35), (1, .int (nI s))] [] w1 (fun v w2 => v = none ∧ YF [42, 48] w w2 ∧ ∃ f, w2[48]? = some (.inl (2, 16384, .inl f)) ∧ LF P n (2 ^ n) 0 1 f)) ?_ ?_
  · intro w1 fr hc
    have hY1 := hY.s fr (by decide)
    refine wp_iload_n (q := 3) d_Y_learn_2 rfl rfl rfl ?_
    refine wp_iconst (q := 4) (v := 1) d_Y_learn_3 rfl (by decide) ?_
    refine wp_aload_n (q := 5) d_Y_learn_4 rfl rfl rfl ?_
    refine wp_get (q := 8) (k := 0) d_Y_learn_5 rfl ok_Y (Nat.le_of_ble_eq_true rfl) fk_Y_63 hY1.1 rfl ?_
    refine wp_ishl (q := 9) d_Y_learn_8 rfl ?_
    rw [pu_bit n (by omega)]
    refine wp_icmp_ge (q := 12) (tgt := 117) d_Y_learn_9 (by decide) rfl (fun _ => ?_) (fun c9 => absurd (nI_le (Nat.le_refl _) (by omega)) c9)
    exact wp_return rfl d_Y_learn_117 ⟨rfl, fr, hc⟩
  · intro s hs ih w1 fr hc
    have hY1 := hY.s fr (by decide)
    refine wp_iload_n (q := 3) d_Y_learn_2 rfl rfl rfl ?_
    refine wp_iconst (q := 4) (v := 1) d_Y_learn_3 rfl (by decide) ?_
    refine wp_aload_n (q := 5) d_Y_learn_4 rfl rfl rfl ?_
    refine wp_get (q := 8) (k := 0) d_Y_learn_5 rfl ok_Y (Nat.le_of_ble_eq_true rfl) fk_Y_63 hY1.1 rfl ?_
    refine wp_ishl (q := 9) d_Y_learn_8 rfl ?_
    rw [pu_bit n (by omega)]
    refine wp_icmp_ge (q := 12) (tgt := 117) d_Y_learn_9 (by decide) rfl (fun c9 => absurd c9 (nI_ge hs (by omega))) (fun _ => ?_)
    refine wp_iconst (q := 13) (v := 0) d_Y_learn_12 rfl (by decide) ?_
    refine wp_istore_n (q := 14) d_Y_learn_13 rfl rfl (Nat.le_of_ble_eq_true rfl) rfl ?_
    exact y_learn_a hY hn hPn hs ih 0 (Nat.zero_le _) w1 fr hc
set_option maxHeartbeats 4000000 in
set_option maxRecDepth 100000 in
theorem y_learn {n k : Nat} {P : Nat → Nat} {H : Nat → Int32} {O : Nat → Nat} {ik : Bool} {kn : Nat} {KP : Nat → Nat} {ic : Bool} {fz sm : Nat} {w : am_W} (hY : YI n k P H O ik kn KP ic fz sm w) (hn : n ≤ 8) (hPn : ∀ i, P i < 2 ^ n) : am_Wp none m_Y_learn 2 0 0 0 [(0, .ref 35)] [] w (fun v w2 => v = none ∧ YF [42, 48] w w2 ∧ ∃ f, w2[48]? = some (.inl (2, 16384, .inl f)) ∧ LF P n (2 ^ n) 0 1 f) := by
  obtain ⟨f, h48⟩ := hY.2.2.2.2.2.2.2.2.2.2.2.2.2.1.i
  refine wp_iconst (q := 1) (v := 0) d_Y_learn_0 rfl (by decide) ?_
  refine wp_istore_n (q := 2) d_Y_learn_1 rfl rfl (Nat.le_of_ble_eq_true rfl) rfl ?_
  exact y_learn_s hY hn hPn 0 (Nat.zero_le _) w YF.rf ⟨f, h48, fun s' a' b' _ h1 _ h => by unfold LE3 at h; omega⟩
set_option maxHeartbeats 4000000 in
set_option maxRecDepth 100000 in
theorem y_tells_b {n k : Nat} {P : Nat → Nat} {H : Nat → Int32} {O : Nat → Nat} {ik : Bool} {kn : Nat} {KP : Nat → Nat} {ic : Bool} {fz sm : Nat} {w : am_W} (hY : YI n k P H O ik kn KP ic fz sm w) {r : Nat} {g : Nat → Nat} (hn : n ≤ 8) (hg : ∀ i, g i < 2 ^ n) (hr : w[r]? = some (am_ar 8 g)) (hr42 : ¬ r = 42) {f : Nat → Int32} (h48 : w[48]? = some (.inl (2, 16384, .inl f))) (hLF : LF P n (2 ^ n) 0 1 f) {s a : Nat} (hs : s < 2 ^ n) (ha : a < n) (hout : ∀ w1, YF [42] w w1 → (∀ s' a' b', s' < 2 ^ n → a' < b' → b' < n → s'.testBit a' = false → s'.testBit b' = false → LE3 s a n s' a' b' → pu_sp g n a' b' s' = pu_sp P n a' b' s') → am_Wp none m_Y_tellsAlike 2 0 0 104 [(0, .ref 35), (1, .ref r), (2, .int (nI s)), (3, .int (nI a))] [] w1 (fun v w2 => v = some (.int (pu_q (SAME P g n))) ∧ YF [42] w w2)) : ∀ b, b ≤ n → a < b → ∀ w1, YF [42] w w1 → (∀ s' a' b', s' < 2 ^ n → a' < b' → b' < n → s'.testBit a' = false → s'.testBit b' = false → LE3 s a b s' a' b' → pu_sp g n a' b' s' = pu_sp P n a' b' s') → am_Wp none m_Y_tellsAlike 2 0 0 27 [(0, .ref 35), (1, .ref r), (2, .int (nI s)), (3, .int (nI a)), (4, .int (nI b))] [] w1 (fun v w2 => v = some (.int (pu_q (SAME P g n))) ∧ YF [42] w w2) := by
  have hp2 := pu_p2e hn
  have key : ∀ b, b ≤ n → (a < b → ∀ w1, YF [42] w w1 → (∀ s' a' b', s' < 2 ^ n → a' < b' → b' < n → s'.testBit a' = false → s'.testBit b' = false → LE3 s a b s' a' b' → pu_sp g n a' b' s' = pu_sp P n a' b' s') → am_Wp none m_Y_tellsAlike 2 0 0 27 [(0, .ref 35), (1, .ref r), (2, .int (nI s)), (3, .int (nI a)), (4, .int (nI b))] [] w1 (fun v w2 => v = some (.int (pu_q (SAME P g n))) ∧ YF [42] w w2)) := by
    refine pu_up (P := fun b => a < b → ∀ w1, YF [42] w w1 → (∀ s' a' b', s' < 2 ^ n → a' < b' → b' < n → s'.testBit a' = false → s'.testBit b' = false → LE3 s a b s' a' b' → pu_sp g n a' b' s' = pu_sp P n a' b' s') → am_Wp none m_Y_tellsAlike 2 0 0 27 [(0, .ref 35), (1, .ref r), (2, .int (nI s)), (3, .int (nI a)), (4, .int (nI b))] [] w1 (fun v w2 => v = some (.int (pu_q (SAME P g n))) ∧ YF [42] w w2)) ?_ ?_
    · intro hab w1 fr hso
      have hY1 := hY.s1 fr
      refine wp_iload (q := 29) d_Y_tellsAlike_27 rfl rfl ?_
      refine wp_aload_n (q := 30) d_Y_tellsAlike_29 rfl rfl rfl ?_
      refine wp_get (q := 33) (k := 0) d_Y_tellsAlike_30 rfl ok_Y (Nat.le_of_ble_eq_true rfl) fk_Y_63 hY1.1 rfl ?_
      refine wp_icmp_ge (q := 36) (tgt := 104) d_Y_tellsAlike_33 (by decide) rfl (fun _ => ?_) (fun c33 => absurd (nI_le (Nat.le_refl n) (by omega)) c33)
      refine wp_lo [(0, .ref 35), (1, .ref r), (2, .int (nI s)), (3, .int (nI a))] ⟨rfl, rfl, rfl, rfl, trivial⟩ ?_
      exact hout w1 fr hso
    · intro b hb ih0 hab w1 fr hso
      have ih := ih0 (by omega)
      have hY1 := hY.s1 fr
      have h60 : am_Wp none m_Y_tellsAlike 2 0 0 60 [(0, .ref 35), (1, .ref r), (2, .int (nI s)), (3, .int (nI a)), (4, .int (nI b))] [.int (pu_b (s.testBit a || s.testBit b))] w1 (fun v w2 => v = some (.int (pu_q (SAME P g n))) ∧ YF [42] w w2) := by
        refine wp_istore (q := 62) d_Y_tellsAlike_60 rfl (Nat.le_of_ble_eq_true rfl) rfl ?_
        refine wp_iload (q := 64) d_Y_tellsAlike_62 rfl rfl ?_
        refine wp_if_ne (q := 67) (tgt := 98) d_Y_tellsAlike_64 (by decide) rfl (fun c64 => ?_) (fun c64 => ?_)
        · have hin : (s.testBit a || s.testBit b) = true := pu_b1 c64
          refine wp_inc1 (q := 101) d_Y_tellsAlike_98 rfl rfl (nI_1 _) (Nat.le_of_ble_eq_true rfl) rfl ?_
          refine wp_goto (tgt := 27) d_Y_tellsAlike_101 (by decide) ?_
          refine wp_lo [(0, .ref 35), (1, .ref r), (2, .int (nI s)), (3, .int (nI a)), (4, .int (nI (b + 1)))] ⟨rfl, rfl, rfl, rfl, rfl, trivial⟩ ?_
          refine ih w1 fr (fun s' a' b' q1 q2 q3 q4 q5 q6 => ?_)
          by_cases e : s' = s ∧ a' = a ∧ b' = b
          · obtain ⟨rfl, rfl, rfl⟩ := e
            rw [q4, q5] at hin; exact absurd hin (by decide)
          · exact hso s' a' b' q1 q2 q3 q4 q5 (by unfold LE3 at q6 ⊢; omega)
        · have hin : (s.testBit a || s.testBit b) = false := pu_b0.mp c64
          have hia : s.testBit a = false := by cases h : s.testBit a with | false => rfl | true => rw [h, Bool.true_or] at hin; cases hin
          have hib : s.testBit b = false := by cases h : s.testBit b with | false => rfl | true => rw [h, Bool.or_true] at hin; cases hin
          have hff := hLF s a b hs hab hb (Or.inl hs)
          have hlf : pu_lf P n s a b = pu_sp P n a b s := by unfold pu_lf; rw [hin]; rfl
          rw [hlf] at hff
          refine wp_aload_n (q := 68) d_Y_tellsAlike_67 rfl rfl rfl ?_
          refine wp_aload_n (q := 69) d_Y_tellsAlike_68 rfl rfl rfl ?_
          refine wp_iload_n (q := 70) d_Y_tellsAlike_69 rfl rfl rfl ?_
          refine wp_iload (q := 72) d_Y_tellsAlike_70 rfl rfl ?_
          refine wp_iload_n (q := 73) d_Y_tellsAlike_72 rfl rfl rfl ?_
          refine wp_cV4g (q := 76) (bc1 := 0) (bs1 := 0) d_Y_tellsAlike_73 rfl bd_Y_isSeparated lk_Y_113 im_Y_isSeparated se_Y_isSeparated rfl (Nat.le_of_ble_eq_true rfl) (Nat.le_of_ble_eq_true rfl) hY1.1 (Nat.le_of_ble_eq_true rfl) (y_sep hY1 hn hg (show a < n by omega) hb hs (fr.at (by intro hh; exact hr42 (List.mem_singleton.mp hh)) hr) hr42) (fun v w9 hF => ?_)
          obtain ⟨rfl, f9⟩ := hF
          have fr9 := fr.tr f9
          have hY9 := hY.s1 fr9
          show am_Wp _ _ _ _ _ _ _ (.int (pu_b (pu_sp g n a b s)) :: _) _ _
          refine wp_aload_n (q := 77) d_Y_tellsAlike_76 rfl rfl rfl ?_
          refine wp_get (q := 80) (k := 19) d_Y_tellsAlike_77 rfl ok_Y (Nat.le_of_ble_eq_true rfl) fk_Y_47 hY9.1 rfl ?_
          refine wp_bipush (q := 82) (v := 64) d_Y_tellsAlike_80 rfl (by decide) ?_
          refine wp_iload_n (q := 83) d_Y_tellsAlike_82 rfl rfl rfl ?_
          refine wp_imul (q := 84) d_Y_tellsAlike_83 rfl ?_
          rw [show (64 : Int32) = nI 64 from rfl, pk_mul]
          refine wp_bipush (q := 86) (v := 8) d_Y_tellsAlike_84 rfl (by decide) ?_
          refine wp_iload_n (q := 87) d_Y_tellsAlike_86 rfl rfl rfl ?_
          refine wp_imul (q := 88) d_Y_tellsAlike_87 rfl ?_
          rw [show (8 : Int32) = nI 8 from rfl, pk_mul]
          refine wp_iadd (q := 89) d_Y_tellsAlike_88 rfl ?_
          rw [nI_add]
          refine wp_iload (q := 91) d_Y_tellsAlike_89 rfl rfl ?_
          refine wp_iadd (q := 92) d_Y_tellsAlike_91 rfl ?_
          rw [nI_add]
          refine wp_zaloadN (q := 93) d_Y_tellsAlike_92 rfl (fr9.at (by decide) h48) rfl (by omega) (by decide) ?_
          rw [hff]
          refine wp_icmp_eq (q := 96) (tgt := 98) d_Y_tellsAlike_93 (by decide) rfl (fun c93 => ?_) (fun c93 => ?_)
          · refine wp_inc1 (q := 101) d_Y_tellsAlike_98 rfl rfl (nI_1 _) (Nat.le_of_ble_eq_true rfl) rfl ?_
            refine wp_goto (tgt := 27) d_Y_tellsAlike_101 (by decide) ?_
            refine wp_lo [(0, .ref 35), (1, .ref r), (2, .int (nI s)), (3, .int (nI a)), (4, .int (nI (b + 1)))] ⟨rfl, rfl, rfl, rfl, rfl, trivial⟩ ?_
            refine ih w9 fr9 (fun s' a' b' q1 q2 q3 q4 q5 q6 => ?_)
            by_cases e : s' = s ∧ a' = a ∧ b' = b
            · obtain ⟨rfl, rfl, rfl⟩ := e
              exact (by cases h1 : pu_sp g n a' b' s' <;> cases h2 : pu_sp P n a' b' s' <;> rw [h1, h2] at c93 <;> first | rfl | exact absurd c93 (by decide))
            · exact hso s' a' b' q1 q2 q3 q4 q5 (by unfold LE3 at q6 ⊢; omega)
          · refine wp_iconst (q := 97) (v := 0) d_Y_tellsAlike_96 rfl (by decide) ?_
            exact wp_zreturn rfl rfl d_Y_tellsAlike_97 ⟨by rw [pu_q_f (fun h => c93 (by rw [h s a b hs hab hb hia hib]))], fr9⟩
      refine wp_iload (q := 29) d_Y_tellsAlike_27 rfl rfl ?_
      refine wp_aload_n (q := 30) d_Y_tellsAlike_29 rfl rfl rfl ?_
      refine wp_get (q := 33) (k := 0) d_Y_tellsAlike_30 rfl ok_Y (Nat.le_of_ble_eq_true rfl) fk_Y_63 hY1.1 rfl ?_
      refine wp_icmp_ge (q := 36) (tgt := 104) d_Y_tellsAlike_33 (by decide) rfl (fun c33 => absurd c33 (nI_ge hb (by omega))) (fun _ => ?_)
      refine wp_iload_n (q := 37) d_Y_tellsAlike_36 rfl rfl rfl ?_
      refine wp_iload_n (q := 38) d_Y_tellsAlike_37 rfl rfl rfl ?_
      refine wp_ishr (q := 39) d_Y_tellsAlike_38 rfl ?_
      refine wp_iconst (q := 40) (v := 1) d_Y_tellsAlike_39 rfl (by decide) ?_
      refine wp_iand (q := 41) d_Y_tellsAlike_40 rfl ?_
      rw [pu_has (by omega) (by omega)]
      refine wp_iconst (q := 42) (v := 1) d_Y_tellsAlike_41 rfl (by decide) ?_
      refine wp_icmp_eq (q := 45) (tgt := 55) d_Y_tellsAlike_42 (by decide) rfl (fun c42 => ?_) (fun c42 => ?_)
      · have b42 : s.testBit a = true := pu_h1.mp c42
        refine wp_iconst (q := 56) (v := 1) d_Y_tellsAlike_55 rfl (by decide) ?_
        refine wp_goto (tgt := 60) d_Y_tellsAlike_56 (by decide) ?_
        rw [b42, Bool.true_or] at h60
        exact h60
      · have b42 : s.testBit a = false := by cases h : s.testBit a with | false => rfl | true => rw [h] at c42; exact absurd rfl c42
        refine wp_iload_n (q := 46) d_Y_tellsAlike_45 rfl rfl rfl ?_
        refine wp_iload (q := 48) d_Y_tellsAlike_46 rfl rfl ?_
        refine wp_ishr (q := 49) d_Y_tellsAlike_48 rfl ?_
        refine wp_iconst (q := 50) (v := 1) d_Y_tellsAlike_49 rfl (by decide) ?_
        refine wp_iand (q := 51) d_Y_tellsAlike_50 rfl ?_
        rw [pu_has (by omega) (by omega)]
        refine wp_iconst (q := 52) (v := 1) d_Y_tellsAlike_51 rfl (by decide) ?_
        refine wp_icmp_ne (q := 55) (tgt := 59) d_Y_tellsAlike_52 (by decide) rfl (fun c52 => ?_) (fun c52 => ?_)
        · have b52 : s.testBit b = false := by cases h : s.testBit b with | false => rfl | true => rw [h] at c52; exact absurd rfl c52
          refine wp_iconst (q := 60) (v := 0) d_Y_tellsAlike_59 rfl (by decide) ?_
          rw [b42, b52] at h60
          exact h60
        · have b52 : s.testBit b = true := pu_h1.mp c52
          refine wp_iconst (q := 56) (v := 1) d_Y_tellsAlike_55 rfl (by decide) ?_
          refine wp_goto (tgt := 60) d_Y_tellsAlike_56 (by decide) ?_
          rw [b52, Bool.or_true] at h60
          exact h60
  exact key
set_option maxHeartbeats 4000000 in
set_option maxRecDepth 100000 in
theorem y_tells_a {n k : Nat} {P : Nat → Nat} {H : Nat → Int32} {O : Nat → Nat} {ik : Bool} {kn : Nat} {KP : Nat → Nat} {ic : Bool} {fz sm : Nat} {w : am_W} (hY : YI n k P H O ik kn KP ic fz sm w) {r : Nat} {g : Nat → Nat} (hn : n ≤ 8) (hg : ∀ i, g i < 2 ^ n) (hr : w[r]? = some (am_ar 8 g)) (hr42 : ¬ r = 42) {f : Nat → Int32} (h48 : w[48]? = some (.inl (2, 16384, .inl f))) (hLF : LF P n (2 ^ n) 0 1 f) {s : Nat} (hs : s < 2 ^ n) (hout : ∀ w1, YF [42] w w1 → (∀ s' a' b', s' < 2 ^ n → a' < b' → b' < n → s'.testBit a' = false → s'.testBit b' = false → LE3 (s + 1) 0 1 s' a' b' → pu_sp g n a' b' s' = pu_sp P n a' b' s') → am_Wp none m_Y_tellsAlike 2 0 0 2 [(0, .ref 35), (1, .ref r), (2, .int (nI (s + 1)))] [] w1 (fun v w2 => v = some (.int (pu_q (SAME P g n))) ∧ YF [42] w w2)) : ∀ a, a ≤ n → ∀ w1, YF [42] w w1 → (∀ s' a' b', s' < 2 ^ n → a' < b' → b' < n → s'.testBit a' = false → s'.testBit b' = false → LE3 s a (a + 1) s' a' b' → pu_sp g n a' b' s' = pu_sp P n a' b' s') → am_Wp none m_Y_tellsAlike 2 0 0 14 [(0, .ref 35), (1, .ref r), (2, .int (nI s)), (3, .int (nI a))] [] w1 (fun v w2 => v = some (.int (pu_q (SAME P g n))) ∧ YF [42] w w2) := by
  have hp2 := pu_p2e hn
  refine pu_up (P := fun a => ∀ w1, YF [42] w w1 → (∀ s' a' b', s' < 2 ^ n → a' < b' → b' < n → s'.testBit a' = false → s'.testBit b' = false → LE3 s a (a + 1) s' a' b' → pu_sp g n a' b' s' = pu_sp P n a' b' s') → am_Wp none m_Y_tellsAlike 2 0 0 14 [(0, .ref 35), (1, .ref r), (2, .int (nI s)), (3, .int (nI a))] [] w1 (fun v w2 => v = some (.int (pu_q (SAME P g n))) ∧ YF [42] w w2)) ?_ ?_
  · intro w1 fr hso
    have hY1 := hY.s1 fr
    refine wp_iload_n (q := 15) d_Y_tellsAlike_14 rfl rfl rfl ?_
    refine wp_aload_n (q := 16) d_Y_tellsAlike_15 rfl rfl rfl ?_
    refine wp_get (q := 19) (k := 0) d_Y_tellsAlike_16 rfl ok_Y (Nat.le_of_ble_eq_true rfl) fk_Y_63 hY1.1 rfl ?_
    refine wp_icmp_ge (q := 22) (tgt := 110) d_Y_tellsAlike_19 (by decide) rfl (fun _ => ?_) (fun c19 => absurd (nI_le (Nat.le_refl n) (by omega)) c19)
    refine wp_inc1 (q := 113) d_Y_tellsAlike_110 rfl rfl (nI_1 _) (Nat.le_of_ble_eq_true rfl) rfl ?_
    refine wp_goto (tgt := 2) d_Y_tellsAlike_113 (by decide) ?_
    refine wp_lo [(0, .ref 35), (1, .ref r), (2, .int (nI (s + 1)))] ⟨rfl, rfl, rfl, trivial⟩ ?_
    exact hout w1 fr (fun s' a' b' q1 q2 q3 q4 q5 q6 => hso s' a' b' q1 q2 q3 q4 q5 (by unfold LE3 at q6 ⊢; omega))
  · intro a ha ih w1 fr hso
    have hY1 := hY.s1 fr
    refine wp_iload_n (q := 15) d_Y_tellsAlike_14 rfl rfl rfl ?_
    refine wp_aload_n (q := 16) d_Y_tellsAlike_15 rfl rfl rfl ?_
    refine wp_get (q := 19) (k := 0) d_Y_tellsAlike_16 rfl ok_Y (Nat.le_of_ble_eq_true rfl) fk_Y_63 hY1.1 rfl ?_
    refine wp_icmp_ge (q := 22) (tgt := 110) d_Y_tellsAlike_19 (by decide) rfl (fun c19 => absurd c19 (nI_ge ha (by omega))) (fun _ => ?_)
    refine wp_iload_n (q := 23) d_Y_tellsAlike_22 rfl rfl rfl ?_
    refine wp_iconst (q := 24) (v := 1) d_Y_tellsAlike_23 rfl (by decide) ?_
    refine wp_iadd (q := 25) d_Y_tellsAlike_24 rfl ?_
    rw [nI_1]
    refine wp_istore (q := 27) d_Y_tellsAlike_25 rfl (Nat.le_of_ble_eq_true rfl) rfl ?_
    refine y_tells_b hY hn hg hr hr42 h48 hLF hs ha ?_ (a + 1) (by omega) (by omega) w1 fr hso
    intro w2 fr2 hso2
    refine wp_inc1 (q := 107) d_Y_tellsAlike_104 rfl rfl (nI_1 _) (Nat.le_of_ble_eq_true rfl) rfl ?_
    refine wp_goto (tgt := 14) d_Y_tellsAlike_107 (by decide) ?_
    exact ih w2 fr2 (fun s' a' b' q1 q2 q3 q4 q5 q6 => hso2 s' a' b' q1 q2 q3 q4 q5 (by unfold LE3 at q6 ⊢; omega))
set_option maxHeartbeats 4000000 in
set_option maxRecDepth 100000 in
theorem y_tells_s {n k : Nat} {P : Nat → Nat} {H : Nat → Int32} {O : Nat → Nat} {ik : Bool} {kn : Nat} {KP : Nat → Nat} {ic : Bool} {fz sm : Nat} {w : am_W} (hY : YI n k P H O ik kn KP ic fz sm w) {r : Nat} {g : Nat → Nat} (hn : n ≤ 8) (hg : ∀ i, g i < 2 ^ n) (hr : w[r]? = some (am_ar 8 g)) (hr42 : ¬ r = 42) {f : Nat → Int32} (h48 : w[48]? = some (.inl (2, 16384, .inl f))) (hLF : LF P n (2 ^ n) 0 1 f) : ∀ s, s ≤ 2 ^ n → ∀ w1, YF [42] w w1 → (∀ s' a' b', s' < 2 ^ n → a' < b' → b' < n → s'.testBit a' = false → s'.testBit b' = false → LE3 s 0 1 s' a' b' → pu_sp g n a' b' s' = pu_sp P n a' b' s') → am_Wp none m_Y_tellsAlike 2 0 0 2 [(0, .ref 35), (1, .ref r), (2, .int (nI s))] [] w1 (fun v w2 => v = some (.int (pu_q (SAME P g n))) ∧ YF [42] w w2) := by
  have hp2 := pu_p2e hn
  refine pu_up (P := fun s => ∀ w1, YF [42] w w1 → (∀ s' a' b', s' < 2 ^ n → a' < b' → b' < n → s'.testBit a' = false → s'.testBit b' = false → LE3 s 0 1 s' a' b' → pu_sp g n a' b' s' = pu_sp P n a' b' s') → am_Wp none m_Y_tellsAlike 2 0 0 2 [(0, .ref 35), (1, .ref r), (2, .int (nI s))] [] w1 (fun v w2 => v = some (.int (pu_q (SAME P g n))) ∧ YF [42] w w2)) ?_ ?_
  · intro w1 fr hso
    have hY1 := hY.s1 fr
    refine wp_iload_n (q := 3) d_Y_tellsAlike_2 rfl rfl rfl ?_
    refine wp_iconst (q := 4) (v := 1) d_Y_tellsAlike_3 rfl (by decide) ?_
    refine wp_aload_n (q := 5) d_Y_tellsAlike_4 rfl rfl rfl ?_
    refine wp_get (q := 8) (k := 0) d_Y_tellsAlike_5 rfl ok_Y (Nat.le_of_ble_eq_true rfl) fk_Y_63 hY1.1 rfl ?_
    refine wp_ishl (q := 9) d_Y_tellsAlike_8 rfl ?_
    rw [pu_bit n (by omega)]
    refine wp_icmp_ge (q := 12) (tgt := 116) d_Y_tellsAlike_9 (by decide) rfl (fun _ => ?_) (fun c9 => absurd (nI_le (Nat.le_refl _) (by omega)) c9)
    refine wp_iconst (q := 117) (v := 1) d_Y_tellsAlike_116 rfl (by decide) ?_
    exact wp_zreturn rfl rfl d_Y_tellsAlike_117 ⟨by rw [pu_q_t (show SAME P g n from fun s' a' b' q1 q2 q3 q4 q5 => hso s' a' b' q1 q2 q3 q4 q5 (Or.inl q1))], fr⟩
  · intro s hs ih w1 fr hso
    have hY1 := hY.s1 fr
    refine wp_iload_n (q := 3) d_Y_tellsAlike_2 rfl rfl rfl ?_
    refine wp_iconst (q := 4) (v := 1) d_Y_tellsAlike_3 rfl (by decide) ?_
    refine wp_aload_n (q := 5) d_Y_tellsAlike_4 rfl rfl rfl ?_
    refine wp_get (q := 8) (k := 0) d_Y_tellsAlike_5 rfl ok_Y (Nat.le_of_ble_eq_true rfl) fk_Y_63 hY1.1 rfl ?_
    refine wp_ishl (q := 9) d_Y_tellsAlike_8 rfl ?_
    rw [pu_bit n (by omega)]
    refine wp_icmp_ge (q := 12) (tgt := 116) d_Y_tellsAlike_9 (by decide) rfl (fun c9 => absurd c9 (nI_ge hs (by omega))) (fun _ => ?_)
    refine wp_iconst (q := 13) (v := 0) d_Y_tellsAlike_12 rfl (by decide) ?_
    refine wp_istore_n (q := 14) d_Y_tellsAlike_13 rfl rfl (Nat.le_of_ble_eq_true rfl) rfl ?_
    exact y_tells_a hY hn hg hr hr42 h48 hLF hs ih 0 (Nat.zero_le _) w1 fr hso
set_option maxHeartbeats 4000000 in
set_option maxRecDepth 100000 in
theorem y_tells {n k : Nat} {P : Nat → Nat} {H : Nat → Int32} {O : Nat → Nat} {ik : Bool} {kn : Nat} {KP : Nat → Nat} {ic : Bool} {fz sm : Nat} {w : am_W} (hY : YI n k P H O ik kn KP ic fz sm w) {r : Nat} {g : Nat → Nat} (hn : n ≤ 8) (hg : ∀ i, g i < 2 ^ n) (hr : w[r]? = some (am_ar 8 g)) (hr42 : ¬ r = 42) {f : Nat → Int32} (h48 : w[48]? = some (.inl (2, 16384, .inl f))) (hLF : LF P n (2 ^ n) 0 1 f) : am_Wp none m_Y_tellsAlike 2 0 0 0 [(0, .ref 35), (1, .ref r)] [] w (fun v w2 => v = some (.int (pu_q (SAME P g n))) ∧ YF [42] w w2) := by
  refine wp_iconst (q := 1) (v := 0) d_Y_tellsAlike_0 rfl (by decide) ?_
  refine wp_istore_n (q := 2) d_Y_tellsAlike_1 rfl rfl (Nat.le_of_ble_eq_true rfl) rfl ?_
  exact y_tells_s hY hn hg hr hr42 h48 hLF 0 (Nat.zero_le _) w YF.rf (fun s' a' b' _ h1 _ _ _ h => by unfold LE3 at h; omega)
set_option maxHeartbeats 4000000 in
set_option maxRecDepth 100000 in
theorem y_alike_none {n k : Nat} {P : Nat → Nat} {H : Nat → Int32} {O : Nat → Nat} {ik : Bool} {kn : Nat} {KP : Nat → Nat} {ic : Bool} {fz sm : Nat} {w : am_W} (hY : YI n k P H O ik kn KP ic fz sm w) (hW : YW n k P H O kn KP) (hb : ¬ (ik = true ∧ kn = n)) : am_Wp none m_Y_alike 0 0 0 0 [(0, .ref 35)] [] w (am_R (some (.int (-1))) w) := by
  obtain ⟨hn, hk, hP, hO, hkn, hKP, hpop⟩ := id hW
  refine wp_aload_n (q := 1) d_Y_alike_0 rfl rfl rfl ?_
  refine wp_get (q := 4) (k := 5) d_Y_alike_1 rfl ok_Y (Nat.le_of_ble_eq_true rfl) fk_Y_70 hY.1 rfl ?_
  refine wp_if_eq (q := 7) (tgt := 18) d_Y_alike_4 (by decide) rfl (fun c4 => ?_) (fun c4 => ?_)
  · refine wp_iconst (q := 19) (v := -1) d_Y_alike_18 rfl (by decide) ?_
    exact wp_ireturn rfl d_Y_alike_19 ⟨rfl, rfl⟩
  · refine wp_aload_n (q := 8) d_Y_alike_7 rfl rfl rfl ?_
    refine wp_get (q := 11) (k := 6) d_Y_alike_8 rfl ok_Y (Nat.le_of_ble_eq_true rfl) fk_Y_132 hY.1 rfl ?_
    refine wp_aload_n (q := 12) d_Y_alike_11 rfl rfl rfl ?_
    refine wp_get (q := 15) (k := 0) d_Y_alike_12 rfl ok_Y (Nat.le_of_ble_eq_true rfl) fk_Y_63 hY.1 rfl ?_
    refine wp_icmp_eq (q := 18) (tgt := 20) d_Y_alike_15 (by decide) rfl (fun c15 => absurd c15 (fun e => hb ⟨pu_b1 c4, pu_nI_inj (by omega) (by omega) e⟩)) (fun _ => ?_)
    refine wp_iconst (q := 19) (v := -1) d_Y_alike_18 rfl (by decide) ?_
    exact wp_ireturn rfl d_Y_alike_19 ⟨rfl, rfl⟩
set_option maxHeartbeats 4000000 in
set_option maxRecDepth 100000 in
theorem y_alike {n k : Nat} {P : Nat → Nat} {H : Nat → Int32} {O : Nat → Nat} {ik : Bool} {kn : Nat} {KP : Nat → Nat} {ic : Bool} {fz sm : Nat} {w : am_W} (hY : YI n k P H O ik kn KP ic fz sm w) (hW : YW n k P H O kn KP) (hPn : ∀ i, P i < 2 ^ n) (hKn : ∀ i, KP i < 2 ^ n) (h1 : ik = true) (h2 : kn = n) : am_Wp none m_Y_alike 3 0 0 0 [(0, .ref 35)] [] w (fun v w1 => v = some (.int (pu_q (SAME P KP n))) ∧ YF DY w w1 ∧ YI n k P H O ik kn KP ic fz sm w1) := by
  obtain ⟨hn, hk, hP, hO, hkn, hKP, hpop⟩ := id hW
  refine wp_aload_n (q := 1) d_Y_alike_0 rfl rfl rfl ?_
  refine wp_get (q := 4) (k := 5) d_Y_alike_1 rfl ok_Y (Nat.le_of_ble_eq_true rfl) fk_Y_70 hY.1 rfl ?_
  refine wp_if_eq (q := 7) (tgt := 18) d_Y_alike_4 (by decide) rfl (fun c4 => absurd c4 (by rw [h1]; decide)) (fun _ => ?_)
  refine wp_aload_n (q := 8) d_Y_alike_7 rfl rfl rfl ?_
  refine wp_get (q := 11) (k := 6) d_Y_alike_8 rfl ok_Y (Nat.le_of_ble_eq_true rfl) fk_Y_132 hY.1 rfl ?_
  refine wp_aload_n (q := 12) d_Y_alike_11 rfl rfl rfl ?_
  refine wp_get (q := 15) (k := 0) d_Y_alike_12 rfl ok_Y (Nat.le_of_ble_eq_true rfl) fk_Y_63 hY.1 rfl ?_
  refine wp_icmp_eq (q := 18) (tgt := 20) d_Y_alike_15 (by decide) rfl (fun _ => ?_) (fun c15 => absurd (by rw [h2]) c15)
  refine wp_aload_n (q := 21) d_Y_alike_20 rfl rfl rfl ?_
  refine wp_cV0g (q := 24) (bc1 := 0) (bs1 := 0) d_Y_alike_21 rfl bd_Y_learn lk_Y_135 im_Y_learn se_Y_learn rfl (Nat.le_of_ble_eq_true rfl) (Nat.le_of_ble_eq_true rfl) hY.1 (Nat.le_of_ble_eq_true rfl) (y_learn hY hn hPn) (fun v w1 hF => ?_)
  obtain ⟨rfl, f1, f, h48, hLF⟩ := hF
  have hY1 := hY.s f1 (by decide)
  refine wp_aload_n (q := 25) d_Y_alike_24 rfl rfl rfl ?_
  refine wp_aload_n (q := 26) d_Y_alike_25 rfl rfl rfl ?_
  refine wp_get (q := 29) (k := 7) d_Y_alike_26 rfl ok_Y (Nat.le_of_ble_eq_true rfl) fk_Y_19 hY1.1 rfl ?_
  refine wp_cV1g (q := 32) (bc1 := 0) (bs1 := 0) d_Y_alike_29 rfl bd_Y_tellsAlike lk_Y_138 im_Y_tellsAlike se_Y_tellsAlike rfl (Nat.le_of_ble_eq_true rfl) (Nat.le_of_ble_eq_true rfl) hY1.1 (Nat.le_of_ble_eq_true rfl) (y_tells hY1 hn hKn hY1.2.2.2.2.1 (by decide) h48 hLF) (fun v w9 hF => ?_)
  obtain ⟨rfl, f9⟩ := hF
  have hY9 := hY1.s1 f9
  show am_Wp _ _ _ _ _ _ _ [.int (pu_q (SAME P KP n))] _ _
  refine wp_if_eq (q := 35) (tgt := 39) d_Y_alike_32 (by decide) rfl (fun c32 => ?_) (fun c32 => ?_)
  · refine wp_iconst (q := 40) (v := 0) d_Y_alike_39 rfl (by decide) ?_
    exact wp_ireturn rfl d_Y_alike_40 ⟨by rw [c32], (f1.up (by decide)).tr (f9.up (by decide)), hY9⟩
  · refine wp_iconst (q := 36) (v := 1) d_Y_alike_35 rfl (by decide) ?_
    refine wp_goto (tgt := 40) d_Y_alike_36 (by decide) ?_
    exact wp_ireturn rfl d_Y_alike_40 ⟨by rw [pu_q_t (pu_q1 c32)], (f1.up (by decide)).tr (f9.up (by decide)), hY9⟩
