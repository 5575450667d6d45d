/-! CONTRACTS of the reference (3) -/
set_option maxHeartbeats 4000000 in
set_option maxRecDepth 100000 in
theorem y_count_3 {n k : Nat} {P : Nat → Nat} {H : Nat → Int32} {O : Nat → Nat} {ik : Bool} {kn : Nat} {KP : Nat → Nat} {ic : Bool} {fz sm : Nat} {w : am_W} (hY : YI n k P H O ik kn KP ic fz sm w) {g : Nat → Nat} (hg : ∀ i, g i < 256) {z : Int32} {p : Nat} (hp : p < 8) (hnext : ∀ w1, YF [40, 41] w w1 → w1[40]? = some (am_ar 8 g) → w1[41]? = some (am_ar 8 (pu_ych g (p + 1))) → am_Wp none m_Y_countArcs 0 0 0 75 [(0, .ref 35), (1, .int z), (2, .int (nI (p + 1)))] [] w1 (fun v w2 => v = none ∧ YF [40, 41] w w2 ∧ CT g w2)) : ∀ j, j ≤ 8 → ∀ w1, YF [40, 41] w w1 → w1[40]? = some (am_ar 8 g) → w1[41]? = some (am_ar 8 (pu_hf (pu_ych g (p + 1)) (pu_ych g p) j)) → am_Wp none m_Y_countArcs 0 0 0 83 [(0, .ref 35), (1, .int z), (2, .int (nI p)), (3, .int (nI j))] [] w1 (fun v w2 => v = none ∧ YF [40, 41] w w2 ∧ CT g w2) := by
  refine pu_up (P := fun j => ∀ w1, YF [40, 41] w w1 → w1[40]? = some (am_ar 8 g) → w1[41]? = some (am_ar 8 (pu_hf (pu_ych g (p + 1)) (pu_ych g p) j)) → am_Wp none m_Y_countArcs 0 0 0 83 [(0, .ref 35), (1, .int z), (2, .int (nI p)), (3, .int (nI j))] [] w1 (fun v w2 => v = none ∧ YF [40, 41] w w2 ∧ CT g w2)) ?_ ?_
  · intro w1 fr h40 h41
    refine wp_iload_n (q := 84) d_Y_countArcs_83 rfl rfl rfl ?_
    refine wp_bipush (q := 86) (v := 8) d_Y_countArcs_84 rfl (by decide) ?_
    refine wp_icmp_ge (q := 89) (tgt := 116) d_Y_countArcs_86 (by decide) rfl (fun _ => ?_) (fun c86 => absurd (by decide) c86)
    refine wp_inc1 (q := 119) d_Y_countArcs_116 rfl rfl (nI_1 _) (Nat.le_of_ble_eq_true rfl) rfl ?_
    refine wp_goto (tgt := 75) d_Y_countArcs_119 (by decide) ?_
    refine wp_lo [(0, .ref 35), (1, .int z), (2, .int (nI (p + 1)))] ⟨rfl, rfl, rfl, trivial⟩ ?_
    refine wp_chg (g := fun i => nI (pu_ych g (p + 1) i)) h41 (fun j hj => by show nI _ = nI _; rw [pu_hf, if_pos hj]) rfl ?_
    exact hnext _ (fr.put (by decide) h41 (by rfl)) (am_at_ne (by decide) h40) (am_at_eq h41)
  · intro j hj ih w1 fr h40 h41
    have hY1 := hY.s fr (by decide)
    refine wp_iload_n (q := 84) d_Y_countArcs_83 rfl rfl rfl ?_
    refine wp_bipush (q := 86) (v := 8) d_Y_countArcs_84 rfl (by decide) ?_
    refine wp_icmp_ge (q := 89) (tgt := 116) d_Y_countArcs_86 (by decide) rfl (fun c86 => absurd c86 (by rw [show (8 : Int32) = nI 8 from rfl]; exact nI_ge hj (by decide))) (fun _ => ?_)
    refine wp_aload_n (q := 90) d_Y_countArcs_89 rfl rfl rfl ?_
    refine wp_get (q := 93) (k := 12) d_Y_countArcs_90 rfl ok_Y (Nat.le_of_ble_eq_true rfl) fk_Y_25 hY1.1 rfl ?_
    refine wp_iload_n (q := 94) d_Y_countArcs_93 rfl rfl rfl ?_
    refine wp_dup2 (q := 95) d_Y_countArcs_94 rfl rfl rfl ?_
    refine wp_ialoadN (q := 96) d_Y_countArcs_95 rfl h41 rfl hj (by decide) ?_
    refine wp_aload_n (q := 97) d_Y_countArcs_96 rfl rfl rfl ?_
    refine wp_get (q := 100) (k := 11) d_Y_countArcs_97 rfl ok_Y (Nat.le_of_ble_eq_true rfl) fk_Y_22 hY1.1 rfl ?_
    refine wp_iload_n (q := 101) d_Y_countArcs_100 rfl rfl rfl ?_
    refine wp_ialoadN (q := 102) d_Y_countArcs_101 rfl h40 rfl hp (by decide) ?_
    refine wp_iload_n (q := 103) d_Y_countArcs_102 rfl rfl rfl ?_
    refine wp_ishr (q := 104) d_Y_countArcs_103 rfl ?_
    refine wp_iconst (q := 105) (v := 1) d_Y_countArcs_104 rfl (by decide) ?_
    refine wp_iand (q := 106) d_Y_countArcs_105 rfl ?_
    rw [pu_has (Nat.lt_trans (hg p) (by decide)) (by omega)]
    refine wp_iload_n (q := 107) d_Y_countArcs_106 rfl rfl rfl ?_
    refine wp_ishl (q := 108) d_Y_countArcs_107 rfl ?_
    rw [pu_shb _ (by omega)]
    refine wp_ior (q := 109) d_Y_countArcs_108 rfl ?_
    rw [pu_or]
    refine wp_iastoreN (w' := w1.set 41 (am_ar 8 (pu_hf (pu_ych g (p + 1)) (pu_ych g p) (j + 1)))) (q := 110) d_Y_countArcs_109 rfl h41 rfl hj (by decide) (by rw [pu_upd, ← pu_hf_s (j := j), show pu_hf (pu_ych g (p + 1)) (pu_ych g p) j j = pu_ych g p j by unfold pu_hf; rw [if_neg (Nat.lt_irrefl _)]]; rfl) ?_
    refine wp_inc1 (q := 113) d_Y_countArcs_110 rfl rfl (nI_1 _) (Nat.le_of_ble_eq_true rfl) rfl ?_
    refine wp_goto (tgt := 83) d_Y_countArcs_113 (by decide) ?_
    exact ih _ (fr.put (by decide) h41 (by rfl)) (am_at_ne (by decide) h40) (am_at_eq h41)
set_option maxHeartbeats 4000000 in
set_option maxRecDepth 100000 in
theorem y_count_2 {n k : Nat} {P : Nat → Nat} {H : Nat → Int32} {O : Nat → Nat} {ik : Bool} {kn : Nat} {KP : Nat → Nat} {ic : Bool} {fz sm : Nat} {w : am_W} (hY : YI n k P H O ik kn KP ic fz sm w) {g : Nat → Nat} (hg : ∀ i, g i < 256) {z : Int32} : ∀ p, p ≤ 8 → ∀ w1, YF [40, 41] w w1 → w1[40]? = some (am_ar 8 g) → w1[41]? = some (am_ar 8 (pu_ych g p)) → am_Wp none m_Y_countArcs 0 0 0 75 [(0, .ref 35), (1, .int z), (2, .int (nI p))] [] w1 (fun v w2 => v = none ∧ YF [40, 41] w w2 ∧ CT g w2) := by
  refine pu_up (P := fun p => ∀ w1, YF [40, 41] w w1 → w1[40]? = some (am_ar 8 g) → w1[41]? = some (am_ar 8 (pu_ych g p)) → am_Wp none m_Y_countArcs 0 0 0 75 [(0, .ref 35), (1, .int z), (2, .int (nI p))] [] w1 (fun v w2 => v = none ∧ YF [40, 41] w w2 ∧ CT g w2)) ?_ ?_
  · intro w1 fr h40 h41
    refine wp_iload_n (q := 76) d_Y_countArcs_75 rfl rfl rfl ?_
    refine wp_bipush (q := 78) (v := 8) d_Y_countArcs_76 rfl (by decide) ?_
    refine wp_icmp_ge (q := 81) (tgt := 122) d_Y_countArcs_78 (by decide) rfl (fun _ => ?_) (fun c78 => absurd (by decide) c78)
    exact wp_return rfl d_Y_countArcs_122 ⟨rfl, fr, h40, h41⟩
  · intro p hp ih w1 fr h40 h41
    refine wp_iload_n (q := 76) d_Y_countArcs_75 rfl rfl rfl ?_
    refine wp_bipush (q := 78) (v := 8) d_Y_countArcs_76 rfl (by decide) ?_
    refine wp_icmp_ge (q := 81) (tgt := 122) d_Y_countArcs_78 (by decide) rfl (fun c78 => absurd c78 (by rw [show (8 : Int32) = nI 8 from rfl]; exact nI_ge hp (by decide))) (fun _ => ?_)
    refine wp_iconst (q := 82) (v := 0) d_Y_countArcs_81 rfl (by decide) ?_
    refine wp_istore_n (q := 83) d_Y_countArcs_82 rfl rfl (Nat.le_of_ble_eq_true rfl) rfl ?_
    exact y_count_3 hY hg hp ih 0 (by decide) w1 fr h40 (by rw [pu_hf_0]; exact h41)
set_option maxHeartbeats 4000000 in
set_option maxRecDepth 100000 in
theorem y_countN_L {n k : Nat} {P : Nat → Nat} {H : Nat → Int32} {O : Nat → Nat} {ik : Bool} {kn : Nat} {KP : Nat → Nat} {ic : Bool} {fz sm : Nat} {w : am_W} (hY : YI n k P H O ik kn KP ic fz sm w) (hn : n ≤ 8) {g : Nat → Nat} (hg : ∀ i, g i < 256) (hgg : ∀ i, g i = pu_yc n P H i) : ∀ i, i ≤ 8 → ∀ w1 f1 f2, YF [40, 41] w w1 → w1[40]? = some (.inl (0, 8, .inl (pu_mx g f1 i))) → w1[41]? = some (.inl (0, 8, .inl (pu_mx (fun _ => 0) f2 i))) → am_Wp none m_Y_countArcs 0 0 0 2 [(0, .ref 35), (1, .int (-1)), (2, .int (nI i))] [] w1 (fun v w2 => v = none ∧ YF [40, 41] w w2 ∧ CT g w2) := by
  refine pu_up (P := fun i => ∀ w1 f1 f2, YF [40, 41] w w1 → w1[40]? = some (.inl (0, 8, .inl (pu_mx g f1 i))) → w1[41]? = some (.inl (0, 8, .inl (pu_mx (fun _ => 0) f2 i))) → am_Wp none m_Y_countArcs 0 0 0 2 [(0, .ref 35), (1, .int (-1)), (2, .int (nI i))] [] w1 (fun v w2 => v = none ∧ YF [40, 41] w w2 ∧ CT g w2)) ?_ ?_
  · intro w1 f1 f2 fr h40 h41
    refine wp_iload_n (q := 3) d_Y_countArcs_2 rfl rfl rfl ?_
    refine wp_bipush (q := 5) (v := 8) d_Y_countArcs_3 rfl (by decide) ?_
    refine wp_icmp_ge (q := 8) (tgt := 73) d_Y_countArcs_5 (by decide) rfl (fun _ => ?_) (fun c5 => absurd (by decide) c5)
    refine wp_iconst (q := 74) (v := 0) d_Y_countArcs_73 rfl (by decide) ?_
    refine wp_istore_n (q := 75) d_Y_countArcs_74 rfl rfl (Nat.le_of_ble_eq_true rfl) rfl ?_
    refine wp_lo [(0, .ref 35), (1, .int (-1)), (2, .int (nI 0))] ⟨rfl, rfl, rfl, trivial⟩ ?_
    refine wp_chg (g := fun i => nI (g i)) h40 (fun j hj => pu_mx_at hj) rfl ?_
    refine wp_chg (g := fun i => nI (pu_ych g 0 i)) (am_at_ne (by decide) h41) (fun j hj => pu_mx_at hj) rfl ?_
    exact y_count_2 hY hg 0 (by decide) _ ((fr.put (by decide) h40 (by rfl)).put (by decide) (am_at_ne (by decide) h41) (by rfl)) (am_at_ne (by decide) (am_at_eq h40)) (am_at_eq (am_at_ne (by decide) h41))
  · intro i hi ih w1 f1 f2 fr h40 h41
    have hY1 := hY.s fr (by decide)
    have hgi := hgg i
    refine wp_iload_n (q := 3) d_Y_countArcs_2 rfl rfl rfl ?_
    refine wp_bipush (q := 5) (v := 8) d_Y_countArcs_3 rfl (by decide) ?_
    refine wp_icmp_ge (q := 8) (tgt := 73) d_Y_countArcs_5 (by decide) rfl (fun c5 => absurd c5 (by rw [show (8 : Int32) = nI 8 from rfl]; exact nI_ge hi (by decide))) (fun _ => ?_)
    refine wp_aload_n (q := 9) d_Y_countArcs_8 rfl rfl rfl ?_
    refine wp_get (q := 12) (k := 11) d_Y_countArcs_9 rfl ok_Y (Nat.le_of_ble_eq_true rfl) fk_Y_22 hY1.1 rfl ?_
    refine wp_iload_n (q := 13) d_Y_countArcs_12 rfl rfl rfl ?_
    refine wp_iload_n (q := 14) d_Y_countArcs_13 rfl rfl rfl ?_
    refine wp_aload_n (q := 15) d_Y_countArcs_14 rfl rfl rfl ?_
    refine wp_get (q := 18) (k := 0) d_Y_countArcs_15 rfl ok_Y (Nat.le_of_ble_eq_true rfl) fk_Y_63 hY1.1 rfl ?_
    refine wp_icmp_ge (q := 21) (tgt := 40) d_Y_countArcs_18 (by decide) rfl (fun c18 => ?_) (fun c18 => ?_)
    · have eyc : pu_yc n P H i = 0 := by unfold pu_yc; rw [if_neg (fun h => absurd c18 (nI_ge h.1 (by omega)))]
      refine wp_iconst (q := 41) (v := 0) d_Y_countArcs_40 rfl (by decide) ?_
      rw [show (0 : Int32) = nI 0 from rfl]
      refine wp_iastoreN (q := 42) d_Y_countArcs_41 rfl h40 rfl hi (by decide) rfl ?_
      refine wp_iload_n (q := 43) d_Y_countArcs_42 rfl rfl rfl ?_
      refine wp_if_lt (q := 46) (tgt := 60) d_Y_countArcs_43 (by decide) rfl (fun _ => ?_) (fun c43 => absurd (by decide) c43)
      rw [show upd (pu_mx g f1 i) i (nI 0) = pu_mx g f1 (i + 1) by rw [← pu_mx_s, hgi, eyc]]
      have f2' := fr.put (a := 40) (c := .inl (0, 8, .inl (pu_mx g f1 (i + 1)))) (by decide) h40 rfl
      have hY2 := hY.s f2' (by decide)
      refine wp_aload_n (q := 61) d_Y_countArcs_60 rfl rfl rfl ?_
      refine wp_get (q := 64) (k := 12) d_Y_countArcs_61 rfl ok_Y (Nat.le_of_ble_eq_true rfl) fk_Y_25 hY2.1 rfl ?_
      refine wp_iload_n (q := 65) d_Y_countArcs_64 rfl rfl rfl ?_
      refine wp_iconst (q := 66) (v := 0) d_Y_countArcs_65 rfl (by decide) ?_
      refine wp_iastoreN (w' := (w1.set 40 (.inl (0, 8, .inl (pu_mx g f1 (i + 1))))).set 41 (.inl (0, 8, .inl (pu_mx (fun _ => 0) f2 (i + 1))))) (q := 67) d_Y_countArcs_66 rfl (am_at_ne (by decide) h41) rfl hi (by decide) (by rw [← pu_mx_s (g := fun _ => 0)]; rfl) ?_
      refine wp_inc1 (q := 70) d_Y_countArcs_67 rfl rfl (nI_1 _) (Nat.le_of_ble_eq_true rfl) rfl ?_
      refine wp_goto (tgt := 2) d_Y_countArcs_70 (by decide) ?_
      exact ih _ f1 f2 (f2'.put (by decide) (am_at_ne (by decide) h41) (by rfl)) (am_at_ne (by decide) (am_at_eq h40)) (am_at_eq (am_at_ne (by decide) h41))
    · refine wp_aload_n (q := 22) d_Y_countArcs_21 rfl rfl rfl ?_
      refine wp_get (q := 25) (k := 3) d_Y_countArcs_22 rfl ok_Y (Nat.le_of_ble_eq_true rfl) fk_Y_13 hY1.1 rfl ?_
      refine wp_iload_n (q := 26) d_Y_countArcs_25 rfl rfl rfl ?_
      refine wp_ialoadN (q := 27) d_Y_countArcs_26 rfl hY1.2.2.1 rfl hi (by decide) ?_
      refine wp_iconst (q := 28) (v := -1) d_Y_countArcs_27 rfl (by decide) ?_
      refine wp_icmp_ne (q := 31) (tgt := 40) d_Y_countArcs_28 (by decide) rfl (fun c28 => ?_) (fun c28 => ?_)
      · have eyc : pu_yc n P H i = 0 := by unfold pu_yc; rw [if_neg (fun h => c28 h.2)]
        refine wp_iconst (q := 41) (v := 0) d_Y_countArcs_40 rfl (by decide) ?_
        rw [show (0 : Int32) = nI 0 from rfl]
        refine wp_iastoreN (q := 42) d_Y_countArcs_41 rfl h40 rfl hi (by decide) rfl ?_
        refine wp_iload_n (q := 43) d_Y_countArcs_42 rfl rfl rfl ?_
        refine wp_if_lt (q := 46) (tgt := 60) d_Y_countArcs_43 (by decide) rfl (fun _ => ?_) (fun c43 => absurd (by decide) c43)
        rw [show upd (pu_mx g f1 i) i (nI 0) = pu_mx g f1 (i + 1) by rw [← pu_mx_s, hgi, eyc]]
        have f2' := fr.put (a := 40) (c := .inl (0, 8, .inl (pu_mx g f1 (i + 1)))) (by decide) h40 rfl
        have hY2 := hY.s f2' (by decide)
        refine wp_aload_n (q := 61) d_Y_countArcs_60 rfl rfl rfl ?_
        refine wp_get (q := 64) (k := 12) d_Y_countArcs_61 rfl ok_Y (Nat.le_of_ble_eq_true rfl) fk_Y_25 hY2.1 rfl ?_
        refine wp_iload_n (q := 65) d_Y_countArcs_64 rfl rfl rfl ?_
        refine wp_iconst (q := 66) (v := 0) d_Y_countArcs_65 rfl (by decide) ?_
        refine wp_iastoreN (w' := (w1.set 40 (.inl (0, 8, .inl (pu_mx g f1 (i + 1))))).set 41 (.inl (0, 8, .inl (pu_mx (fun _ => 0) f2 (i + 1))))) (q := 67) d_Y_countArcs_66 rfl (am_at_ne (by decide) h41) rfl hi (by decide) (by rw [← pu_mx_s (g := fun _ => 0)]; rfl) ?_
        refine wp_inc1 (q := 70) d_Y_countArcs_67 rfl rfl (nI_1 _) (Nat.le_of_ble_eq_true rfl) rfl ?_
        refine wp_goto (tgt := 2) d_Y_countArcs_70 (by decide) ?_
        exact ih _ f1 f2 (f2'.put (by decide) (am_at_ne (by decide) h41) (by rfl)) (am_at_ne (by decide) (am_at_eq h40)) (am_at_eq (am_at_ne (by decide) h41))
      · have eyc : pu_yc n P H i = P i := by unfold pu_yc; rw [if_pos ⟨Nat.lt_of_not_le (fun h => c18 (nI_le h (by omega))), c28⟩]
        refine wp_aload_n (q := 32) d_Y_countArcs_31 rfl rfl rfl ?_
        refine wp_get (q := 35) (k := 2) d_Y_countArcs_32 rfl ok_Y (Nat.le_of_ble_eq_true rfl) fk_Y_7 hY1.1 rfl ?_
        refine wp_iload_n (q := 36) d_Y_countArcs_35 rfl rfl rfl ?_
        refine wp_ialoadN (q := 37) d_Y_countArcs_36 rfl hY1.2.1 rfl hi (by decide) ?_
        refine wp_goto (tgt := 41) d_Y_countArcs_37 (by decide) ?_
        refine wp_iastoreN (q := 42) d_Y_countArcs_41 rfl h40 rfl hi (by decide) rfl ?_
        refine wp_iload_n (q := 43) d_Y_countArcs_42 rfl rfl rfl ?_
        refine wp_if_lt (q := 46) (tgt := 60) d_Y_countArcs_43 (by decide) rfl (fun _ => ?_) (fun c43 => absurd (by decide) c43)
        rw [show upd (pu_mx g f1 i) i (nI (P i)) = pu_mx g f1 (i + 1) by rw [← pu_mx_s, hgi, eyc]]
        have f2' := fr.put (a := 40) (c := .inl (0, 8, .inl (pu_mx g f1 (i + 1)))) (by decide) h40 rfl
        have hY2 := hY.s f2' (by decide)
        refine wp_aload_n (q := 61) d_Y_countArcs_60 rfl rfl rfl ?_
        refine wp_get (q := 64) (k := 12) d_Y_countArcs_61 rfl ok_Y (Nat.le_of_ble_eq_true rfl) fk_Y_25 hY2.1 rfl ?_
        refine wp_iload_n (q := 65) d_Y_countArcs_64 rfl rfl rfl ?_
        refine wp_iconst (q := 66) (v := 0) d_Y_countArcs_65 rfl (by decide) ?_
        refine wp_iastoreN (w' := (w1.set 40 (.inl (0, 8, .inl (pu_mx g f1 (i + 1))))).set 41 (.inl (0, 8, .inl (pu_mx (fun _ => 0) f2 (i + 1))))) (q := 67) d_Y_countArcs_66 rfl (am_at_ne (by decide) h41) rfl hi (by decide) (by rw [← pu_mx_s (g := fun _ => 0)]; rfl) ?_
        refine wp_inc1 (q := 70) d_Y_countArcs_67 rfl rfl (nI_1 _) (Nat.le_of_ble_eq_true rfl) rfl ?_
        refine wp_goto (tgt := 2) d_Y_countArcs_70 (by decide) ?_
        exact ih _ f1 f2 (f2'.put (by decide) (am_at_ne (by decide) h41) (by rfl)) (am_at_ne (by decide) (am_at_eq h40)) (am_at_eq (am_at_ne (by decide) h41))
set_option maxHeartbeats 4000000 in
set_option maxRecDepth 100000 in
theorem y_countN {n k : Nat} {P : Nat → Nat} {H : Nat → Int32} {O : Nat → Nat} {ik : Bool} {kn : Nat} {KP : Nat → Nat} {ic : Bool} {fz sm : Nat} {w : am_W} (hY : YI n k P H O ik kn KP ic fz sm w) (hn : n ≤ 8) {g : Nat → Nat} (hg : ∀ i, g i < 256) (hgg : ∀ i, g i = pu_yc n P H i) : am_Wp none m_Y_countArcs 0 0 0 0 [(0, .ref 35), (1, .int (-1))] [] w (fun v w2 => v = none ∧ YF [40, 41] w w2 ∧ CT g w2) := by
  obtain ⟨f1, h40⟩ := hY.2.2.2.2.2.1.i
  obtain ⟨f2, h41⟩ := hY.2.2.2.2.2.2.1.i
  refine wp_iconst (q := 1) (v := 0) d_Y_countArcs_0 rfl (by decide) ?_
  refine wp_istore_n (q := 2) d_Y_countArcs_1 rfl rfl (Nat.le_of_ble_eq_true rfl) rfl ?_
  exact y_countN_L hY hn hg hgg 0 (by decide) w f1 f2 YF.rf (by rw [pu_mx_0]; exact h40) (by rw [pu_mx_0]; exact h41)
set_option maxHeartbeats 4000000 in
set_option maxRecDepth 100000 in
theorem y_countW_L {n k : Nat} {P : Nat → Nat} {H : Nat → Int32} {O : Nat → Nat} {ik : Bool} {kn : Nat} {KP : Nat → Nat} {ic : Bool} {fz sm : Nat} {w : am_W} (hY : YI n k P H O ik kn KP ic fz sm w) (hn : n ≤ 8) {g : Nat → Nat} (hg : ∀ i, g i < 256) {y : Nat} (hy : y < 8) (hgg : ∀ i, g i = pu_dif (pu_yc n P H i) (2 ^ y)) : ∀ i, i ≤ 8 → ∀ w1 f1 f2, YF [40, 41] w w1 → w1[40]? = some (.inl (0, 8, .inl (pu_mx g f1 i))) → w1[41]? = some (.inl (0, 8, .inl (pu_mx (fun _ => 0) f2 i))) → am_Wp none m_Y_countArcs 0 0 0 2 [(0, .ref 35), (1, .int (nI y)), (2, .int (nI i))] [] w1 (fun v w2 => v = none ∧ YF [40, 41] w w2 ∧ CT g w2) := by
  refine pu_up (P := fun i => ∀ w1 f1 f2, YF [40, 41] w w1 → w1[40]? = some (.inl (0, 8, .inl (pu_mx g f1 i))) → w1[41]? = some (.inl (0, 8, .inl (pu_mx (fun _ => 0) f2 i))) → am_Wp none m_Y_countArcs 0 0 0 2 [(0, .ref 35), (1, .int (nI y)), (2, .int (nI i))] [] w1 (fun v w2 => v = none ∧ YF [40, 41] w w2 ∧ CT g w2)) ?_ ?_
  · intro w1 f1 f2 fr h40 h41
    refine wp_iload_n (q := 3) d_Y_countArcs_2 rfl rfl rfl ?_
    refine wp_bipush (q := 5) (v := 8) d_Y_countArcs_3 rfl (by decide) ?_
    refine wp_icmp_ge (q := 8) (tgt := 73) d_Y_countArcs_5 (by decide) rfl (fun _ => ?_) (fun c5 => absurd (by decide) c5)
    refine wp_iconst (q := 74) (v := 0) d_Y_countArcs_73 rfl (by decide) ?_
    refine wp_istore_n (q := 75) d_Y_countArcs_74 rfl rfl (Nat.le_of_ble_eq_true rfl) rfl ?_
    refine wp_lo [(0, .ref 35), (1, .int (nI y)), (2, .int (nI 0))] ⟨rfl, rfl, rfl, trivial⟩ ?_
    refine wp_chg (g := fun i => nI (g i)) h40 (fun j hj => pu_mx_at hj) rfl ?_
    refine wp_chg (g := fun i => nI (pu_ych g 0 i)) (am_at_ne (by decide) h41) (fun j hj => pu_mx_at hj) rfl ?_
    exact y_count_2 hY hg 0 (by decide) _ ((fr.put (by decide) h40 (by rfl)).put (by decide) (am_at_ne (by decide) h41) (by rfl)) (am_at_ne (by decide) (am_at_eq h40)) (am_at_eq (am_at_ne (by decide) h41))
  · intro i hi ih w1 f1 f2 fr h40 h41
    have hY1 := hY.s fr (by decide)
    have hgi := hgg i
    refine wp_iload_n (q := 3) d_Y_countArcs_2 rfl rfl rfl ?_
    refine wp_bipush (q := 5) (v := 8) d_Y_countArcs_3 rfl (by decide) ?_
    refine wp_icmp_ge (q := 8) (tgt := 73) d_Y_countArcs_5 (by decide) rfl (fun c5 => absurd c5 (by rw [show (8 : Int32) = nI 8 from rfl]; exact nI_ge hi (by decide))) (fun _ => ?_)
    refine wp_aload_n (q := 9) d_Y_countArcs_8 rfl rfl rfl ?_
    refine wp_get (q := 12) (k := 11) d_Y_countArcs_9 rfl ok_Y (Nat.le_of_ble_eq_true rfl) fk_Y_22 hY1.1 rfl ?_
    refine wp_iload_n (q := 13) d_Y_countArcs_12 rfl rfl rfl ?_
    refine wp_iload_n (q := 14) d_Y_countArcs_13 rfl rfl rfl ?_
    refine wp_aload_n (q := 15) d_Y_countArcs_14 rfl rfl rfl ?_
    refine wp_get (q := 18) (k := 0) d_Y_countArcs_15 rfl ok_Y (Nat.le_of_ble_eq_true rfl) fk_Y_63 hY1.1 rfl ?_
    refine wp_icmp_ge (q := 21) (tgt := 40) d_Y_countArcs_18 (by decide) rfl (fun c18 => ?_) (fun c18 => ?_)
    · have eyc : pu_yc n P H i = 0 := by unfold pu_yc; rw [if_neg (fun h => absurd c18 (nI_ge h.1 (by omega)))]
      refine wp_iconst (q := 41) (v := 0) d_Y_countArcs_40 rfl (by decide) ?_
      rw [show (0 : Int32) = nI 0 from rfl]
      refine wp_iastoreN (q := 42) d_Y_countArcs_41 rfl h40 rfl hi (by decide) rfl ?_
      have hZ := fr.put (a := 40) (c := .inl (0, 8, .inl (upd (pu_mx g f1 i) i (nI 0)))) (by decide) h40 rfl
      have hYa := hY.s hZ (by decide)
      refine wp_iload_n (q := 43) d_Y_countArcs_42 rfl rfl rfl ?_
      refine wp_if_lt (q := 46) (tgt := 60) d_Y_countArcs_43 (by decide) rfl (fun c43 => absurd c43 (nI_pos (by omega))) (fun _ => ?_)
      refine wp_aload_n (q := 47) d_Y_countArcs_46 rfl rfl rfl ?_
      refine wp_get (q := 50) (k := 11) d_Y_countArcs_47 rfl ok_Y (Nat.le_of_ble_eq_true rfl) fk_Y_22 hYa.1 rfl ?_
      refine wp_iload_n (q := 51) d_Y_countArcs_50 rfl rfl rfl ?_
      refine wp_dup2 (q := 52) d_Y_countArcs_51 rfl rfl rfl ?_
      refine wp_ialoadN (q := 53) d_Y_countArcs_52 rfl (am_at_eq h40) rfl hi (by decide) ?_
      rw [show upd (pu_mx g f1 i) i (nI 0) i = nI 0 by unfold upd; rw [if_pos rfl]]
      refine wp_iconst (q := 54) (v := 1) d_Y_countArcs_53 rfl (by decide) ?_
      refine wp_iload_n (q := 55) d_Y_countArcs_54 rfl rfl rfl ?_
      refine wp_ishl (q := 56) d_Y_countArcs_55 rfl ?_
      rw [pu_bit y (by omega)]
      refine wp_iconst (q := 57) (v := -1) d_Y_countArcs_56 rfl (by decide) ?_
      refine wp_ixor (q := 58) d_Y_countArcs_57 rfl ?_
      refine wp_iand (q := 59) d_Y_countArcs_58 rfl ?_
      rw [pu_not]
      refine wp_iastoreN (w' := w1.set 40 (.inl (0, 8, .inl (pu_mx g f1 (i + 1))))) (q := 60) d_Y_countArcs_59 rfl (am_at_eq h40) rfl hi (by decide) (by rw [List.set_set, ← pu_mx_s, hgi, eyc, show upd (upd (pu_mx g f1 i) i (nI 0)) i (nI (pu_dif 0 (2 ^ y))) = upd (pu_mx g f1 i) i (nI (pu_dif 0 (2 ^ y))) by funext q; unfold upd; by_cases h : q = i <;> simp [h]]) ?_
      have f2' := fr.put (a := 40) (c := .inl (0, 8, .inl (pu_mx g f1 (i + 1)))) (by decide) h40 rfl
      have hY2 := hY.s f2' (by decide)
      refine wp_aload_n (q := 61) d_Y_countArcs_60 rfl rfl rfl ?_
      refine wp_get (q := 64) (k := 12) d_Y_countArcs_61 rfl ok_Y (Nat.le_of_ble_eq_true rfl) fk_Y_25 hY2.1 rfl ?_
      refine wp_iload_n (q := 65) d_Y_countArcs_64 rfl rfl rfl ?_
      refine wp_iconst (q := 66) (v := 0) d_Y_countArcs_65 rfl (by decide) ?_
      refine wp_iastoreN (w' := (w1.set 40 (.inl (0, 8, .inl (pu_mx g f1 (i + 1))))).set 41 (.inl (0, 8, .inl (pu_mx (fun _ => 0) f2 (i + 1))))) (q := 67) d_Y_countArcs_66 rfl (am_at_ne (by decide) h41) rfl hi (by decide) (by rw [← pu_mx_s (g := fun _ => 0)]; rfl) ?_
      refine wp_inc1 (q := 70) d_Y_countArcs_67 rfl rfl (nI_1 _) (Nat.le_of_ble_eq_true rfl) rfl ?_
      refine wp_goto (tgt := 2) d_Y_countArcs_70 (by decide) ?_
      exact ih _ f1 f2 (f2'.put (by decide) (am_at_ne (by decide) h41) (by rfl)) (am_at_ne (by decide) (am_at_eq h40)) (am_at_eq (am_at_ne (by decide) h41))
    · refine wp_aload_n (q := 22) d_Y_countArcs_21 rfl rfl rfl ?_
      refine wp_get (q := 25) (k := 3) d_Y_countArcs_22 rfl ok_Y (Nat.le_of_ble_eq_true rfl) fk_Y_13 hY1.1 rfl ?_
      refine wp_iload_n (q := 26) d_Y_countArcs_25 rfl rfl rfl ?_
      refine wp_ialoadN (q := 27) d_Y_countArcs_26 rfl hY1.2.2.1 rfl hi (by decide) ?_
      refine wp_iconst (q := 28) (v := -1) d_Y_countArcs_27 rfl (by decide) ?_
      refine wp_icmp_ne (q := 31) (tgt := 40) d_Y_countArcs_28 (by decide) rfl (fun c28 => ?_) (fun c28 => ?_)
      · have eyc : pu_yc n P H i = 0 := by unfold pu_yc; rw [if_neg (fun h => c28 h.2)]
        refine wp_iconst (q := 41) (v := 0) d_Y_countArcs_40 rfl (by decide) ?_
        rw [show (0 : Int32) = nI 0 from rfl]
        refine wp_iastoreN (q := 42) d_Y_countArcs_41 rfl h40 rfl hi (by decide) rfl ?_
        have hZ := fr.put (a := 40) (c := .inl (0, 8, .inl (upd (pu_mx g f1 i) i (nI 0)))) (by decide) h40 rfl
        have hYa := hY.s hZ (by decide)
        refine wp_iload_n (q := 43) d_Y_countArcs_42 rfl rfl rfl ?_
        refine wp_if_lt (q := 46) (tgt := 60) d_Y_countArcs_43 (by decide) rfl (fun c43 => absurd c43 (nI_pos (by omega))) (fun _ => ?_)
        refine wp_aload_n (q := 47) d_Y_countArcs_46 rfl rfl rfl ?_
        refine wp_get (q := 50) (k := 11) d_Y_countArcs_47 rfl ok_Y (Nat.le_of_ble_eq_true rfl) fk_Y_22 hYa.1 rfl ?_
        refine wp_iload_n (q := 51) d_Y_countArcs_50 rfl rfl rfl ?_
        refine wp_dup2 (q := 52) d_Y_countArcs_51 rfl rfl rfl ?_
        refine wp_ialoadN (q := 53) d_Y_countArcs_52 rfl (am_at_eq h40) rfl hi (by decide) ?_
        rw [show upd (pu_mx g f1 i) i (nI 0) i = nI 0 by unfold upd; rw [if_pos rfl]]
        refine wp_iconst (q := 54) (v := 1) d_Y_countArcs_53 rfl (by decide) ?_
        refine wp_iload_n (q := 55) d_Y_countArcs_54 rfl rfl rfl ?_
        refine wp_ishl (q := 56) d_Y_countArcs_55 rfl ?_
        rw [pu_bit y (by omega)]
        refine wp_iconst (q := 57) (v := -1) d_Y_countArcs_56 rfl (by decide) ?_
        refine wp_ixor (q := 58) d_Y_countArcs_57 rfl ?_
        refine wp_iand (q := 59) d_Y_countArcs_58 rfl ?_
        rw [pu_not]
        refine wp_iastoreN (w' := w1.set 40 (.inl (0, 8, .inl (pu_mx g f1 (i + 1))))) (q := 60) d_Y_countArcs_59 rfl (am_at_eq h40) rfl hi (by decide) (by rw [List.set_set, ← pu_mx_s, hgi, eyc, show upd (upd (pu_mx g f1 i) i (nI 0)) i (nI (pu_dif 0 (2 ^ y))) = upd (pu_mx g f1 i) i (nI (pu_dif 0 (2 ^ y))) by funext q; unfold upd; by_cases h : q = i <;> simp [h]]) ?_
        have f2' := fr.put (a := 40) (c := .inl (0, 8, .inl (pu_mx g f1 (i + 1)))) (by decide) h40 rfl
        have hY2 := hY.s f2' (by decide)
        refine wp_aload_n (q := 61) d_Y_countArcs_60 rfl rfl rfl ?_
        refine wp_get (q := 64) (k := 12) d_Y_countArcs_61 rfl ok_Y (Nat.le_of_ble_eq_true rfl) fk_Y_25 hY2.1 rfl ?_
        refine wp_iload_n (q := 65) d_Y_countArcs_64 rfl rfl rfl ?_
        refine wp_iconst (q := 66) (v := 0) d_Y_countArcs_65 rfl (by decide) ?_
        refine wp_iastoreN (w' := (w1.set 40 (.inl (0, 8, .inl (pu_mx g f1 (i + 1))))).set 41 (.inl (0, 8, .inl (pu_mx (fun _ => 0) f2 (i + 1))))) (q := 67) d_Y_countArcs_66 rfl (am_at_ne (by decide) h41) rfl hi (by decide) (by rw [← pu_mx_s (g := fun _ => 0)]; rfl) ?_
        refine wp_inc1 (q := 70) d_Y_countArcs_67 rfl rfl (nI_1 _) (Nat.le_of_ble_eq_true rfl) rfl ?_
        refine wp_goto (tgt := 2) d_Y_countArcs_70 (by decide) ?_
        exact ih _ f1 f2 (f2'.put (by decide) (am_at_ne (by decide) h41) (by rfl)) (am_at_ne (by decide) (am_at_eq h40)) (am_at_eq (am_at_ne (by decide) h41))
      · have eyc : pu_yc n P H i = P i := by unfold pu_yc; rw [if_pos ⟨Nat.lt_of_not_le (fun h => c18 (nI_le h (by omega))), c28⟩]
        refine wp_aload_n (q := 32) d_Y_countArcs_31 rfl rfl rfl ?_
        refine wp_get (q := 35) (k := 2) d_Y_countArcs_32 rfl ok_Y (Nat.le_of_ble_eq_true rfl) fk_Y_7 hY1.1 rfl ?_
        refine wp_iload_n (q := 36) d_Y_countArcs_35 rfl rfl rfl ?_
        refine wp_ialoadN (q := 37) d_Y_countArcs_36 rfl hY1.2.1 rfl hi (by decide) ?_
        refine wp_goto (tgt := 41) d_Y_countArcs_37 (by decide) ?_
        refine wp_iastoreN (q := 42) d_Y_countArcs_41 rfl h40 rfl hi (by decide) rfl ?_
        have hZ := fr.put (a := 40) (c := .inl (0, 8, .inl (upd (pu_mx g f1 i) i (nI (P i))))) (by decide) h40 rfl
        have hYa := hY.s hZ (by decide)
        refine wp_iload_n (q := 43) d_Y_countArcs_42 rfl rfl rfl ?_
        refine wp_if_lt (q := 46) (tgt := 60) d_Y_countArcs_43 (by decide) rfl (fun c43 => absurd c43 (nI_pos (by omega))) (fun _ => ?_)
        refine wp_aload_n (q := 47) d_Y_countArcs_46 rfl rfl rfl ?_
        refine wp_get (q := 50) (k := 11) d_Y_countArcs_47 rfl ok_Y (Nat.le_of_ble_eq_true rfl) fk_Y_22 hYa.1 rfl ?_
        refine wp_iload_n (q := 51) d_Y_countArcs_50 rfl rfl rfl ?_
        refine wp_dup2 (q := 52) d_Y_countArcs_51 rfl rfl rfl ?_
        refine wp_ialoadN (q := 53) d_Y_countArcs_52 rfl (am_at_eq h40) rfl hi (by decide) ?_
        rw [show upd (pu_mx g f1 i) i (nI (P i)) i = nI (P i) by unfold upd; rw [if_pos rfl]]
        refine wp_iconst (q := 54) (v := 1) d_Y_countArcs_53 rfl (by decide) ?_
        refine wp_iload_n (q := 55) d_Y_countArcs_54 rfl rfl rfl ?_
        refine wp_ishl (q := 56) d_Y_countArcs_55 rfl ?_
        rw [pu_bit y (by omega)]
        refine wp_iconst (q := 57) (v := -1) d_Y_countArcs_56 rfl (by decide) ?_
        refine wp_ixor (q := 58) d_Y_countArcs_57 rfl ?_
        refine wp_iand (q := 59) d_Y_countArcs_58 rfl ?_
        rw [pu_not]
        refine wp_iastoreN (w' := w1.set 40 (.inl (0, 8, .inl (pu_mx g f1 (i + 1))))) (q := 60) d_Y_countArcs_59 rfl (am_at_eq h40) rfl hi (by decide) (by rw [List.set_set, ← pu_mx_s, hgi, eyc, show upd (upd (pu_mx g f1 i) i (nI (P i))) i (nI (pu_dif (P i) (2 ^ y))) = upd (pu_mx g f1 i) i (nI (pu_dif (P i) (2 ^ y))) by funext q; unfold upd; by_cases h : q = i <;> simp [h]]) ?_
        have f2' := fr.put (a := 40) (c := .inl (0, 8, .inl (pu_mx g f1 (i + 1)))) (by decide) h40 rfl
        have hY2 := hY.s f2' (by decide)
        refine wp_aload_n (q := 61) d_Y_countArcs_60 rfl rfl rfl ?_
        refine wp_get (q := 64) (k := 12) d_Y_countArcs_61 rfl ok_Y (Nat.le_of_ble_eq_true rfl) fk_Y_25 hY2.1 rfl ?_
        refine wp_iload_n (q := 65) d_Y_countArcs_64 rfl rfl rfl ?_
        refine wp_iconst (q := 66) (v := 0) d_Y_countArcs_65 rfl (by decide) ?_
        refine wp_iastoreN (w' := (w1.set 40 (.inl (0, 8, .inl (pu_mx g f1 (i + 1))))).set 41 (.inl (0, 8, .inl (pu_mx (fun _ => 0) f2 (i + 1))))) (q := 67) d_Y_countArcs_66 rfl (am_at_ne (by decide) h41) rfl hi (by decide) (by rw [← pu_mx_s (g := fun _ => 0)]; rfl) ?_
        refine wp_inc1 (q := 70) d_Y_countArcs_67 rfl rfl (nI_1 _) (Nat.le_of_ble_eq_true rfl) rfl ?_
        refine wp_goto (tgt := 2) d_Y_countArcs_70 (by decide) ?_
        exact ih _ f1 f2 (f2'.put (by decide) (am_at_ne (by decide) h41) (by rfl)) (am_at_ne (by decide) (am_at_eq h40)) (am_at_eq (am_at_ne (by decide) h41))
set_option maxHeartbeats 4000000 in
set_option maxRecDepth 100000 in
theorem y_countW {n k : Nat} {P : Nat → Nat} {H : Nat → Int32} {O : Nat → Nat} {ik : Bool} {kn : Nat} {KP : Nat → Nat} {ic : Bool} {fz sm : Nat} {w : am_W} (hY : YI n k P H O ik kn KP ic fz sm w) (hn : n ≤ 8) {g : Nat → Nat} (hg : ∀ i, g i < 256) {y : Nat} (hy : y < 8) (hgg : ∀ i, g i = pu_dif (pu_yc n P H i) (2 ^ y)) : am_Wp none m_Y_countArcs 0 0 0 0 [(0, .ref 35), (1, .int (nI y))] [] w (fun v w2 => v = none ∧ YF [40, 41] w w2 ∧ CT g w2) := by
  obtain ⟨f1, h40⟩ := hY.2.2.2.2.2.1.i
  obtain ⟨f2, h41⟩ := hY.2.2.2.2.2.2.1.i
  refine wp_iconst (q := 1) (v := 0) d_Y_countArcs_0 rfl (by decide) ?_
  refine wp_istore_n (q := 2) d_Y_countArcs_1 rfl rfl (Nat.le_of_ble_eq_true rfl) rfl ?_
  exact y_countW_L hY hn hg hy hgg 0 (by decide) w f1 f2 YF.rf (by rw [pu_mx_0]; exact h40) (by rw [pu_mx_0]; exact h41)
set_option maxHeartbeats 4000000 in
set_option maxRecDepth 100000 in
theorem y_below {n k : Nat} {P : Nat → Nat} {H : Nat → Int32} {O : Nat → Nat} {ik : Bool} {kn : Nat} {KP : Nat → Nat} {ic : Bool} {fz sm : Nat} {w : am_W} (hY : YI n k P H O ik kn KP ic fz sm w) {g : Nat → Nat} (hT : CT g w) {i : Nat} (hi : i < 8) : am_Wp none m_Y_belowOf 1 0 0 0 [(0, .ref 35), (1, .int (nI i))] [] w (am_R (some (.int (nI (pu_cl (pu_ych g 8) 8 8 (pu_ych g 8 i))))) w) := by
  refine wp_aload_n (q := 1) d_Y_belowOf_0 rfl rfl rfl ?_
  refine wp_aload_n (q := 2) d_Y_belowOf_1 rfl rfl rfl ?_
  refine wp_get (q := 5) (k := 12) d_Y_belowOf_2 rfl ok_Y (Nat.le_of_ble_eq_true rfl) fk_Y_25 hY.1 rfl ?_
  refine wp_aload_n (q := 6) d_Y_belowOf_5 rfl rfl rfl ?_
  refine wp_get (q := 9) (k := 12) d_Y_belowOf_6 rfl ok_Y (Nat.le_of_ble_eq_true rfl) fk_Y_25 hY.1 rfl ?_
  refine wp_iload_n (q := 10) d_Y_belowOf_9 rfl rfl rfl ?_
  refine wp_ialoadN (q := 11) d_Y_belowOf_10 rfl hT.2 rfl hi (by decide) ?_
  refine wp_cV2r (q := 14) d_Y_belowOf_11 rfl bd_Y_aboveOf lk_Y_88 im_Y_aboveOf se_Y_aboveOf rfl (Nat.le_of_ble_eq_true rfl) (Nat.le_of_ble_eq_true rfl) hY.1 (Nat.le_of_ble_eq_true rfl) (y_above hT.2 (pu_ych_lt (by decide)) (pu_ych_lt (by decide) i)) ?_
  exact wp_ireturn rfl d_Y_belowOf_14 ⟨rfl, rfl⟩
set_option maxHeartbeats 4000000 in
set_option maxRecDepth 100000 in
theorem y_sep_I {n k : Nat} {P : Nat → Nat} {H : Nat → Int32} {O : Nat → Nat} {ik : Bool} {kn : Nat} {KP : Nat → Nat} {ic : Bool} {fz sm : Nat} {w : am_W} (hY : YI n k P H O ik kn KP ic fz sm w) {r : Nat} {g : Nat → Nat} {a b s : Nat} (hn : n ≤ 8) (hg : ∀ i, g i < 2 ^ n) (ha : a < n) (hb : b < n) (hs : s < 2 ^ n) {nf : Nat → Int32} (hN : w[42]? = some (.inl (0, 8, .inl nf))) (hnf : ∀ j, j < n → nf j = nI (pu_nr g (pu_all g a b s) n j)) {al z : Int32} {F : Option Value → am_W → Prop} : ∀ (k9 p x : Nat), p + k9 = 9 → x < 2 ^ n → (∀ q, am_Wp none m_Y_isSeparated 1 0 0 220 [(0, .ref 35), (1, .ref r), (2, .int (nI a)), (3, .int (nI b)), (4, .int (nI s)), (5, .int al), (6, .int (nI (pu_in (pu_gs g n a b s) k9 p x))), (7, .int z), (8, .int (nI q))] [] w F) → am_Wp none m_Y_isSeparated 1 0 0 174 [(0, .ref 35), (1, .ref r), (2, .int (nI a)), (3, .int (nI b)), (4, .int (nI s)), (5, .int al), (6, .int (nI x)), (7, .int z), (8, .int (nI p))] [] w F := by
  have hp28 := pu_p2e hn
  intro k9
  induction k9 with
  | zero =>
    intro p x hp hx hout
    refine wp_iload (q := 176) d_Y_isSeparated_174 rfl rfl ?_
    refine wp_iload (q := 178) d_Y_isSeparated_176 rfl rfl ?_
    refine wp_ishr (q := 179) d_Y_isSeparated_178 rfl ?_
    rw [pk_shrN (by omega) _ p (pu_sh p (by omega))]
    refine wp_if_eq (q := 182) (tgt := 220) d_Y_isSeparated_179 (by decide) rfl (fun _ => ?_) (fun c179 => absurd (by rw [Nat.div_eq_of_lt (Nat.lt_of_lt_of_le (show x < 2 ^ 8 from Nat.lt_of_lt_of_le hx hp28) (Nat.pow_le_pow_right (n := 2) (by decide) (by omega)))]; exact nI_0) c179)
    exact hout p
  | succ k9 ih =>
    intro p x hp hx hout
    refine wp_iload (q := 176) d_Y_isSeparated_174 rfl rfl ?_
    refine wp_iload (q := 178) d_Y_isSeparated_176 rfl rfl ?_
    refine wp_ishr (q := 179) d_Y_isSeparated_178 rfl ?_
    rw [pk_shrN (by omega) _ p (pu_sh p (by omega))]
    refine wp_if_eq (q := 182) (tgt := 220) d_Y_isSeparated_179 (by decide) rfl (fun c179 => ?_) (fun c179 => ?_)
    · have e : pu_in (pu_gs g n a b s) (k9 + 1) p x = x := by unfold pu_in; rw [if_pos (pu_nI_inj (Nat.lt_of_le_of_lt (Nat.div_le_self _ _) (by omega)) (by decide) (c179.trans nI_0.symm))]
      rw [e] at hout
      exact hout p
    · have hz : ¬ x / 2 ^ p = 0 := fun e => c179 (by rw [e]; exact nI_0)
      refine wp_iload (q := 184) d_Y_isSeparated_182 rfl rfl ?_
      refine wp_iload (q := 186) d_Y_isSeparated_184 rfl rfl ?_
      refine wp_iload (q := 188) d_Y_isSeparated_186 rfl rfl ?_
      refine wp_ishr (q := 189) d_Y_isSeparated_188 rfl ?_
      refine wp_iconst (q := 190) (v := 1) d_Y_isSeparated_189 rfl (by decide) ?_
      refine wp_iand (q := 191) d_Y_isSeparated_190 rfl ?_
      rw [pu_has (by omega) (by omega)]
      refine wp_iconst (q := 192) (v := 1) d_Y_isSeparated_191 rfl (by decide) ?_
      refine wp_icmp_ne (q := 195) (tgt := 210) d_Y_isSeparated_192 (by decide) rfl (fun c192 => ?_) (fun c192 => ?_)
      · have hb : x.testBit p = false := by cases h : x.testBit p with | false => rfl | true => rw [h] at c192; exact absurd rfl c192
        refine wp_iconst (q := 211) (v := 0) d_Y_isSeparated_210 rfl (by decide) ?_
        refine wp_ior (q := 212) d_Y_isSeparated_211 rfl ?_
        rw [show (0 : Int32) = nI 0 from rfl, pu_or, Nat.or_zero]
        refine wp_istore (q := 214) d_Y_isSeparated_212 rfl (Nat.le_of_ble_eq_true rfl) rfl ?_
        refine wp_inc1 (q := 217) d_Y_isSeparated_214 rfl rfl (nI_1 _) (Nat.le_of_ble_eq_true rfl) rfl ?_
        refine wp_goto (tgt := 174) d_Y_isSeparated_217 (by decide) ?_
        have e : pu_in (pu_gs g n a b s) (k9 + 1) p x = pu_in (pu_gs g n a b s) k9 (p + 1) x := by rw [pu_in, if_neg hz, hb]; rfl
        rw [e] at hout
        exact ih (p + 1) x (by omega) hx hout
      · have hb : x.testBit p = true := pu_h1.mp c192
        have hpn : p < n := pu_bit_lt hx hb
        refine wp_aload_n (q := 196) d_Y_isSeparated_195 rfl rfl rfl ?_
        refine wp_get (q := 199) (k := 13) d_Y_isSeparated_196 rfl ok_Y (Nat.le_of_ble_eq_true rfl) fk_Y_28 hY.1 rfl ?_
        refine wp_iload (q := 201) d_Y_isSeparated_199 rfl rfl ?_
        refine wp_ialoadN (q := 202) d_Y_isSeparated_201 rfl hN rfl (by omega) (by decide) ?_
        rw [hnf p hpn]
        refine wp_iload (q := 204) d_Y_isSeparated_202 rfl rfl ?_
        refine wp_iconst (q := 205) (v := -1) d_Y_isSeparated_204 rfl (by decide) ?_
        refine wp_ixor (q := 206) d_Y_isSeparated_205 rfl ?_
        refine wp_iand (q := 207) d_Y_isSeparated_206 rfl ?_
        rw [pu_not]
        refine wp_goto (tgt := 211) d_Y_isSeparated_207 (by decide) ?_
        refine wp_ior (q := 212) d_Y_isSeparated_211 rfl ?_
        rw [pu_or]
        refine wp_istore (q := 214) d_Y_isSeparated_212 rfl (Nat.le_of_ble_eq_true rfl) rfl ?_
        refine wp_inc1 (q := 217) d_Y_isSeparated_214 rfl rfl (nI_1 _) (Nat.le_of_ble_eq_true rfl) rfl ?_
        refine wp_goto (tgt := 174) d_Y_isSeparated_217 (by decide) ?_
        have e : pu_in (pu_gs g n a b s) (k9 + 1) p x = pu_in (pu_gs g n a b s) k9 (p + 1) (x ||| (pu_gs g n a b s) p) := by rw [pu_in, if_neg hz, hb]; rfl
        rw [e] at hout
        exact ih (p + 1) _ (by omega) (Nat.or_lt_two_pow hx (pu_gs_lt hg p)) hout
set_option maxHeartbeats 4000000 in
set_option maxRecDepth 100000 in
theorem y_sep_O {n k : Nat} {P : Nat → Nat} {H : Nat → Int32} {O : Nat → Nat} {ik : Bool} {kn : Nat} {KP : Nat → Nat} {ic : Bool} {fz sm : Nat} {w : am_W} (hY : YI n k P H O ik kn KP ic fz sm w) {r : Nat} {g : Nat → Nat} {a b s : Nat} (hn : n ≤ 8) (hg : ∀ i, g i < 2 ^ n) (ha : a < n) (hb : b < n) (hs : s < 2 ^ n) {nf : Nat → Int32} (hN : w[42]? = some (.inl (0, 8, .inl nf))) (hnf : ∀ j, j < n → nf j = nI (pu_nr g (pu_all g a b s) n j)) {al : Int32} : ∀ (b9 x : Nat) (z : Int32), 256 - x < b9 → x < 2 ^ n → SU (2 ^ a) x → SU x (pu_cn g n a b s) → ¬ nI x = z → am_Wp none m_Y_isSeparated 1 0 0 151 [(0, .ref 35), (1, .ref r), (2, .int (nI a)), (3, .int (nI b)), (4, .int (nI s)), (5, .int al), (6, .int (nI x)), (7, .int z)] [] w (am_R (some (.int (pu_b (pu_sp g n a b s)))) w) := by
  have hp28 := pu_p2e hn
  have hcl : CLO (pu_gs g n a b s) (2 ^ a) (pu_cn g n a b s) := pu_cl_clo (fun i => pu_lt8 hn (pu_gs_lt hg i)) (pu_p2 (by omega))
  intro b9
  induction b9 with
  | zero => intro x z h; exact absurd h (Nat.not_lt_zero _)
  | succ b9 ih =>
    intro x z hb9 hx h1 h2 hz
    refine wp_iload (q := 153) d_Y_isSeparated_151 rfl rfl ?_
    refine wp_iload (q := 155) d_Y_isSeparated_153 rfl rfl ?_
    refine wp_icmp_eq (q := 158) (tgt := 223) d_Y_isSeparated_155 (by decide) rfl (fun c155 => absurd c155 hz) (fun _ => ?_)
    refine wp_iload (q := 160) d_Y_isSeparated_158 rfl rfl ?_
    refine wp_iload_n (q := 161) d_Y_isSeparated_160 rfl rfl rfl ?_
    refine wp_ishr (q := 162) d_Y_isSeparated_161 rfl ?_
    refine wp_iconst (q := 163) (v := 1) d_Y_isSeparated_162 rfl (by decide) ?_
    refine wp_iand (q := 164) d_Y_isSeparated_163 rfl ?_
    rw [pu_has (by omega) (by omega)]
    refine wp_if_ne (q := 167) (tgt := 223) d_Y_isSeparated_164 (by decide) rfl (fun c164 => ?_) (fun c164 => ?_)
    · have hbx : x.testBit b = true := pu_b1 c164
      refine wp_iload (q := 225) d_Y_isSeparated_223 rfl rfl ?_
      refine wp_iload_n (q := 226) d_Y_isSeparated_225 rfl rfl rfl ?_
      refine wp_ishr (q := 227) d_Y_isSeparated_226 rfl ?_
      refine wp_iconst (q := 228) (v := 1) d_Y_isSeparated_227 rfl (by decide) ?_
      refine wp_iand (q := 229) d_Y_isSeparated_228 rfl ?_
      rw [pu_has (by omega) (by omega)]
      refine wp_if_ne (q := 232) (tgt := 236) d_Y_isSeparated_229 (by decide) rfl (fun _ => ?_) (fun c229 => absurd c229 c164)
      refine wp_iconst (q := 237) (v := 0) d_Y_isSeparated_236 rfl (by decide) ?_
      exact wp_zreturn rfl rfl d_Y_isSeparated_237 ⟨by unfold pu_sp; rw [h2 b hbx]; rfl, rfl⟩
    · have hbx : x.testBit b = false := pu_b0.mp c164
      refine wp_iload (q := 169) d_Y_isSeparated_167 rfl rfl ?_
      refine wp_istore (q := 171) d_Y_isSeparated_169 rfl (Nat.le_of_ble_eq_true rfl) rfl ?_
      refine wp_iconst (q := 172) (v := 0) d_Y_isSeparated_171 rfl (by decide) ?_
      refine wp_istore (q := 174) d_Y_isSeparated_172 rfl (Nat.le_of_ble_eq_true rfl) rfl ?_
      refine y_sep_I hY hn hg ha hb hs hN hnf 9 0 x rfl hx (fun q => ?_)
      refine wp_goto (tgt := 151) d_Y_isSeparated_220 (by decide) ?_
      refine wp_lo [(0, .ref 35), (1, .ref r), (2, .int (nI a)), (3, .int (nI b)), (4, .int (nI s)), (5, .int al), (6, .int (nI (pu_in (pu_gs g n a b s) 9 0 x))), (7, .int (nI x))] ⟨rfl, rfl, rfl, rfl, rfl, rfl, rfl, rfl, trivial⟩ ?_
      have hlt := pu_in_ltn (pu_gs_lt (a := a) (b := b) (s := s) hg) (k := 9) (p := 0) hx
      have hle := pu_in_le hcl.2.1 (k := 9) (p := 0) h2
      by_cases e : pu_in (pu_gs g n a b s) 9 0 x = x
      · rw [e]
        have hcd : CD (pu_gs g n a b s) x := fun i hi => pu_in_fix e i (Nat.zero_le _) (by have := pu_bit_lt hx hi; omega) hi
        have e2 : x = pu_cn g n a b s := SU.an h2 (hcl.2.2 x h1 hcd)
        refine wp_iload (q := 153) d_Y_isSeparated_151 rfl rfl ?_
        refine wp_iload (q := 155) d_Y_isSeparated_153 rfl rfl ?_
        refine wp_icmp_eq (q := 158) (tgt := 223) d_Y_isSeparated_155 (by decide) rfl (fun _ => ?_) (fun c155 => absurd rfl c155)
        refine wp_iload (q := 225) d_Y_isSeparated_223 rfl rfl ?_
        refine wp_iload_n (q := 226) d_Y_isSeparated_225 rfl rfl rfl ?_
        refine wp_ishr (q := 227) d_Y_isSeparated_226 rfl ?_
        refine wp_iconst (q := 228) (v := 1) d_Y_isSeparated_227 rfl (by decide) ?_
        refine wp_iand (q := 229) d_Y_isSeparated_228 rfl ?_
        rw [pu_has (by omega) (by omega)]
        refine wp_if_ne (q := 232) (tgt := 236) d_Y_isSeparated_229 (by decide) rfl (fun c229 => absurd (by rw [hbx]; rfl) c229) (fun _ => ?_)
        refine wp_iconst (q := 233) (v := 1) d_Y_isSeparated_232 rfl (by decide) ?_
        refine wp_goto (tgt := 237) d_Y_isSeparated_233 (by decide) ?_
        exact wp_zreturn rfl rfl d_Y_isSeparated_237 ⟨by unfold pu_sp; rw [← e2, hbx]; rfl, rfl⟩
      · have hlt2 : x < pu_in (pu_gs g n a b s) 9 0 x := Nat.lt_of_le_of_ne (SU.le pu_in_su) (fun h => e h.symm)
        exact ih (pu_in (pu_gs g n a b s) 9 0 x) (nI x) (by omega) hlt (h1.tr pu_in_su) hle (fun h => e (pu_nI_inj (by omega) (by omega) h))
set_option maxHeartbeats 4000000 in
set_option maxRecDepth 100000 in
theorem y_sep_2I {n k : Nat} {P : Nat → Nat} {H : Nat → Int32} {O : Nat → Nat} {ik : Bool} {kn : Nat} {KP : Nat → Nat} {ic : Bool} {fz sm : Nat} {w : am_W} (hY : YI n k P H O ik kn KP ic fz sm w) {r : Nat} {g : Nat → Nat} {a b s : Nat} (hn : n ≤ 8) (hg : ∀ i, g i < 2 ^ n) (ha : a < n) (hb : b < n) (hs : s < 2 ^ n) {f : Nat → Int32} {p : Nat} (hp : p < n) (hnext : ∀ w1, YF [42] w w1 → w1[42]? = some (.inl (0, 8, .inl (pu_mx (pu_nr g (pu_all g a b s) (p + 1)) f n))) → am_Wp none m_Y_isSeparated 1 0 0 46 [(0, .ref 35), (1, .ref r), (2, .int (nI a)), (3, .int (nI b)), (4, .int (nI s)), (5, .int (nI (pu_all g a b s))), (6, .int (nI (p + 1)))] [] w1 (fun v w2 => v = some (.int (pu_b (pu_sp g n a b s))) ∧ YF [42] w w2)) : ∀ (r9 q : Nat), q + r9 = 9 → ∀ w1, YF [42] w w1 → w1[42]? = some (.inl (0, 8, .inl (pu_mx (pu_hf (pu_nr g (pu_all g a b s) (p + 1)) (pu_nr1 g (pu_all g a b s) p) q) f n))) → am_Wp none m_Y_isSeparated 1 0 0 91 [(0, .ref 35), (1, .ref r), (2, .int (nI a)), (3, .int (nI b)), (4, .int (nI s)), (5, .int (nI (pu_all g a b s))), (6, .int (nI p)), (7, .int (nI (pu_up_ g (pu_all g a b s) p))), (8, .int (nI q))] [] w1 (fun v w2 => v = some (.int (pu_b (pu_sp g n a b s))) ∧ YF [42] w w2) := by
  have hp28 := pu_p2e hn
  intro r9
  induction r9 with
  | zero =>
    intro q hq w1 fr h42
    have hup : (pu_up_ g (pu_all g a b s) p) < 2 ^ n := pu_up_lt hg p
    have hz : (pu_up_ g (pu_all g a b s) p) / 2 ^ q = 0 := Nat.div_eq_of_lt (Nat.lt_of_lt_of_le hup (Nat.pow_le_pow_right (n := 2) (by decide) (by omega)))
    refine wp_iload (q := 93) d_Y_isSeparated_91 rfl rfl ?_
    refine wp_iload (q := 95) d_Y_isSeparated_93 rfl rfl ?_
    refine wp_ishr (q := 96) d_Y_isSeparated_95 rfl ?_
    rw [pk_shrN (by omega) _ q (pu_sh q (by omega))]
    refine wp_if_eq (q := 99) (tgt := 137) d_Y_isSeparated_96 (by decide) rfl (fun _ => ?_) (fun c96 => absurd (by rw [hz]; exact nI_0) c96)
    refine wp_inc1 (q := 140) d_Y_isSeparated_137 rfl rfl (nI_1 _) (Nat.le_of_ble_eq_true rfl) rfl ?_
    refine wp_goto (tgt := 46) d_Y_isSeparated_140 (by decide) ?_
    refine wp_chg (g := pu_mx (pu_nr g (pu_all g a b s) (p + 1)) f n) h42 (fun j hj => pu_nr_fin hz j) rfl ?_
    refine wp_lo [(0, .ref 35), (1, .ref r), (2, .int (nI a)), (3, .int (nI b)), (4, .int (nI s)), (5, .int (nI (pu_all g a b s))), (6, .int (nI (p + 1)))] ⟨rfl, rfl, rfl, rfl, rfl, rfl, rfl, trivial⟩ ?_
    exact hnext _ (fr.put (by decide) h42 (by rfl)) (am_at_eq h42)
  | succ r9 ih0 =>
    intro q hq w1 fr h42
    have ih := fun w1 h => ih0 (q + 1) h w1
    have hup : (pu_up_ g (pu_all g a b s) p) < 2 ^ n := pu_up_lt hg p
    have hY1 := hY.s1 fr
    refine wp_iload (q := 93) d_Y_isSeparated_91 rfl rfl ?_
    refine wp_iload (q := 95) d_Y_isSeparated_93 rfl rfl ?_
    refine wp_ishr (q := 96) d_Y_isSeparated_95 rfl ?_
    rw [pk_shrN (by omega) _ q (pu_sh q (by omega))]
    refine wp_if_eq (q := 99) (tgt := 137) d_Y_isSeparated_96 (by decide) rfl (fun c96 => ?_) (fun c96 => ?_)
    · have hz : (pu_up_ g (pu_all g a b s) p) / 2 ^ q = 0 := pu_nI_inj (Nat.lt_of_le_of_lt (Nat.div_le_self _ _) (by omega)) (by decide) (c96.trans nI_0.symm)
      refine wp_inc1 (q := 140) d_Y_isSeparated_137 rfl rfl (nI_1 _) (Nat.le_of_ble_eq_true rfl) rfl ?_
      refine wp_goto (tgt := 46) d_Y_isSeparated_140 (by decide) ?_
      refine wp_chg (g := pu_mx (pu_nr g (pu_all g a b s) (p + 1)) f n) h42 (fun j hj => pu_nr_fin hz j) rfl ?_
      refine wp_lo [(0, .ref 35), (1, .ref r), (2, .int (nI a)), (3, .int (nI b)), (4, .int (nI s)), (5, .int (nI (pu_all g a b s))), (6, .int (nI (p + 1)))] ⟨rfl, rfl, rfl, rfl, rfl, rfl, rfl, trivial⟩ ?_
      exact hnext _ (fr.put (by decide) h42 (by rfl)) (am_at_eq h42)
    · have hz : ¬ (pu_up_ g (pu_all g a b s) p) / 2 ^ q = 0 := fun e => c96 (by rw [e]; exact nI_0)
      have hqn : q < n := Nat.lt_of_not_le (fun h => hz (Nat.div_eq_of_lt (Nat.lt_of_lt_of_le hup (Nat.pow_le_pow_right (n := 2) (by decide) h))))
      refine wp_aload_n (q := 100) d_Y_isSeparated_99 rfl rfl rfl ?_
      refine wp_get (q := 103) (k := 13) d_Y_isSeparated_100 rfl ok_Y (Nat.le_of_ble_eq_true rfl) fk_Y_28 hY1.1 rfl ?_
      refine wp_iload (q := 105) d_Y_isSeparated_103 rfl rfl ?_
      refine wp_dup2 (q := 106) d_Y_isSeparated_105 rfl rfl rfl ?_
      refine wp_ialoadN (q := 107) d_Y_isSeparated_106 rfl h42 rfl (by omega) (by decide) ?_
      rw [pu_mx_at hqn]
      refine wp_iload (q := 109) d_Y_isSeparated_107 rfl rfl ?_
      refine wp_iload (q := 111) d_Y_isSeparated_109 rfl rfl ?_
      refine wp_ishr (q := 112) d_Y_isSeparated_111 rfl ?_
      refine wp_iconst (q := 113) (v := 1) d_Y_isSeparated_112 rfl (by decide) ?_
      refine wp_iand (q := 114) d_Y_isSeparated_113 rfl ?_
      rw [pu_has (by omega) (by omega)]
      refine wp_iconst (q := 115) (v := 1) d_Y_isSeparated_114 rfl (by decide) ?_
      refine wp_icmp_ne (q := 118) (tgt := 128) d_Y_isSeparated_115 (by decide) rfl (fun c115 => ?_) (fun c115 => ?_)
      · have hbt : (pu_up_ g (pu_all g a b s) p).testBit q = false := by cases h : (pu_up_ g (pu_all g a b s) p).testBit q with | false => rfl | true => rw [h] at c115; exact absurd rfl c115
        refine wp_iconst (q := 129) (v := 0) d_Y_isSeparated_128 rfl (by decide) ?_
        refine wp_ior (q := 130) d_Y_isSeparated_129 rfl ?_
        rw [show (0 : Int32) = nI 0 from rfl, pu_or]
        refine wp_iastoreN (w' := w1.set 42 (.inl (0, 8, .inl (pu_mx (pu_hf (pu_nr g (pu_all g a b s) (p + 1)) (pu_nr1 g (pu_all g a b s) p) (q + 1)) f n)))) (q := 131) d_Y_isSeparated_130 rfl h42 rfl (by omega) (by decide) (by rw [pu_mx_u hqn, ← pu_hf_s, pu_hf, if_neg (Nat.lt_irrefl _)]; simp only [pu_nr, pu_nr1, hbt]; simp) ?_
        refine wp_inc1 (q := 134) d_Y_isSeparated_131 rfl rfl (nI_1 _) (Nat.le_of_ble_eq_true rfl) rfl ?_
        refine wp_goto (tgt := 91) d_Y_isSeparated_134 (by decide) ?_
        exact ih _ (by omega) (fr.put (by decide) h42 (by rfl)) (am_at_eq h42)
      · have hbt : (pu_up_ g (pu_all g a b s) p).testBit q = true := pu_h1.mp c115
        refine wp_iload (q := 120) d_Y_isSeparated_118 rfl rfl ?_
        refine wp_iconst (q := 121) (v := 1) d_Y_isSeparated_120 rfl (by decide) ?_
        refine wp_iload (q := 123) d_Y_isSeparated_121 rfl rfl ?_
        refine wp_ishl (q := 124) d_Y_isSeparated_123 rfl ?_
        rw [pu_bit p (by omega)]
        refine wp_ior (q := 125) d_Y_isSeparated_124 rfl ?_
        rw [pu_or]
        refine wp_goto (tgt := 129) d_Y_isSeparated_125 (by decide) ?_
        refine wp_ior (q := 130) d_Y_isSeparated_129 rfl ?_
        rw [pu_or]
        refine wp_iastoreN (w' := w1.set 42 (.inl (0, 8, .inl (pu_mx (pu_hf (pu_nr g (pu_all g a b s) (p + 1)) (pu_nr1 g (pu_all g a b s) p) (q + 1)) f n)))) (q := 131) d_Y_isSeparated_130 rfl h42 rfl (by omega) (by decide) (by rw [pu_mx_u hqn, ← pu_hf_s, pu_hf, if_neg (Nat.lt_irrefl _)]; simp only [pu_nr, pu_nr1, hbt]; simp) ?_
        refine wp_inc1 (q := 134) d_Y_isSeparated_131 rfl rfl (nI_1 _) (Nat.le_of_ble_eq_true rfl) rfl ?_
        refine wp_goto (tgt := 91) d_Y_isSeparated_134 (by decide) ?_
        exact ih _ (by omega) (fr.put (by decide) h42 (by rfl)) (am_at_eq h42)
set_option maxHeartbeats 4000000 in
set_option maxRecDepth 100000 in
theorem y_sep_2 {n k : Nat} {P : Nat → Nat} {H : Nat → Int32} {O : Nat → Nat} {ik : Bool} {kn : Nat} {KP : Nat → Nat} {ic : Bool} {fz sm : Nat} {w : am_W} (hY : YI n k P H O ik kn KP ic fz sm w) {r : Nat} {g : Nat → Nat} {a b s : Nat} (hn : n ≤ 8) (hg : ∀ i, g i < 2 ^ n) (ha : a < n) (hb : b < n) (hs : s < 2 ^ n) (hr : w[r]? = some (am_ar 8 g)) (hr42 : ¬ r = 42) {f : Nat → Int32} : ∀ p, p ≤ n → ∀ w1, YF [42] w w1 → w1[42]? = some (.inl (0, 8, .inl (pu_mx (pu_nr g (pu_all g a b s) p) f n))) → am_Wp none m_Y_isSeparated 1 0 0 46 [(0, .ref 35), (1, .ref r), (2, .int (nI a)), (3, .int (nI b)), (4, .int (nI s)), (5, .int (nI (pu_all g a b s))), (6, .int (nI p))] [] w1 (fun v w2 => v = some (.int (pu_b (pu_sp g n a b s))) ∧ YF [42] w w2) := by
  have hp28 := pu_p2e hn
  have hal : (pu_all g a b s) < 256 := pu_cl_lt (fun i => pu_lt8 hn (hg i)) (pu_or_lt (pu_or_lt (pu_lt8 hn hs) (pu_p2 (by omega))) (pu_p2 (by omega)))
  refine pu_up (P := fun p => ∀ w1, YF [42] w w1 → w1[42]? = some (.inl (0, 8, .inl (pu_mx (pu_nr g (pu_all g a b s) p) f n))) → am_Wp none m_Y_isSeparated 1 0 0 46 [(0, .ref 35), (1, .ref r), (2, .int (nI a)), (3, .int (nI b)), (4, .int (nI s)), (5, .int (nI (pu_all g a b s))), (6, .int (nI p))] [] w1 (fun v w2 => v = some (.int (pu_b (pu_sp g n a b s))) ∧ YF [42] w w2)) ?_ ?_
  · intro w1 fr h42
    have hY1 := hY.s1 fr
    refine wp_iload (q := 48) d_Y_isSeparated_46 rfl rfl ?_
    refine wp_aload_n (q := 49) d_Y_isSeparated_48 rfl rfl rfl ?_
    refine wp_get (q := 52) (k := 0) d_Y_isSeparated_49 rfl ok_Y (Nat.le_of_ble_eq_true rfl) fk_Y_63 hY1.1 rfl ?_
    refine wp_icmp_ge (q := 55) (tgt := 143) d_Y_isSeparated_52 (by decide) rfl (fun _ => ?_) (fun c52 => absurd (nI_le (Nat.le_refl n) (by omega)) c52)
    refine wp_iconst (q := 144) (v := 1) d_Y_isSeparated_143 rfl (by decide) ?_
    refine wp_iload_n (q := 145) d_Y_isSeparated_144 rfl rfl rfl ?_
    refine wp_ishl (q := 146) d_Y_isSeparated_145 rfl ?_
    rw [pu_bit a (by omega)]
    refine wp_istore (q := 148) d_Y_isSeparated_146 rfl (Nat.le_of_ble_eq_true rfl) rfl ?_
    refine wp_iconst (q := 149) (v := 0) d_Y_isSeparated_148 rfl (by decide) ?_
    refine wp_istore (q := 151) d_Y_isSeparated_149 rfl (Nat.le_of_ble_eq_true rfl) rfl ?_
    exact wp_post (F1 := am_R _ w1) (fun v w2 h => ⟨h.1, h.2 ▸ fr⟩) (y_sep_O hY1 hn hg ha hb hs (r := r) (al := nI (pu_all g a b s)) h42 (fun j hj => pu_mx_at hj) 257 (2 ^ a) 0 (Nat.lt_succ_of_le (Nat.sub_le _ _)) (Nat.pow_lt_pow_right (by decide) ha) SU.rf pu_cl_su (fun h => by have := pu_nI_inj (b := 0) (by have := pu_p2 (i := a) (by omega); omega) (by decide) (h.trans nI_0.symm); have := pu_p1 a; omega))
  · intro p hp ih w1 fr h42
    have hY1 := hY.s1 fr
    refine wp_iload (q := 48) d_Y_isSeparated_46 rfl rfl ?_
    refine wp_aload_n (q := 49) d_Y_isSeparated_48 rfl rfl rfl ?_
    refine wp_get (q := 52) (k := 0) d_Y_isSeparated_49 rfl ok_Y (Nat.le_of_ble_eq_true rfl) fk_Y_63 hY1.1 rfl ?_
    refine wp_icmp_ge (q := 55) (tgt := 143) d_Y_isSeparated_52 (by decide) rfl (fun c52 => absurd c52 (nI_ge hp (by omega))) (fun _ => ?_)
    refine wp_iload (q := 57) d_Y_isSeparated_55 rfl rfl ?_
    refine wp_iload (q := 59) d_Y_isSeparated_57 rfl rfl ?_
    refine wp_ishr (q := 60) d_Y_isSeparated_59 rfl ?_
    refine wp_iconst (q := 61) (v := 1) d_Y_isSeparated_60 rfl (by decide) ?_
    refine wp_iand (q := 62) d_Y_isSeparated_61 rfl ?_
    rw [pu_has (by omega) (by omega)]
    refine wp_iconst (q := 63) (v := 1) d_Y_isSeparated_62 rfl (by decide) ?_
    refine wp_icmp_ne (q := 66) (tgt := 73) d_Y_isSeparated_63 (by decide) rfl (fun c63 => ?_) (fun c63 => ?_)
    · have hbt : (pu_all g a b s).testBit p = false := by cases h : (pu_all g a b s).testBit p with | false => rfl | true => rw [h] at c63; exact absurd rfl c63
      have hupe : (pu_up_ g (pu_all g a b s) p) = 0 := by unfold pu_up_; rw [hbt]; rfl
      refine wp_iconst (q := 74) (v := 0) d_Y_isSeparated_73 rfl (by decide) ?_
      rw [show (0 : Int32) = nI (pu_up_ g (pu_all g a b s) p) by rw [hupe]; rfl]
      refine wp_istore (q := 76) d_Y_isSeparated_74 rfl (Nat.le_of_ble_eq_true rfl) rfl ?_
      refine wp_aload_n (q := 77) d_Y_isSeparated_76 rfl rfl rfl ?_
      refine wp_get (q := 80) (k := 13) d_Y_isSeparated_77 rfl ok_Y (Nat.le_of_ble_eq_true rfl) fk_Y_28 hY1.1 rfl ?_
      refine wp_iload (q := 82) d_Y_isSeparated_80 rfl rfl ?_
      refine wp_dup2 (q := 83) d_Y_isSeparated_82 rfl rfl rfl ?_
      refine wp_ialoadN (q := 84) d_Y_isSeparated_83 rfl h42 rfl (by omega) (by decide) ?_
      rw [pu_mx_at hp]
      refine wp_iload (q := 86) d_Y_isSeparated_84 rfl rfl ?_
      refine wp_ior (q := 87) d_Y_isSeparated_86 rfl ?_
      rw [pu_or]
      refine wp_iastoreN (w' := w1.set 42 (.inl (0, 8, .inl (pu_mx (pu_nr1 g (pu_all g a b s) p) f n)))) (q := 88) d_Y_isSeparated_87 rfl h42 rfl (by omega) (by decide) (by rw [pu_mx_u hp, pu_nr1_e]) ?_
      refine wp_iconst (q := 89) (v := 0) d_Y_isSeparated_88 rfl (by decide) ?_
      refine wp_istore (q := 91) d_Y_isSeparated_89 rfl (Nat.le_of_ble_eq_true rfl) rfl ?_
      exact y_sep_2I hY hn hg ha hb hs hp ih 9 0 rfl _ (fr.put (by decide) h42 (by rfl)) (by rw [pu_hf_0]; exact am_at_eq h42)
    · have hbt : (pu_all g a b s).testBit p = true := pu_h1.mp c63
      have hupe : (pu_up_ g (pu_all g a b s) p) = g p := by unfold pu_up_; rw [hbt]; rfl
      refine wp_aload_n (q := 67) d_Y_isSeparated_66 rfl rfl rfl ?_
      refine wp_iload (q := 69) d_Y_isSeparated_67 rfl rfl ?_
      refine wp_ialoadN (q := 70) d_Y_isSeparated_69 rfl (fr.at (by intro hh; exact hr42 (List.mem_singleton.mp hh)) hr) rfl (by omega) (by decide) ?_
      refine wp_goto (tgt := 74) d_Y_isSeparated_70 (by decide) ?_
      rw [show nI (g p) = nI (pu_up_ g (pu_all g a b s) p) by rw [hupe]]
      refine wp_istore (q := 76) d_Y_isSeparated_74 rfl (Nat.le_of_ble_eq_true rfl) rfl ?_
      refine wp_aload_n (q := 77) d_Y_isSeparated_76 rfl rfl rfl ?_
      refine wp_get (q := 80) (k := 13) d_Y_isSeparated_77 rfl ok_Y (Nat.le_of_ble_eq_true rfl) fk_Y_28 hY1.1 rfl ?_
      refine wp_iload (q := 82) d_Y_isSeparated_80 rfl rfl ?_
      refine wp_dup2 (q := 83) d_Y_isSeparated_82 rfl rfl rfl ?_
      refine wp_ialoadN (q := 84) d_Y_isSeparated_83 rfl h42 rfl (by omega) (by decide) ?_
      rw [pu_mx_at hp]
      refine wp_iload (q := 86) d_Y_isSeparated_84 rfl rfl ?_
      refine wp_ior (q := 87) d_Y_isSeparated_86 rfl ?_
      rw [pu_or]
      refine wp_iastoreN (w' := w1.set 42 (.inl (0, 8, .inl (pu_mx (pu_nr1 g (pu_all g a b s) p) f n)))) (q := 88) d_Y_isSeparated_87 rfl h42 rfl (by omega) (by decide) (by rw [pu_mx_u hp, pu_nr1_e]) ?_
      refine wp_iconst (q := 89) (v := 0) d_Y_isSeparated_88 rfl (by decide) ?_
      refine wp_istore (q := 91) d_Y_isSeparated_89 rfl (Nat.le_of_ble_eq_true rfl) rfl ?_
      exact y_sep_2I hY hn hg ha hb hs hp ih 9 0 rfl _ (fr.put (by decide) h42 (by rfl)) (by rw [pu_hf_0]; exact am_at_eq h42)
set_option maxHeartbeats 4000000 in
set_option maxRecDepth 100000 in
theorem y_sep_1 {n k : Nat} {P : Nat → Nat} {H : Nat → Int32} {O : Nat → Nat} {ik : Bool} {kn : Nat} {KP : Nat → Nat} {ic : Bool} {fz sm : Nat} {w : am_W} (hY : YI n k P H O ik kn KP ic fz sm w) {r : Nat} {g : Nat → Nat} {a b s : Nat} (hn : n ≤ 8) (hg : ∀ i, g i < 2 ^ n) (ha : a < n) (hb : b < n) (hs : s < 2 ^ n) (hr : w[r]? = some (am_ar 8 g)) (hr42 : ¬ r = 42) {f : Nat → Int32} : ∀ p, p ≤ n → ∀ w1, YF [42] w w1 → w1[42]? = some (.inl (0, 8, .inl (pu_mx (fun _ => 0) f p))) → am_Wp none m_Y_isSeparated 1 0 0 20 [(0, .ref 35), (1, .ref r), (2, .int (nI a)), (3, .int (nI b)), (4, .int (nI s)), (5, .int (nI (pu_all g a b s))), (6, .int (nI p))] [] w1 (fun v w2 => v = some (.int (pu_b (pu_sp g n a b s))) ∧ YF [42] w w2) := by
  have hp28 := pu_p2e hn
  refine pu_up (P := fun p => ∀ w1, YF [42] w w1 → w1[42]? = some (.inl (0, 8, .inl (pu_mx (fun _ => 0) f p))) → am_Wp none m_Y_isSeparated 1 0 0 20 [(0, .ref 35), (1, .ref r), (2, .int (nI a)), (3, .int (nI b)), (4, .int (nI s)), (5, .int (nI (pu_all g a b s))), (6, .int (nI p))] [] w1 (fun v w2 => v = some (.int (pu_b (pu_sp g n a b s))) ∧ YF [42] w w2)) ?_ ?_
  · intro w1 fr h42
    have hY1 := hY.s1 fr
    refine wp_iload (q := 22) d_Y_isSeparated_20 rfl rfl ?_
    refine wp_aload_n (q := 23) d_Y_isSeparated_22 rfl rfl rfl ?_
    refine wp_get (q := 26) (k := 0) d_Y_isSeparated_23 rfl ok_Y (Nat.le_of_ble_eq_true rfl) fk_Y_63 hY1.1 rfl ?_
    refine wp_icmp_ge (q := 29) (tgt := 43) d_Y_isSeparated_26 (by decide) rfl (fun _ => ?_) (fun c26 => absurd (nI_le (Nat.le_refl n) (by omega)) c26)
    refine wp_iconst (q := 44) (v := 0) d_Y_isSeparated_43 rfl (by decide) ?_
    refine wp_istore (q := 46) d_Y_isSeparated_44 rfl (Nat.le_of_ble_eq_true rfl) rfl ?_
    exact y_sep_2 hY hn hg ha hb hs hr hr42 0 (Nat.zero_le _) w1 fr h42
  · intro p hp ih w1 fr h42
    have hY1 := hY.s1 fr
    refine wp_iload (q := 22) d_Y_isSeparated_20 rfl rfl ?_
    refine wp_aload_n (q := 23) d_Y_isSeparated_22 rfl rfl rfl ?_
    refine wp_get (q := 26) (k := 0) d_Y_isSeparated_23 rfl ok_Y (Nat.le_of_ble_eq_true rfl) fk_Y_63 hY1.1 rfl ?_
    refine wp_icmp_ge (q := 29) (tgt := 43) d_Y_isSeparated_26 (by decide) rfl (fun c26 => absurd c26 (nI_ge hp (by omega))) (fun _ => ?_)
    refine wp_aload_n (q := 30) d_Y_isSeparated_29 rfl rfl rfl ?_
    refine wp_get (q := 33) (k := 13) d_Y_isSeparated_30 rfl ok_Y (Nat.le_of_ble_eq_true rfl) fk_Y_28 hY1.1 rfl ?_
    refine wp_iload (q := 35) d_Y_isSeparated_33 rfl rfl ?_
    refine wp_iconst (q := 36) (v := 0) d_Y_isSeparated_35 rfl (by decide) ?_
    refine wp_iastoreN (w' := w1.set 42 (.inl (0, 8, .inl (pu_mx (fun _ => 0) f (p + 1))))) (q := 37) d_Y_isSeparated_36 rfl h42 rfl (by omega) (by decide) (by rw [← pu_mx_s (g := fun _ => 0)]; rfl) ?_
    refine wp_inc1 (q := 40) d_Y_isSeparated_37 rfl rfl (nI_1 _) (Nat.le_of_ble_eq_true rfl) rfl ?_
    refine wp_goto (tgt := 20) d_Y_isSeparated_40 (by decide) ?_
    exact ih _ (fr.put (by decide) h42 (by rfl)) (am_at_eq h42)
set_option maxHeartbeats 4000000 in
set_option maxRecDepth 100000 in
theorem y_sep {n k : Nat} {P : Nat → Nat} {H : Nat → Int32} {O : Nat → Nat} {ik : Bool} {kn : Nat} {KP : Nat → Nat} {ic : Bool} {fz sm : Nat} {w : am_W} (hY : YI n k P H O ik kn KP ic fz sm w) {r : Nat} {g : Nat → Nat} {a b s : Nat} (hn : n ≤ 8) (hg : ∀ i, g i < 2 ^ n) (ha : a < n) (hb : b < n) (hs : s < 2 ^ n) (hr : w[r]? = some (am_ar 8 g)) (hr42 : ¬ r = 42) : am_Wp none m_Y_isSeparated 1 0 0 0 [(0, .ref 35), (1, .ref r), (2, .int (nI a)), (3, .int (nI b)), (4, .int (nI s))] [] w (fun v w2 => v = some (.int (pu_b (pu_sp g n a b s))) ∧ YF [42] w w2) := by
  have hp28 := pu_p2e hn
  obtain ⟨f, h42⟩ := hY.2.2.2.2.2.2.2.1.i
  refine wp_aload_n (q := 1) d_Y_isSeparated_0 rfl rfl rfl ?_
  refine wp_aload_n (q := 2) d_Y_isSeparated_1 rfl rfl rfl ?_
  refine wp_iload (q := 4) d_Y_isSeparated_2 rfl rfl ?_
  refine wp_iconst (q := 5) (v := 1) d_Y_isSeparated_4 rfl (by decide) ?_
  refine wp_iload_n (q := 6) d_Y_isSeparated_5 rfl rfl rfl ?_
  refine wp_ishl (q := 7) d_Y_isSeparated_6 rfl ?_
  rw [pu_bit a (by omega)]
  refine wp_ior (q := 8) d_Y_isSeparated_7 rfl ?_
  rw [pu_or]
  refine wp_iconst (q := 9) (v := 1) d_Y_isSeparated_8 rfl (by decide) ?_
  refine wp_iload_n (q := 10) d_Y_isSeparated_9 rfl rfl rfl ?_
  refine wp_ishl (q := 11) d_Y_isSeparated_10 rfl ?_
  rw [pu_bit b (by omega)]
  refine wp_ior (q := 12) d_Y_isSeparated_11 rfl ?_
  rw [pu_or]
  refine wp_cV2r (q := 15) d_Y_isSeparated_12 rfl bd_Y_aboveOf lk_Y_88 im_Y_aboveOf se_Y_aboveOf rfl (Nat.le_of_ble_eq_true rfl) (Nat.le_of_ble_eq_true rfl) hY.1 (Nat.le_of_ble_eq_true rfl) (y_above hr (fun i => pu_lt8 hn (hg i)) (pu_or_lt (pu_or_lt (pu_lt8 hn hs) (pu_p2 (by omega))) (pu_p2 (by omega)))) ?_
  refine wp_istore (q := 17) d_Y_isSeparated_15 rfl (Nat.le_of_ble_eq_true rfl) rfl ?_
  refine wp_iconst (q := 18) (v := 0) d_Y_isSeparated_17 rfl (by decide) ?_
  refine wp_istore (q := 20) d_Y_isSeparated_18 rfl (Nat.le_of_ble_eq_true rfl) rfl ?_
  exact y_sep_1 hY hn hg ha hb hs hr hr42 0 (Nat.zero_le _) w YF.rf (by rw [pu_mx_0]; exact h42)
