/-! CONTRACTS of Graph (2), Tables, Walks -/
set_option maxHeartbeats 4000000 in
set_option maxRecDepth 100000 in
theorem c_G_copy {w : am_W} {a p c n k : Nat} {P C : Nat → Nat} (hG : GI a p c n k P C w) {a2 p2 c2 n2 k2 : Nat} {P2 C2 : Nat → Nat} (hH : GI a2 p2 c2 n2 k2 P2 C2 w) (d1 : a ≠ p) (d2 : a ≠ c) (d3 : p ≠ c) (e1 : a2 ≠ a ∧ a2 ≠ p ∧ a2 ≠ c) (e2 : p2 ≠ a ∧ p2 ≠ p ∧ p2 ≠ c) (e3 : c2 ≠ a ∧ c2 ≠ p ∧ c2 ≠ c) : am_Wp none m_G_copy 1 0 0 0 [(0, .ref a), (1, .ref a2)] [] w (fun v w1 => v = none ∧ am_fr [a, p, c] w w1 ∧ GI a p c n2 k2 P2 C2 w1) := by
  suffices h : ∀ w0, am_fr [a, p, c] w0 w → am_Wp none m_G_copy 1 0 0 0 [(0, .ref a), (1, .ref a2)] [] w (fun v w1 => v = none ∧ am_fr [a, p, c] w0 w1 ∧ GI a p c n2 k2 P2 C2 w1) from h w am_fr.rf
  intro w0 f1
  refine wp_aload_n (q := 1) d_G_copy_0 rfl rfl rfl ?_
  refine wp_aload_n (q := 2) d_G_copy_1 rfl rfl rfl ?_
  refine wp_get (q := 5) (k := 0) d_G_copy_2 rfl ok_G (Nat.le_of_ble_eq_true rfl) fk_G_9 hH.1 rfl ?_
  refine wp_put (q := 8) (k := 0) d_G_copy_5 rfl ok_G (Nat.le_of_ble_eq_true rfl) fk_G_9 rfl am_fit_i hG.1 (Nat.le_of_ble_eq_true rfl) rfl ?_
  have hG1 : GI a p c n2 k P C (w.set a (.inr (1, [.int (nI n2), .int (nI k), .ref p, .ref c]))) := ⟨am_at_eq hG.1, am_at_ne d1 hG.2.1, am_at_ne d2 hG.2.2⟩
  have hH1 : GI a2 p2 c2 n2 k2 P2 C2 (w.set a (.inr (1, [.int (nI n2), .int (nI k), .ref p, .ref c]))) := ⟨am_at_ne (Ne.symm e1.1) hH.1, am_at_ne (Ne.symm e2.1) hH.2.1, am_at_ne (Ne.symm e3.1) hH.2.2⟩
  have f1 := f1.put (a := a) (c := (.inr (1, [.int (nI n2), .int (nI k), .ref p, .ref c]))) (by simp)
  show am_Wp _ _ _ _ _ _ _ _ (w.set a (.inr (1, [.int (nI n2), .int (nI k), .ref p, .ref c]))) _
  generalize (w.set a (.inr (1, [.int (nI n2), .int (nI k), .ref p, .ref c]))) = w at hG1 hH1 f1 ⊢
  clear hG hH
  have hG := hG1
  have hH := hH1
  refine wp_aload_n (q := 9) d_G_copy_8 rfl rfl rfl ?_
  refine wp_aload_n (q := 10) d_G_copy_9 rfl rfl rfl ?_
  refine wp_get (q := 13) (k := 1) d_G_copy_10 rfl ok_G (Nat.le_of_ble_eq_true rfl) fk_G_15 hH.1 rfl ?_
  refine wp_put (q := 16) (k := 1) d_G_copy_13 rfl ok_G (Nat.le_of_ble_eq_true rfl) fk_G_15 rfl am_fit_i hG.1 (Nat.le_of_ble_eq_true rfl) rfl ?_
  have hG1 : GI a p c n2 k2 P C (w.set a (.inr (1, [.int (nI n2), .int (nI k2), .ref p, .ref c]))) := ⟨am_at_eq hG.1, am_at_ne d1 hG.2.1, am_at_ne d2 hG.2.2⟩
  have hH1 : GI a2 p2 c2 n2 k2 P2 C2 (w.set a (.inr (1, [.int (nI n2), .int (nI k2), .ref p, .ref c]))) := ⟨am_at_ne (Ne.symm e1.1) hH.1, am_at_ne (Ne.symm e2.1) hH.2.1, am_at_ne (Ne.symm e3.1) hH.2.2⟩
  have f1 := f1.put (a := a) (c := (.inr (1, [.int (nI n2), .int (nI k2), .ref p, .ref c]))) (by simp)
  show am_Wp _ _ _ _ _ _ _ _ (w.set a (.inr (1, [.int (nI n2), .int (nI k2), .ref p, .ref c]))) _
  generalize (w.set a (.inr (1, [.int (nI n2), .int (nI k2), .ref p, .ref c]))) = w at hG1 hH1 f1 ⊢
  clear hG hH
  have hG := hG1
  have hH := hH1
  refine wp_aload_n (q := 17) d_G_copy_16 rfl rfl rfl ?_
  refine wp_get (q := 20) (k := 2) d_G_copy_17 rfl ok_G (Nat.le_of_ble_eq_true rfl) fk_G_18 hH.1 rfl ?_
  refine wp_iconst (q := 21) (v := 0) d_G_copy_20 rfl (by decide) ?_
  refine wp_aload_n (q := 22) d_G_copy_21 rfl rfl rfl ?_
  refine wp_get (q := 25) (k := 2) d_G_copy_22 rfl ok_G (Nat.le_of_ble_eq_true rfl) fk_G_18 hG.1 rfl ?_
  refine wp_iconst (q := 26) (v := 0) d_G_copy_25 rfl (by decide) ?_
  refine wp_bipush (q := 28) (v := 8) d_G_copy_26 rfl (by decide) ?_
  refine wp_copyi (q := 31) d_G_copy_28 rfl lk_G_31 na_S_arraycopy sm_S_arraycopy ini_S hH.2.1 hG.2.1 (by decide) (by decide) (by decide) (by decide) (by decide) (Nat.le_of_ble_eq_true rfl) (Nat.le_of_ble_eq_true rfl) rfl ?_
  refine wp_chg (g := fun i => nI (P2 i)) (am_at_eq hG.2.1) (fun j hj => am_cpy8 hj) rfl ?_
  rw [List.set_set]
  have hG1 : GI a p c n2 k2 P2 C (w.set p (am_ar 8 P2)) := ⟨am_at_ne (Ne.symm d1) hG.1, am_at_eq hG.2.1, am_at_ne d3 hG.2.2⟩
  have hH1 : GI a2 p2 c2 n2 k2 P2 C2 (w.set p (am_ar 8 P2)) := ⟨am_at_ne (Ne.symm e1.2.1) hH.1, am_at_ne (Ne.symm e2.2.1) hH.2.1, am_at_ne (Ne.symm e3.2.1) hH.2.2⟩
  have f1 := f1.put (a := p) (c := (am_ar 8 P2)) (by simp)
  show am_Wp _ _ _ _ _ _ _ _ (w.set p (am_ar 8 P2)) _
  generalize (w.set p (am_ar 8 P2)) = w at hG1 hH1 f1 ⊢
  clear hG hH
  have hG := hG1
  have hH := hH1
  refine wp_aload_n (q := 32) d_G_copy_31 rfl rfl rfl ?_
  refine wp_get (q := 35) (k := 3) d_G_copy_32 rfl ok_G (Nat.le_of_ble_eq_true rfl) fk_G_22 hH.1 rfl ?_
  refine wp_iconst (q := 36) (v := 0) d_G_copy_35 rfl (by decide) ?_
  refine wp_aload_n (q := 37) d_G_copy_36 rfl rfl rfl ?_
  refine wp_get (q := 40) (k := 3) d_G_copy_37 rfl ok_G (Nat.le_of_ble_eq_true rfl) fk_G_22 hG.1 rfl ?_
  refine wp_iconst (q := 41) (v := 0) d_G_copy_40 rfl (by decide) ?_
  refine wp_bipush (q := 43) (v := 8) d_G_copy_41 rfl (by decide) ?_
  refine wp_copyi (q := 46) d_G_copy_43 rfl lk_G_31 na_S_arraycopy sm_S_arraycopy ini_S hH.2.2 hG.2.2 (by decide) (by decide) (by decide) (by decide) (by decide) (Nat.le_of_ble_eq_true rfl) (Nat.le_of_ble_eq_true rfl) rfl ?_
  refine wp_chg (g := fun i => nI (C2 i)) (am_at_eq hG.2.2) (fun j hj => am_cpy8 hj) rfl ?_
  rw [List.set_set]
  exact wp_return rfl d_G_copy_46 ⟨rfl, f1.put (by simp), am_at_ne (Ne.symm d2) hG.1, am_at_ne (Ne.symm d3) hG.2.1, am_at_eq hG.2.2⟩
set_option maxHeartbeats 4000000 in
set_option maxRecDepth 100000 in
theorem c_G_tells_L2 {w : am_W} {a p c n k : Nat} {P C : Nat → Nat} (hG : GI a p c n k P C w) {a2 p2 c2 n2 k2 : Nat} {P2 C2 : Nat → Nat} (hH : GI a2 p2 c2 n2 k2 P2 C2 w) (hn : n ≤ 8) (hP : ∀ i, P i < 256) (hC : ∀ i, C i < 256) (hP2 : ∀ i, P2 i < 256) (hC2 : ∀ i, C2 i < 256) {i : Nat} (hi : i < n) (hout : (∀ q, q < n → pu_st P C q i = pu_st P2 C2 q i) → am_Wp none m_G_tellsTheSameAs 2 0 0 58 [(0, .ref a), (1, .ref a2), (2, .int (nI i)), (3, .int (nI n))] [] w (fun v w1 => ∃ b : Bool, v = some (.int (pu_b b)) ∧ (b = true ↔ ∀ x, x < n → (P x ||| C x = P2 x ||| C2 x ∧ ∀ q, q < n → pu_st P C q x = pu_st P2 C2 q x)) ∧ w1 = w)) : ∀ j, j ≤ n → (∀ q, q < j → pu_st P C q i = pu_st P2 C2 q i) → am_Wp none m_G_tellsTheSameAs 2 0 0 27 [(0, .ref a), (1, .ref a2), (2, .int (nI i)), (3, .int (nI j))] [] w (fun v w1 => ∃ b : Bool, v = some (.int (pu_b b)) ∧ (b = true ↔ ∀ x, x < n → (P x ||| C x = P2 x ||| C2 x ∧ ∀ q, q < n → pu_st P C q x = pu_st P2 C2 q x)) ∧ w1 = w) := by
  refine pu_up (P := fun j => (∀ q, q < j → pu_st P C q i = pu_st P2 C2 q i) → am_Wp none m_G_tellsTheSameAs 2 0 0 27 [(0, .ref a), (1, .ref a2), (2, .int (nI i)), (3, .int (nI j))] [] w (fun v w1 => ∃ b : Bool, v = some (.int (pu_b b)) ∧ (b = true ↔ ∀ x, x < n → (P x ||| C x = P2 x ||| C2 x ∧ ∀ q, q < n → pu_st P C q x = pu_st P2 C2 q x)) ∧ w1 = w)) ?_ ?_
  · intro kn
    refine wp_iload_n (q := 28) d_G_tellsTheSameAs_27 rfl rfl rfl ?_
    refine wp_aload_n (q := 29) d_G_tellsTheSameAs_28 rfl rfl rfl ?_
    refine wp_get (q := 32) (k := 0) d_G_tellsTheSameAs_29 rfl ok_G (Nat.le_of_ble_eq_true rfl) fk_G_9 hG.1 rfl ?_
    refine wp_icmp_ge (q := 35) (tgt := 58) d_G_tellsTheSameAs_32 (by decide) rfl (fun _ => ?_) (fun c32 => absurd (nI_le (Nat.le_refl n) (by omega)) c32)
    exact hout kn
  · intro j hj ih kn
    refine wp_iload_n (q := 28) d_G_tellsTheSameAs_27 rfl rfl rfl ?_
    refine wp_aload_n (q := 29) d_G_tellsTheSameAs_28 rfl rfl rfl ?_
    refine wp_get (q := 32) (k := 0) d_G_tellsTheSameAs_29 rfl ok_G (Nat.le_of_ble_eq_true rfl) fk_G_9 hG.1 rfl ?_
    refine wp_icmp_ge (q := 35) (tgt := 58) d_G_tellsTheSameAs_32 (by decide) rfl (fun c32 => absurd c32 (nI_ge hj (by omega))) (fun _ => ?_)
    refine wp_aload_n (q := 36) d_G_tellsTheSameAs_35 rfl rfl rfl ?_
    refine wp_iload_n (q := 37) d_G_tellsTheSameAs_36 rfl rfl rfl ?_
    refine wp_iload_n (q := 38) d_G_tellsTheSameAs_37 rfl rfl rfl ?_
    refine wp_cV2r (q := 41) d_G_tellsTheSameAs_38 rfl bd_G_strangers lk_G_53 im_G_strangers se_G_strangers rfl (Nat.le_of_ble_eq_true rfl) (Nat.le_of_ble_eq_true rfl) hG.1 (Nat.le_of_ble_eq_true rfl) (c_G_strangers hG hP (by omega) (by omega)) ?_
    refine wp_aload_n (q := 42) d_G_tellsTheSameAs_41 rfl rfl rfl ?_
    refine wp_iload_n (q := 43) d_G_tellsTheSameAs_42 rfl rfl rfl ?_
    refine wp_iload_n (q := 44) d_G_tellsTheSameAs_43 rfl rfl rfl ?_
    refine wp_cV2r (q := 47) d_G_tellsTheSameAs_44 rfl bd_G_strangers lk_G_53 im_G_strangers se_G_strangers rfl (Nat.le_of_ble_eq_true rfl) (Nat.le_of_ble_eq_true rfl) hH.1 (Nat.le_of_ble_eq_true rfl) (c_G_strangers hH hP2 (by omega) (by omega)) ?_
    refine wp_icmp_eq (q := 50) (tgt := 52) d_G_tellsTheSameAs_47 (by decide) rfl (fun c47 => ?_) (fun c47 => ?_)
    · refine wp_inc1 (q := 55) d_G_tellsTheSameAs_52 rfl rfl (nI_1 _) (Nat.le_of_ble_eq_true rfl) rfl ?_
      refine wp_goto (tgt := 27) d_G_tellsTheSameAs_55 (by decide) ?_
      exact ih (fun q hq => by
        rcases (show q < j ∨ q = j by omega) with h | rfl
        · exact kn q h
        · exact pu_nI_inj (Nat.lt_trans (pu_st_lt hP) (by decide)) (Nat.lt_trans (pu_st_lt hP2) (by decide)) c47)
    · refine wp_iconst (q := 51) (v := 0) d_G_tellsTheSameAs_50 rfl (by decide) ?_
      exact wp_zreturn rfl rfl d_G_tellsTheSameAs_51 ⟨false, rfl, ⟨fun h => absurd h (by decide), fun h => absurd (congrArg nI ((h i hi).2 j hj)) c47⟩, rfl⟩
set_option maxHeartbeats 4000000 in
set_option maxRecDepth 100000 in
theorem c_G_tells_L {w : am_W} {a p c n k : Nat} {P C : Nat → Nat} (hG : GI a p c n k P C w) {a2 p2 c2 n2 k2 : Nat} {P2 C2 : Nat → Nat} (hH : GI a2 p2 c2 n2 k2 P2 C2 w) (hn : n ≤ 8) (hP : ∀ i, P i < 256) (hC : ∀ i, C i < 256) (hP2 : ∀ i, P2 i < 256) (hC2 : ∀ i, C2 i < 256) : ∀ i, i ≤ n → (∀ x, x < i → (P x ||| C x = P2 x ||| C2 x ∧ ∀ q, q < n → pu_st P C q x = pu_st P2 C2 q x)) → am_Wp none m_G_tellsTheSameAs 2 0 0 2 [(0, .ref a), (1, .ref a2), (2, .int (nI i))] [] w (fun v w1 => ∃ b : Bool, v = some (.int (pu_b b)) ∧ (b = true ↔ ∀ x, x < n → (P x ||| C x = P2 x ||| C2 x ∧ ∀ q, q < n → pu_st P C q x = pu_st P2 C2 q x)) ∧ w1 = w) := by
  refine pu_up (P := fun i => (∀ x, x < i → (P x ||| C x = P2 x ||| C2 x ∧ ∀ q, q < n → pu_st P C q x = pu_st P2 C2 q x)) → am_Wp none m_G_tellsTheSameAs 2 0 0 2 [(0, .ref a), (1, .ref a2), (2, .int (nI i))] [] w (fun v w1 => ∃ b : Bool, v = some (.int (pu_b b)) ∧ (b = true ↔ ∀ x, x < n → (P x ||| C x = P2 x ||| C2 x ∧ ∀ q, q < n → pu_st P C q x = pu_st P2 C2 q x)) ∧ w1 = w)) ?_ ?_
  · intro kn
    refine wp_iload_n (q := 3) d_G_tellsTheSameAs_2 rfl rfl rfl ?_
    refine wp_aload_n (q := 4) d_G_tellsTheSameAs_3 rfl rfl rfl ?_
    refine wp_get (q := 7) (k := 0) d_G_tellsTheSameAs_4 rfl ok_G (Nat.le_of_ble_eq_true rfl) fk_G_9 hG.1 rfl ?_
    refine wp_icmp_ge (q := 10) (tgt := 64) d_G_tellsTheSameAs_7 (by decide) rfl (fun _ => ?_) (fun c7 => absurd (nI_le (Nat.le_refl n) (by omega)) c7)
    refine wp_iconst (q := 65) (v := 1) d_G_tellsTheSameAs_64 rfl (by decide) ?_
    exact wp_zreturn rfl rfl d_G_tellsTheSameAs_65 ⟨true, rfl, ⟨fun _ => kn, fun _ => rfl⟩, rfl⟩
  · intro i hi ih kn
    refine wp_iload_n (q := 3) d_G_tellsTheSameAs_2 rfl rfl rfl ?_
    refine wp_aload_n (q := 4) d_G_tellsTheSameAs_3 rfl rfl rfl ?_
    refine wp_get (q := 7) (k := 0) d_G_tellsTheSameAs_4 rfl ok_G (Nat.le_of_ble_eq_true rfl) fk_G_9 hG.1 rfl ?_
    refine wp_icmp_ge (q := 10) (tgt := 64) d_G_tellsTheSameAs_7 (by decide) rfl (fun c7 => absurd c7 (nI_ge hi (by omega))) (fun _ => ?_)
    refine wp_aload_n (q := 11) d_G_tellsTheSameAs_10 rfl rfl rfl ?_
    refine wp_iload_n (q := 12) d_G_tellsTheSameAs_11 rfl rfl rfl ?_
    refine wp_cV1r (q := 15) d_G_tellsTheSameAs_12 rfl bd_G_neighbours lk_G_50 im_G_neighbours se_G_neighbours rfl (Nat.le_of_ble_eq_true rfl) (Nat.le_of_ble_eq_true rfl) hG.1 (Nat.le_of_ble_eq_true rfl) (c_G_neighbours hG (by omega)) ?_
    refine wp_aload_n (q := 16) d_G_tellsTheSameAs_15 rfl rfl rfl ?_
    refine wp_iload_n (q := 17) d_G_tellsTheSameAs_16 rfl rfl rfl ?_
    refine wp_cV1r (q := 20) d_G_tellsTheSameAs_17 rfl bd_G_neighbours lk_G_50 im_G_neighbours se_G_neighbours rfl (Nat.le_of_ble_eq_true rfl) (Nat.le_of_ble_eq_true rfl) hH.1 (Nat.le_of_ble_eq_true rfl) (c_G_neighbours hH (by omega)) ?_
    refine wp_icmp_eq (q := 23) (tgt := 25) d_G_tellsTheSameAs_20 (by decide) rfl (fun c20 => ?_) (fun c20 => ?_)
    · refine wp_iconst (q := 26) (v := 0) d_G_tellsTheSameAs_25 rfl (by decide) ?_
      refine wp_istore_n (q := 27) d_G_tellsTheSameAs_26 rfl rfl (Nat.le_of_ble_eq_true rfl) rfl ?_
      have e : P i ||| C i = P2 i ||| C2 i := pu_nI_inj (Nat.lt_trans (pu_or_lt (hP i) (hC i)) (by decide)) (Nat.lt_trans (pu_or_lt (hP2 i) (hC2 i)) (by decide)) c20
      refine c_G_tells_L2 hG hH hn hP hC hP2 hC2 hi (fun kq => ?_) 0 (Nat.zero_le _) (fun q h => absurd h (Nat.not_lt_zero _))
      refine wp_inc1 (q := 61) d_G_tellsTheSameAs_58 rfl rfl (nI_1 _) (Nat.le_of_ble_eq_true rfl) rfl ?_
      refine wp_goto (tgt := 2) d_G_tellsTheSameAs_61 (by decide) ?_
      refine wp_lo [(0, .ref a), (1, .ref a2), (2, .int (nI (i + 1)))] ⟨rfl, rfl, rfl, trivial⟩ ?_
      exact ih (fun x hx => by
        rcases (show x < i ∨ x = i by omega) with h | rfl
        · exact kn x h
        · exact ⟨e, kq⟩)
    · refine wp_iconst (q := 24) (v := 0) d_G_tellsTheSameAs_23 rfl (by decide) ?_
      exact wp_zreturn rfl rfl d_G_tellsTheSameAs_24 ⟨false, rfl, ⟨fun h => absurd h (by decide), fun h => absurd (congrArg nI (h i hi).1) c20⟩, rfl⟩
set_option maxHeartbeats 4000000 in
set_option maxRecDepth 100000 in
theorem c_G_tells {w : am_W} {a p c n k : Nat} {P C : Nat → Nat} (hG : GI a p c n k P C w) {a2 p2 c2 n2 k2 : Nat} {P2 C2 : Nat → Nat} (hH : GI a2 p2 c2 n2 k2 P2 C2 w) (hn : n ≤ 8) (hP : ∀ i, P i < 256) (hC : ∀ i, C i < 256) (hP2 : ∀ i, P2 i < 256) (hC2 : ∀ i, C2 i < 256) : am_Wp none m_G_tellsTheSameAs 2 0 0 0 [(0, .ref a), (1, .ref a2)] [] w (fun v w1 => ∃ b : Bool, v = some (.int (pu_b b)) ∧ (b = true ↔ ∀ x, x < n → (P x ||| C x = P2 x ||| C2 x ∧ ∀ q, q < n → pu_st P C q x = pu_st P2 C2 q x)) ∧ w1 = w) := by
  refine wp_iconst (q := 1) (v := 0) d_G_tellsTheSameAs_0 rfl (by decide) ?_
  refine wp_istore_n (q := 2) d_G_tellsTheSameAs_1 rfl rfl (Nat.le_of_ble_eq_true rfl) rfl ?_
  exact c_G_tells_L hG hH hn hP hC hP2 hC2 0 (Nat.zero_le _) (fun x h => absurd h (Nat.not_lt_zero _))
set_option maxHeartbeats 4000000 in
set_option maxRecDepth 100000 in
theorem c_T_startRows {w : am_W} {hd hv : Nat} {E : Nat → Nat → Nat} (hT : TI hd hv E w) {i : Nat} (hi : i < 8) : am_Wp none m_T_startRows 1 0 0 0 [(0, .ref 7), (1, .int (nI i))] [] w (am_R none (w.set (9 + i) (am_ar 128 (fun _ => 4)))) := by
  refine wp_aload_n (q := 1) d_T_startRows_0 rfl rfl rfl ?_
  refine wp_get (q := 4) (k := 0) d_T_startRows_1 rfl ok_T (Nat.le_of_ble_eq_true rfl) fk_T_11 hT.1 rfl ?_
  refine wp_iload_n (q := 5) d_T_startRows_4 rfl rfl rfl ?_
  refine wp_aaloadN (q := 6) d_T_startRows_5 rfl hT.2.1 rfl hi (by decide) (if_pos hi) ?_
  refine wp_iconst (q := 7) (v := 4) d_T_startRows_6 rfl (by decide) ?_
  refine wp_cS2v (q := 10) d_T_startRows_7 rfl bd_A_fillI lk_T_23 sm_A_fillI (Nat.le_of_ble_eq_true rfl) (Nat.le_of_ble_eq_true rfl) (Nat.le_of_ble_eq_true rfl) (c_fill (hT.2.2 i hi) (by decide)) ?_
  exact wp_return rfl d_T_startRows_10 ⟨rfl, rfl⟩
set_option maxHeartbeats 4000000 in
set_option maxRecDepth 100000 in
theorem c_T_releaseAll {w : am_W} {hd hv : Nat} {E : Nat → Nat → Nat} (hT : TI hd hv E w) : am_Wp none m_T_releaseAll 0 0 0 0 [(0, .ref 7)] [] w (am_R none (w.set 7 (.inr (4, [.ref 8, .int (nI 0), .int (nI 0)])))) := by
  refine wp_aload_n (q := 1) d_T_releaseAll_0 rfl rfl rfl ?_
  refine wp_iconst (q := 2) (v := 0) d_T_releaseAll_1 rfl (by decide) ?_
  refine wp_put (q := 5) (k := 1) d_T_releaseAll_2 rfl ok_T (Nat.le_of_ble_eq_true rfl) fk_T_16 rfl am_fit_i hT.1 (Nat.le_of_ble_eq_true rfl) rfl ?_
  refine wp_aload_n (q := 6) d_T_releaseAll_5 rfl rfl rfl ?_
  refine wp_iconst (q := 7) (v := 0) d_T_releaseAll_6 rfl (by decide) ?_
  refine wp_put (q := 10) (k := 2) d_T_releaseAll_7 rfl ok_T (Nat.le_of_ble_eq_true rfl) fk_T_20 rfl am_fit_i (am_at_eq hT.1) (Nat.le_of_ble_eq_true rfl) rfl ?_
  exact wp_return rfl d_T_releaseAll_10 ⟨rfl, by rw [List.set_set]; rfl⟩
set_option maxHeartbeats 4000000 in
set_option maxRecDepth 100000 in
theorem c_T_heldAt {w : am_W} {hd hv : Nat} {E : Nat → Nat → Nat} (hT : TI hd hv E w) (h1 : hd < 256) (h2 : hv < 256) {i : Nat} (hi : i < 8) : am_Wp none m_T_heldAt 1 0 0 0 [(0, .ref 7), (1, .int (nI i))] [] w (am_R (some (.int (pu_ha hd hv i))) w) := by
  refine wp_aload_n (q := 1) d_T_heldAt_0 rfl rfl rfl ?_
  refine wp_get (q := 4) (k := 1) d_T_heldAt_1 rfl ok_T (Nat.le_of_ble_eq_true rfl) fk_T_16 hT.1 rfl ?_
  refine wp_iload_n (q := 5) d_T_heldAt_4 rfl rfl rfl ?_
  refine wp_cSN2r (q := 8) d_T_heldAt_5 rfl bd_X_has lk_T_33 sm_X_has (Nat.le_of_ble_eq_true rfl) (Nat.le_of_ble_eq_true rfl) (Nat.le_of_ble_eq_true rfl) (c_has (by omega) (by omega)) ?_
  refine wp_if_ne (q := 11) (tgt := 13) d_T_heldAt_8 (by decide) rfl (fun c8 => ?_) (fun c8 => ?_)
  · refine wp_aload_n (q := 14) d_T_heldAt_13 rfl rfl rfl ?_
    refine wp_get (q := 17) (k := 2) d_T_heldAt_14 rfl ok_T (Nat.le_of_ble_eq_true rfl) fk_T_20 hT.1 rfl ?_
    refine wp_iload_n (q := 18) d_T_heldAt_17 rfl rfl rfl ?_
    refine wp_ishr (q := 19) d_T_heldAt_18 rfl ?_
    refine wp_iconst (q := 20) (v := 1) d_T_heldAt_19 rfl (by decide) ?_
    refine wp_iand (q := 21) d_T_heldAt_20 rfl ?_
    exact wp_ireturn rfl d_T_heldAt_21 ⟨by rw [pu_has (by omega) (by omega)]; unfold pu_ha; rw [if_pos (pu_b1 c8)], rfl⟩
  · refine wp_iconst (q := 12) (v := -1) d_T_heldAt_11 rfl (by decide) ?_
    exact wp_ireturn rfl d_T_heldAt_12 ⟨by unfold pu_ha; rw [if_neg (by rw [pu_b0.mp c8]; decide)], rfl⟩
set_option maxHeartbeats 4000000 in
set_option maxRecDepth 100000 in
theorem c_T_setHeld0 {w : am_W} {hd hv : Nat} {E : Nat → Nat → Nat} (hT : TI hd hv E w) {i : Nat} (hi : i < 8) : am_Wp none m_T_setHeld 1 0 0 0 [(0, .ref 7), (1, .int (nI i)), (2, .int (-1))] [] w (am_R none (w.set 7 (.inr (4, [.ref 8, .int (nI (pu_dif hd (2 ^ i))), .int (nI (pu_dif hv (2 ^ i)))])))) := by
  refine wp_aload_n (q := 1) d_T_setHeld_0 rfl rfl rfl ?_
  refine wp_dup (q := 2) d_T_setHeld_1 rfl rfl ?_
  refine wp_get (q := 5) (k := 1) d_T_setHeld_2 rfl ok_T (Nat.le_of_ble_eq_true rfl) fk_T_16 hT.1 rfl ?_
  refine wp_iload_n (q := 6) d_T_setHeld_5 rfl rfl rfl ?_
  refine wp_cSN1r (q := 9) d_T_setHeld_6 rfl bd_X_bit lk_T_29 sm_X_bit (Nat.le_of_ble_eq_true rfl) (Nat.le_of_ble_eq_true rfl) (Nat.le_of_ble_eq_true rfl) (c_bit (by omega)) ?_
  refine wp_iconst (q := 10) (v := -1) d_T_setHeld_9 rfl (by decide) ?_
  refine wp_ixor (q := 11) d_T_setHeld_10 rfl ?_
  refine wp_iand (q := 12) d_T_setHeld_11 rfl ?_
  rw [pu_not]
  refine wp_put (q := 15) (k := 1) d_T_setHeld_12 rfl ok_T (Nat.le_of_ble_eq_true rfl) fk_T_16 rfl am_fit_i hT.1 (Nat.le_of_ble_eq_true rfl) rfl ?_
  refine wp_aload_n (q := 16) d_T_setHeld_15 rfl rfl rfl ?_
  refine wp_dup (q := 17) d_T_setHeld_16 rfl rfl ?_
  refine wp_get (q := 20) (k := 2) d_T_setHeld_17 rfl ok_T (Nat.le_of_ble_eq_true rfl) fk_T_20 (am_at_eq hT.1) rfl ?_
  refine wp_iload_n (q := 21) d_T_setHeld_20 rfl rfl rfl ?_
  refine wp_cSN1r (q := 24) d_T_setHeld_21 rfl bd_X_bit lk_T_29 sm_X_bit (Nat.le_of_ble_eq_true rfl) (Nat.le_of_ble_eq_true rfl) (Nat.le_of_ble_eq_true rfl) (c_bit (by omega)) ?_
  refine wp_iconst (q := 25) (v := -1) d_T_setHeld_24 rfl (by decide) ?_
  refine wp_ixor (q := 26) d_T_setHeld_25 rfl ?_
  refine wp_iand (q := 27) d_T_setHeld_26 rfl ?_
  rw [pu_not]
  refine wp_put (q := 30) (k := 2) d_T_setHeld_27 rfl ok_T (Nat.le_of_ble_eq_true rfl) fk_T_20 rfl am_fit_i (am_at_eq hT.1) (Nat.le_of_ble_eq_true rfl) rfl ?_
  refine wp_iload_n (q := 31) d_T_setHeld_30 rfl rfl rfl ?_
  refine wp_iconst (q := 32) (v := -1) d_T_setHeld_31 rfl (by decide) ?_
  refine wp_icmp_eq (q := 35) (tgt := 60) d_T_setHeld_32 (by decide) rfl (fun _ => ?_) (fun c32 => absurd rfl c32)
  exact wp_return rfl d_T_setHeld_60 ⟨rfl, by rw [List.set_set]; rfl⟩
set_option maxHeartbeats 4000000 in
set_option maxRecDepth 100000 in
theorem c_T_setHeld1 {w : am_W} {hd hv : Nat} {E : Nat → Nat → Nat} (hT : TI hd hv E w) {i : Nat} (hi : i < 8) (b : Bool) : am_Wp none m_T_setHeld 1 0 0 0 [(0, .ref 7), (1, .int (nI i)), (2, .int (pu_b b))] [] w (am_R none (w.set 7 (.inr (4, [.ref 8, .int (nI (pu_dif hd (2 ^ i) ||| 2 ^ i)), .int (nI (pu_dif hv (2 ^ i) ||| (if b then 2 ^ i else 0)))])))) := by
  refine wp_aload_n (q := 1) d_T_setHeld_0 rfl rfl rfl ?_
  refine wp_dup (q := 2) d_T_setHeld_1 rfl rfl ?_
  refine wp_get (q := 5) (k := 1) d_T_setHeld_2 rfl ok_T (Nat.le_of_ble_eq_true rfl) fk_T_16 hT.1 rfl ?_
  refine wp_iload_n (q := 6) d_T_setHeld_5 rfl rfl rfl ?_
  refine wp_cSN1r (q := 9) d_T_setHeld_6 rfl bd_X_bit lk_T_29 sm_X_bit (Nat.le_of_ble_eq_true rfl) (Nat.le_of_ble_eq_true rfl) (Nat.le_of_ble_eq_true rfl) (c_bit (by omega)) ?_
  refine wp_iconst (q := 10) (v := -1) d_T_setHeld_9 rfl (by decide) ?_
  refine wp_ixor (q := 11) d_T_setHeld_10 rfl ?_
  refine wp_iand (q := 12) d_T_setHeld_11 rfl ?_
  rw [pu_not]
  refine wp_put (q := 15) (k := 1) d_T_setHeld_12 rfl ok_T (Nat.le_of_ble_eq_true rfl) fk_T_16 rfl am_fit_i hT.1 (Nat.le_of_ble_eq_true rfl) rfl ?_
  refine wp_aload_n (q := 16) d_T_setHeld_15 rfl rfl rfl ?_
  refine wp_dup (q := 17) d_T_setHeld_16 rfl rfl ?_
  refine wp_get (q := 20) (k := 2) d_T_setHeld_17 rfl ok_T (Nat.le_of_ble_eq_true rfl) fk_T_20 (am_at_eq hT.1) rfl ?_
  refine wp_iload_n (q := 21) d_T_setHeld_20 rfl rfl rfl ?_
  refine wp_cSN1r (q := 24) d_T_setHeld_21 rfl bd_X_bit lk_T_29 sm_X_bit (Nat.le_of_ble_eq_true rfl) (Nat.le_of_ble_eq_true rfl) (Nat.le_of_ble_eq_true rfl) (c_bit (by omega)) ?_
  refine wp_iconst (q := 25) (v := -1) d_T_setHeld_24 rfl (by decide) ?_
  refine wp_ixor (q := 26) d_T_setHeld_25 rfl ?_
  refine wp_iand (q := 27) d_T_setHeld_26 rfl ?_
  rw [pu_not]
  refine wp_put (q := 30) (k := 2) d_T_setHeld_27 rfl ok_T (Nat.le_of_ble_eq_true rfl) fk_T_20 rfl am_fit_i (am_at_eq hT.1) (Nat.le_of_ble_eq_true rfl) rfl ?_
  refine wp_iload_n (q := 31) d_T_setHeld_30 rfl rfl rfl ?_
  refine wp_iconst (q := 32) (v := -1) d_T_setHeld_31 rfl (by decide) ?_
  refine wp_icmp_eq (q := 35) (tgt := 60) d_T_setHeld_32 (by decide) rfl (fun c32 => absurd c32 (by cases b <;> decide)) (fun _ => ?_)
  refine wp_aload_n (q := 36) d_T_setHeld_35 rfl rfl rfl ?_
  refine wp_dup (q := 37) d_T_setHeld_36 rfl rfl ?_
  refine wp_get (q := 40) (k := 1) d_T_setHeld_37 rfl ok_T (Nat.le_of_ble_eq_true rfl) fk_T_16 (am_at_eq (am_at_eq hT.1)) rfl ?_
  refine wp_iload_n (q := 41) d_T_setHeld_40 rfl rfl rfl ?_
  refine wp_cSN1r (q := 44) d_T_setHeld_41 rfl bd_X_bit lk_T_29 sm_X_bit (Nat.le_of_ble_eq_true rfl) (Nat.le_of_ble_eq_true rfl) (Nat.le_of_ble_eq_true rfl) (c_bit (by omega)) ?_
  refine wp_ior (q := 45) d_T_setHeld_44 rfl ?_
  rw [pu_or]
  refine wp_put (q := 48) (k := 1) d_T_setHeld_45 rfl ok_T (Nat.le_of_ble_eq_true rfl) fk_T_16 rfl am_fit_i (am_at_eq (am_at_eq hT.1)) (Nat.le_of_ble_eq_true rfl) rfl ?_
  refine wp_aload_n (q := 49) d_T_setHeld_48 rfl rfl rfl ?_
  refine wp_dup (q := 50) d_T_setHeld_49 rfl rfl ?_
  refine wp_get (q := 53) (k := 2) d_T_setHeld_50 rfl ok_T (Nat.le_of_ble_eq_true rfl) fk_T_20 (am_at_eq (am_at_eq (am_at_eq hT.1))) rfl ?_
  refine wp_iload_n (q := 54) d_T_setHeld_53 rfl rfl rfl ?_
  refine wp_iload_n (q := 55) d_T_setHeld_54 rfl rfl rfl ?_
  refine wp_ishl (q := 56) d_T_setHeld_55 rfl ?_
  refine wp_ior (q := 57) d_T_setHeld_56 rfl ?_
  rw [pu_shb b (by omega), pu_or]
  refine wp_put (q := 60) (k := 2) d_T_setHeld_57 rfl ok_T (Nat.le_of_ble_eq_true rfl) fk_T_20 rfl am_fit_i (am_at_eq (am_at_eq (am_at_eq hT.1))) (Nat.le_of_ble_eq_true rfl) rfl ?_
  exact wp_return rfl d_T_setHeld_60 ⟨rfl, by rw [List.set_set, List.set_set, List.set_set]; rfl⟩
set_option maxHeartbeats 4000000 in
set_option maxRecDepth 100000 in
theorem c_T_rowIn_L {w : am_W} {x v : Nat} (hx : x < 256) (hv : v < 256) : ∀ i, i ≤ 8 → am_Wp none m_T_rowIn 1 0 0 7 [(0, .int (nI x)), (1, .int (nI v)), (2, .int (nI (pu_rv x v i))), (3, .int (nI (pu_pop i x))), (4, .int (nI i))] [] w (am_R (some (.int (nI (pu_rv x v 8)))) w) := by
  refine pu_up (P := fun i => am_Wp none m_T_rowIn 1 0 0 7 [(0, .int (nI x)), (1, .int (nI v)), (2, .int (nI (pu_rv x v i))), (3, .int (nI (pu_pop i x))), (4, .int (nI i))] [] w (am_R (some (.int (nI (pu_rv x v 8)))) w)) ?_ ?_
  · show am_Wp _ _ _ _ _ _ _ _ _ _
    refine wp_iload (q := 9) d_T_rowIn_7 rfl rfl ?_
    refine wp_bipush (q := 11) (v := 8) d_T_rowIn_9 rfl (by decide) ?_
    refine wp_icmp_ge (q := 14) (tgt := 43) d_T_rowIn_11 (by decide) rfl (fun _ => ?_) (fun c11 => absurd (nI_le (a := 8) (b := 8) (by decide) (by decide)) c11)
    refine wp_iload_n (q := 44) d_T_rowIn_43 rfl rfl rfl ?_
    exact wp_ireturn rfl d_T_rowIn_44 ⟨rfl, rfl⟩
  · intro i hi ih
    have ih : am_Wp _ _ _ _ _ _ _ _ _ _ := ih
    show am_Wp _ _ _ _ _ _ _ _ _ _
    refine wp_iload (q := 9) d_T_rowIn_7 rfl rfl ?_
    refine wp_bipush (q := 11) (v := 8) d_T_rowIn_9 rfl (by decide) ?_
    refine wp_icmp_ge (q := 14) (tgt := 43) d_T_rowIn_11 (by decide) rfl (fun c11 => absurd c11 (nI_ge (b := 8) hi (by decide))) (fun _ => ?_)
    refine wp_iload_n (q := 15) d_T_rowIn_14 rfl rfl rfl ?_
    refine wp_iload (q := 17) d_T_rowIn_15 rfl rfl ?_
    refine wp_cSN2r (q := 20) d_T_rowIn_17 rfl bd_X_has lk_T_33 sm_X_has (Nat.le_of_ble_eq_true rfl) (Nat.le_of_ble_eq_true rfl) (Nat.le_of_ble_eq_true rfl) (c_has (by omega) (by omega)) ?_
    refine wp_if_eq (q := 23) (tgt := 37) d_T_rowIn_20 (by decide) rfl (fun c20 => ?_) (fun c20 => ?_)
    · refine wp_inc1 (q := 40) d_T_rowIn_37 rfl rfl (nI_1 _) (Nat.le_of_ble_eq_true rfl) rfl ?_
      refine wp_goto (tgt := 7) d_T_rowIn_40 (by decide) ?_
      have e1 : pu_rv x v (i + 1) = pu_rv x v i := by simp [pu_rv, pu_b0.mp c20]
      have e2 : pu_pop (i + 1) x = pu_pop i x := by simp [pu_pop, pu_b0.mp c20]
      rw [e1, e2] at ih
      exact ih
    · refine wp_iload_n (q := 24) d_T_rowIn_23 rfl rfl rfl ?_
      refine wp_iload_n (q := 25) d_T_rowIn_24 rfl rfl rfl ?_
      refine wp_iload (q := 27) d_T_rowIn_25 rfl rfl ?_
      refine wp_ishr (q := 28) d_T_rowIn_27 rfl ?_
      refine wp_iconst (q := 29) (v := 1) d_T_rowIn_28 rfl (by decide) ?_
      refine wp_iand (q := 30) d_T_rowIn_29 rfl ?_
      refine wp_iload_n (q := 31) d_T_rowIn_30 rfl rfl rfl ?_
      refine wp_ishl (q := 32) d_T_rowIn_31 rfl ?_
      refine wp_ior (q := 33) d_T_rowIn_32 rfl ?_
      rw [pu_has (by omega) (by omega), pu_shb _ (by have := pu_pop_le i x; omega), pu_or]
      refine wp_istore_n (q := 34) d_T_rowIn_33 rfl rfl (Nat.le_of_ble_eq_true rfl) rfl ?_
      refine wp_inc1 (q := 37) d_T_rowIn_34 rfl rfl (nI_1 _) (Nat.le_of_ble_eq_true rfl) rfl ?_
      refine wp_inc1 (q := 40) d_T_rowIn_37 rfl rfl (nI_1 _) (Nat.le_of_ble_eq_true rfl) rfl ?_
      refine wp_goto (tgt := 7) d_T_rowIn_40 (by decide) ?_
      have e1 : pu_rv x v (i + 1) = pu_rv x v i ||| (if v.testBit i then 2 ^ pu_pop i x else 0) := by simp [pu_rv, pu_b1 c20]
      have e2 : pu_pop (i + 1) x = pu_pop i x + 1 := by simp [pu_pop, pu_b1 c20]
      rw [e1, e2] at ih
      exact ih
set_option maxHeartbeats 4000000 in
set_option maxRecDepth 100000 in
theorem c_T_rowIn {w : am_W} {x v : Nat} (hx : x < 256) (hv : v < 256) : am_Wp none m_T_rowIn 1 0 0 0 [(0, .int (nI x)), (1, .int (nI v))] [] w (am_R (some (.int (nI (pu_rv x v 8)))) w) := by
  refine wp_iconst (q := 1) (v := 0) d_T_rowIn_0 rfl (by decide) ?_
  refine wp_istore_n (q := 2) d_T_rowIn_1 rfl rfl (Nat.le_of_ble_eq_true rfl) rfl ?_
  refine wp_iconst (q := 3) (v := 0) d_T_rowIn_2 rfl (by decide) ?_
  refine wp_istore_n (q := 4) d_T_rowIn_3 rfl rfl (Nat.le_of_ble_eq_true rfl) rfl ?_
  refine wp_iconst (q := 5) (v := 0) d_T_rowIn_4 rfl (by decide) ?_
  refine wp_istore (q := 7) d_T_rowIn_5 rfl (Nat.le_of_ble_eq_true rfl) rfl ?_
  exact c_T_rowIn_L hx hv 0 (Nat.zero_le _)
