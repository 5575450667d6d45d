/-! CONTRACTS of the reference (1) -/
set_option maxHeartbeats 4000000 in
set_option maxRecDepth 100000 in
theorem y_isPlace {n k : Nat} {P : Nat → Nat} {H : Nat → Int32} {O : Nat → Nat} {ik : Bool} {kn : Nat} {KP : Nat → Nat} {ic : Bool} {fz sm : Nat} {w : am_W} (hY : YI n k P H O ik kn KP ic fz sm w) (hn : n ≤ 8) {x : Int32} : am_Wp none m_Y_isPlace 0 0 0 0 [(0, .ref 35), (1, .int x)] [] w (am_R (some (.int (pu_q (PL n x)))) w) := by
  refine wp_iload_n (q := 1) d_Y_isPlace_0 rfl rfl rfl ?_
  refine wp_if_lt (q := 4) (tgt := 16) d_Y_isPlace_1 (by decide) rfl (fun c1 => ?_) (fun c1 => ?_)
  · refine wp_iconst (q := 17) (v := 0) d_Y_isPlace_16 rfl (by decide) ?_
    exact wp_zreturn rfl rfl d_Y_isPlace_17 ⟨by rw [pu_q_f (fun ⟨i, hi, e⟩ => by rw [e] at c1; exact nI_pos (by omega) c1)], rfl⟩
  · refine wp_iload_n (q := 5) d_Y_isPlace_4 rfl rfl rfl ?_
    refine wp_aload_n (q := 6) d_Y_isPlace_5 rfl rfl rfl ?_
    refine wp_get (q := 9) (k := 0) d_Y_isPlace_6 rfl ok_Y (Nat.le_of_ble_eq_true rfl) fk_Y_63 hY.1 rfl ?_
    refine wp_icmp_ge (q := 12) (tgt := 16) d_Y_isPlace_9 (by decide) rfl (fun c9 => ?_) (fun c9 => ?_)
    · refine wp_iconst (q := 17) (v := 0) d_Y_isPlace_16 rfl (by decide) ?_
      exact wp_zreturn rfl rfl d_Y_isPlace_17 ⟨by rw [pu_q_f (fun ⟨i, hi, e⟩ => by rw [e] at c9; exact nI_ge hi (by omega) c9)], rfl⟩
    · refine wp_iconst (q := 13) (v := 1) d_Y_isPlace_12 rfl (by decide) ?_
      refine wp_goto (tgt := 17) d_Y_isPlace_13 (by decide) ?_
      exact wp_zreturn rfl rfl d_Y_isPlace_17 ⟨by rw [pu_q_t (by rcases pk_ix x (n := n) (by omega) with h | h | h; exact absurd h c1; exact absurd h c9; exact h)], rfl⟩
set_option maxHeartbeats 4000000 in
set_option maxRecDepth 100000 in
theorem y_isSet {n k : Nat} {P : Nat → Nat} {H : Nat → Int32} {O : Nat → Nat} {ik : Bool} {kn : Nat} {KP : Nat → Nat} {ic : Bool} {fz sm : Nat} {w : am_W} (hY : YI n k P H O ik kn KP ic fz sm w) (hn : n ≤ 8) {x : Int32} : am_Wp none m_Y_isSet 0 0 0 0 [(0, .ref 35), (1, .int x)] [] w (am_R (some (.int (pu_q (SE n x)))) w) := by
  have hp := pu_p2e hn
  have hp1 := pu_p1 n
  refine wp_iload_n (q := 1) d_Y_isSet_0 rfl rfl rfl ?_
  refine wp_if_lt (q := 4) (tgt := 18) d_Y_isSet_1 (by decide) rfl (fun c1 => ?_) (fun c1 => ?_)
  · refine wp_iconst (q := 19) (v := 0) d_Y_isSet_18 rfl (by decide) ?_
    exact wp_zreturn rfl rfl d_Y_isSet_19 ⟨by rw [pu_q_f (fun ⟨i, hi, e⟩ => by rw [e] at c1; exact nI_pos (by omega) c1)], rfl⟩
  · refine wp_iload_n (q := 5) d_Y_isSet_4 rfl rfl rfl ?_
    refine wp_iconst (q := 6) (v := 1) d_Y_isSet_5 rfl (by decide) ?_
    refine wp_aload_n (q := 7) d_Y_isSet_6 rfl rfl rfl ?_
    refine wp_get (q := 10) (k := 0) d_Y_isSet_7 rfl ok_Y (Nat.le_of_ble_eq_true rfl) fk_Y_63 hY.1 rfl ?_
    refine wp_ishl (q := 11) d_Y_isSet_10 rfl ?_
    rw [pu_bit n (by omega)]
    refine wp_icmp_ge (q := 14) (tgt := 18) d_Y_isSet_11 (by decide) rfl (fun c11 => ?_) (fun c11 => ?_)
    · refine wp_iconst (q := 19) (v := 0) d_Y_isSet_18 rfl (by decide) ?_
      exact wp_zreturn rfl rfl d_Y_isSet_19 ⟨by rw [pu_q_f (fun ⟨i, hi, e⟩ => by rw [e] at c11; exact nI_ge hi (by omega) c11)], rfl⟩
    · refine wp_iconst (q := 15) (v := 1) d_Y_isSet_14 rfl (by decide) ?_
      refine wp_goto (tgt := 19) d_Y_isSet_15 (by decide) ?_
      exact wp_zreturn rfl rfl d_Y_isSet_19 ⟨by rw [pu_q_t (by rcases pk_ix x (n := 2 ^ n) (by omega) with h | h | h; exact absurd h c1; exact absurd h c11; exact h)], rfl⟩
set_option maxHeartbeats 4000000 in
set_option maxRecDepth 100000 in
theorem y_isAsked {n k : Nat} {P : Nat → Nat} {H : Nat → Int32} {O : Nat → Nat} {ik : Bool} {kn : Nat} {KP : Nat → Nat} {ic : Bool} {fz sm : Nat} {w : am_W} (hY : YI n k P H O ik kn KP ic fz sm w) (hn : n ≤ 8) {x y s : Int32} : am_Wp none m_Y_isAsked 1 0 0 0 [(0, .ref 35), (1, .int x), (2, .int y), (3, .int s)] [] w (am_R (some (.int (pu_q (QU n x y s)))) w) := by
  refine wp_aload_n (q := 1) d_Y_isAsked_0 rfl rfl rfl ?_
  refine wp_iload_n (q := 2) d_Y_isAsked_1 rfl rfl rfl ?_
  refine wp_cV1r (q := 5) d_Y_isAsked_2 rfl bd_Y_isPlace lk_Y_77 im_Y_isPlace se_Y_isPlace rfl (Nat.le_of_ble_eq_true rfl) (Nat.le_of_ble_eq_true rfl) hY.1 (Nat.le_of_ble_eq_true rfl) (y_isPlace hY hn) ?_
  refine wp_if_eq (q := 8) (tgt := 49) d_Y_isAsked_5 (by decide) rfl (fun c5 => ?_) (fun c5 => ?_)
  · refine wp_iconst (q := 50) (v := 0) d_Y_isAsked_49 rfl (by decide) ?_
    exact wp_zreturn rfl rfl d_Y_isAsked_50 ⟨by rw [pu_q_f (fun ⟨i, j, t, hi, hj, hij, ht, e1, e2, e3, e4, e5⟩ => pu_q0 c5 ⟨i, hi, e1⟩)], rfl⟩
  · refine wp_aload_n (q := 9) d_Y_isAsked_8 rfl rfl rfl ?_
    refine wp_iload_n (q := 10) d_Y_isAsked_9 rfl rfl rfl ?_
    refine wp_cV1r (q := 13) d_Y_isAsked_10 rfl bd_Y_isPlace lk_Y_77 im_Y_isPlace se_Y_isPlace rfl (Nat.le_of_ble_eq_true rfl) (Nat.le_of_ble_eq_true rfl) hY.1 (Nat.le_of_ble_eq_true rfl) (y_isPlace hY hn) ?_
    refine wp_if_eq (q := 16) (tgt := 49) d_Y_isAsked_13 (by decide) rfl (fun c13 => ?_) (fun c13 => ?_)
    · refine wp_iconst (q := 50) (v := 0) d_Y_isAsked_49 rfl (by decide) ?_
      exact wp_zreturn rfl rfl d_Y_isAsked_50 ⟨by rw [pu_q_f (fun ⟨i, j, t, hi, hj, hij, ht, e1, e2, e3, e4, e5⟩ => pu_q0 c13 ⟨j, hj, e2⟩)], rfl⟩
    · refine wp_iload_n (q := 17) d_Y_isAsked_16 rfl rfl rfl ?_
      refine wp_iload_n (q := 18) d_Y_isAsked_17 rfl rfl rfl ?_
      refine wp_icmp_eq (q := 21) (tgt := 49) d_Y_isAsked_18 (by decide) rfl (fun c18 => ?_) (fun c18 => ?_)
      · refine wp_iconst (q := 50) (v := 0) d_Y_isAsked_49 rfl (by decide) ?_
        exact wp_zreturn rfl rfl d_Y_isAsked_50 ⟨by rw [pu_q_f (fun ⟨i, j, t, hi, hj, hij, ht, e1, e2, e3, e4, e5⟩ => hij (pu_nI_inj (by omega) (by omega) (e1.symm.trans (c18.trans e2))))], rfl⟩
      · refine wp_aload_n (q := 22) d_Y_isAsked_21 rfl rfl rfl ?_
        refine wp_iload_n (q := 23) d_Y_isAsked_22 rfl rfl rfl ?_
        refine wp_cV1r (q := 26) d_Y_isAsked_23 rfl bd_Y_isSet lk_Y_81 im_Y_isSet se_Y_isSet rfl (Nat.le_of_ble_eq_true rfl) (Nat.le_of_ble_eq_true rfl) hY.1 (Nat.le_of_ble_eq_true rfl) (y_isSet hY hn) ?_
        refine wp_if_eq (q := 29) (tgt := 49) d_Y_isAsked_26 (by decide) rfl (fun c26 => ?_) (fun c26 => ?_)
        · refine wp_iconst (q := 50) (v := 0) d_Y_isAsked_49 rfl (by decide) ?_
          exact wp_zreturn rfl rfl d_Y_isAsked_50 ⟨by rw [pu_q_f (fun ⟨i, j, t, hi, hj, hij, ht, e1, e2, e3, e4, e5⟩ => pu_q0 c26 ⟨t, ht, e3⟩)], rfl⟩
        · obtain ⟨i, hi, rfl⟩ := pu_q1 c5
          obtain ⟨j, hj, rfl⟩ := pu_q1 c13
          obtain ⟨t, ht, rfl⟩ := pu_q1 c26
          have hp := pu_p2e hn
          refine wp_iload_n (q := 30) d_Y_isAsked_29 rfl rfl rfl ?_
          refine wp_iload_n (q := 31) d_Y_isAsked_30 rfl rfl rfl ?_
          refine wp_ishr (q := 32) d_Y_isAsked_31 rfl ?_
          refine wp_iconst (q := 33) (v := 1) d_Y_isAsked_32 rfl (by decide) ?_
          refine wp_iand (q := 34) d_Y_isAsked_33 rfl ?_
          rw [pu_has (by omega) (by omega)]
          refine wp_if_ne (q := 37) (tgt := 49) d_Y_isAsked_34 (by decide) rfl (fun c34 => ?_) (fun c34 => ?_)
          · refine wp_iconst (q := 50) (v := 0) d_Y_isAsked_49 rfl (by decide) ?_
            exact wp_zreturn rfl rfl d_Y_isAsked_50 ⟨by rw [pu_q_f (fun ⟨i', j', t', hi', hj', hij', ht', e1, e2, e3, e4, e5⟩ => by rw [pu_nI_inj (by omega) (by omega) e1, pu_nI_inj (by omega) (by omega) e3, e4] at c34; exact c34 rfl)], rfl⟩
          · refine wp_iload_n (q := 38) d_Y_isAsked_37 rfl rfl rfl ?_
            refine wp_iload_n (q := 39) d_Y_isAsked_38 rfl rfl rfl ?_
            refine wp_ishr (q := 40) d_Y_isAsked_39 rfl ?_
            refine wp_iconst (q := 41) (v := 1) d_Y_isAsked_40 rfl (by decide) ?_
            refine wp_iand (q := 42) d_Y_isAsked_41 rfl ?_
            rw [pu_has (by omega) (by omega)]
            refine wp_if_ne (q := 45) (tgt := 49) d_Y_isAsked_42 (by decide) rfl (fun c42 => ?_) (fun c42 => ?_)
            · refine wp_iconst (q := 50) (v := 0) d_Y_isAsked_49 rfl (by decide) ?_
              exact wp_zreturn rfl rfl d_Y_isAsked_50 ⟨by rw [pu_q_f (fun ⟨i', j', t', hi', hj', hij', ht', e1, e2, e3, e4, e5⟩ => by rw [pu_nI_inj (by omega) (by omega) e2, pu_nI_inj (by omega) (by omega) e3, e5] at c42; exact c42 rfl)], rfl⟩
            · refine wp_iconst (q := 46) (v := 1) d_Y_isAsked_45 rfl (by decide) ?_
              refine wp_goto (tgt := 50) d_Y_isAsked_46 (by decide) ?_
              exact wp_zreturn rfl rfl d_Y_isAsked_50 ⟨by rw [pu_q_t (⟨i, j, t, hi, hj, fun e => c18 (by rw [e]), ht, rfl, rfl, rfl, pu_b0.mp c34, pu_b0.mp c42⟩)], rfl⟩
set_option maxHeartbeats 4000000 in
set_option maxRecDepth 100000 in
theorem y_many_L {w : am_W} {y : Int32} : ∀ (b r c : Nat), r < b → r < 1024 → am_Wp none m_Y_many 0 0 0 4 [(0, .int y), (1, .int (nI c)), (2, .int (nI r))] [] w (am_R (some (.int (nI (c + pu_pop 10 r)))) w) := by
  intro b
  induction b with
  | zero => intro r c h; exact absurd h (Nat.not_lt_zero _)
  | succ b ih =>
    intro r c hr hr2
    refine wp_iload_n (q := 5) d_Y_many_4 rfl rfl rfl ?_
    refine wp_if_eq (q := 8) (tgt := 20) d_Y_many_5 (by decide) rfl (fun c5 => ?_) (fun c5 => ?_)
    · have hz : r = 0 := pu_nI_inj (by omega) (by decide) (c5.trans nI_0.symm)
      subst hz
      refine wp_iload_n (q := 21) d_Y_many_20 rfl rfl rfl ?_
      exact wp_ireturn rfl d_Y_many_21 ⟨rfl, rfl⟩
    · have hz : 0 < r := Nat.pos_of_ne_zero (fun e => c5 (by rw [e]; exact nI_0))
      have hk := pu_kn r hr2 hz
      refine wp_inc1 (q := 11) d_Y_many_8 rfl rfl (nI_1 _) (Nat.le_of_ble_eq_true rfl) rfl ?_
      refine wp_iload_n (q := 12) d_Y_many_11 rfl rfl rfl ?_
      refine wp_iload_n (q := 13) d_Y_many_12 rfl rfl rfl ?_
      refine wp_iconst (q := 14) (v := 1) d_Y_many_13 rfl (by decide) ?_
      refine wp_isub (q := 15) d_Y_many_14 rfl ?_
      rw [pu_1, pk_sub hz]
      refine wp_iand (q := 16) d_Y_many_15 rfl ?_
      rw [pu_and]
      refine wp_istore_n (q := 17) d_Y_many_16 rfl rfl (Nat.le_of_ble_eq_true rfl) rfl ?_
      refine wp_goto (tgt := 4) d_Y_many_17 (by decide) ?_
      have h9 := ih (r &&& (r - 1)) (c + 1) (by omega) (by omega)
      rw [show c + 1 + pu_pop 10 (r &&& (r - 1)) = c + pu_pop 10 r by omega] at h9
      exact h9
set_option maxHeartbeats 4000000 in
set_option maxRecDepth 100000 in
theorem y_many {w : am_W} {r : Nat} (hr : r < 1024) : am_Wp none m_Y_many 0 0 0 0 [(0, .int (nI r))] [] w (am_R (some (.int (nI (pu_pop 10 r)))) w) := by
  refine wp_iconst (q := 1) (v := 0) d_Y_many_0 rfl (by decide) ?_
  refine wp_istore_n (q := 2) d_Y_many_1 rfl rfl (Nat.le_of_ble_eq_true rfl) rfl ?_
  refine wp_iload_n (q := 3) d_Y_many_2 rfl rfl rfl ?_
  refine wp_istore_n (q := 4) d_Y_many_3 rfl rfl (Nat.le_of_ble_eq_true rfl) rfl ?_
  have h9 := y_many_L (w := w) (y := nI r) (r + 1) r 0 (Nat.lt_succ_self _) hr
  rw [Nat.zero_add] at h9
  exact h9
/-- the first s odds of place i are even -/
def pu_eo (O : Nat → Nat) (i s : Nat) : Nat → Nat := fun x => if 128 * i ≤ x ∧ x < 128 * i + s then 4 else O x
theorem pu_eo_0 {O : Nat → Nat} {i : Nat} : pu_eo O i 0 = O := by
  funext x
  unfold pu_eo
  rw [if_neg (by omega)]
theorem pu_eo_s {O : Nat → Nat} {i s : Nat} : pu_set (pu_eo O i s) (128 * i + s) 4 = pu_eo O i (s + 1) := by
  funext x
  unfold pu_set pu_eo
  by_cases h : x = 128 * i + s
  · rw [if_pos h, if_pos (by omega)]
  · rw [if_neg h]
    by_cases h2 : 128 * i ≤ x ∧ x < 128 * i + s
    · rw [if_pos h2, if_pos (by omega)]
    · rw [if_neg h2, if_neg (by omega)]
set_option maxHeartbeats 4000000 in
set_option maxRecDepth 100000 in
theorem y_evenOdds_L {n k : Nat} {P : Nat → Nat} {H : Nat → Int32} {O : Nat → Nat} {ik : Bool} {kn : Nat} {KP : Nat → Nat} {ic : Bool} {fz sm : Nat} {w : am_W} (hY : YI n k P H O ik kn KP ic fz sm w) {i : Nat} (hi : i < 8) : ∀ s, s ≤ 128 → am_Wp none m_Y_evenOdds 0 0 0 2 [(0, .ref 35), (1, .int (nI i)), (2, .int (nI s))] [] (w.set 38 (am_ar 1024 (pu_eo O i s))) (am_R none (w.set 38 (am_ar 1024 (pu_eo O i 128)))) := by
  refine pu_up (P := fun s => am_Wp none m_Y_evenOdds 0 0 0 2 [(0, .ref 35), (1, .int (nI i)), (2, .int (nI s))] [] (w.set 38 (am_ar 1024 (pu_eo O i s))) (am_R none (w.set 38 (am_ar 1024 (pu_eo O i 128))))) ?_ ?_
  · show am_Wp _ _ _ _ _ _ _ _ _ _
    refine wp_iload_n (q := 3) d_Y_evenOdds_2 rfl rfl rfl ?_
    refine wp_sipush (q := 6) (v := 128) d_Y_evenOdds_3 rfl (by decide) ?_
    refine wp_icmp_ge (q := 9) (tgt := 28) d_Y_evenOdds_6 (by decide) rfl (fun _ => ?_) (fun c6 => absurd (by decide) c6)
    exact wp_return rfl d_Y_evenOdds_28 ⟨rfl, rfl⟩
  · intro s hs ih
    have ih : am_Wp _ _ _ _ _ _ _ _ _ _ := ih
    show am_Wp _ _ _ _ _ _ _ _ _ _
    refine wp_iload_n (q := 3) d_Y_evenOdds_2 rfl rfl rfl ?_
    refine wp_sipush (q := 6) (v := 128) d_Y_evenOdds_3 rfl (by decide) ?_
    refine wp_icmp_ge (q := 9) (tgt := 28) d_Y_evenOdds_6 (by decide) rfl (fun c6 => absurd c6 (by rw [show (128 : Int32) = nI 128 from rfl]; exact nI_ge hs (by decide))) (fun _ => ?_)
    refine wp_aload_n (q := 10) d_Y_evenOdds_9 rfl rfl rfl ?_
    refine wp_get (q := 13) (k := 4) d_Y_evenOdds_10 rfl ok_Y (Nat.le_of_ble_eq_true rfl) fk_Y_16 (am_at_ne (by decide) hY.1) rfl ?_
    refine wp_sipush (q := 16) (v := 128) d_Y_evenOdds_13 rfl (by decide) ?_
    refine wp_iload_n (q := 17) d_Y_evenOdds_16 rfl rfl rfl ?_
    refine wp_imul (q := 18) d_Y_evenOdds_17 rfl ?_
    rw [show (128 : Int32) = nI 128 from rfl, pk_mul]
    refine wp_iload_n (q := 19) d_Y_evenOdds_18 rfl rfl rfl ?_
    refine wp_iadd (q := 20) d_Y_evenOdds_19 rfl ?_
    rw [nI_add]
    refine wp_iconst (q := 21) (v := 4) d_Y_evenOdds_20 rfl (by decide) ?_
    rw [show (4 : Int32) = nI 4 from rfl]
    refine wp_iastoreN (w' := w.set 38 (am_ar 1024 (pu_eo O i (s + 1)))) (q := 22) d_Y_evenOdds_21 rfl (am_at_eq hY.2.2.2.1) rfl (by omega) (by decide) (by rw [List.set_set, pu_upd, pu_eo_s]) ?_
    refine wp_inc1 (q := 25) d_Y_evenOdds_22 rfl rfl (nI_1 _) (Nat.le_of_ble_eq_true rfl) rfl ?_
    refine wp_goto (tgt := 2) d_Y_evenOdds_25 (by decide) ?_
    exact ih
set_option maxHeartbeats 4000000 in
set_option maxRecDepth 100000 in
theorem y_evenOdds {n k : Nat} {P : Nat → Nat} {H : Nat → Int32} {O : Nat → Nat} {ik : Bool} {kn : Nat} {KP : Nat → Nat} {ic : Bool} {fz sm : Nat} {w : am_W} (hY : YI n k P H O ik kn KP ic fz sm w) {i : Nat} (hi : i < 8) : am_Wp none m_Y_evenOdds 0 0 0 0 [(0, .ref 35), (1, .int (nI i))] [] w (am_R none (w.set 38 (am_ar 1024 (pu_eo O i 128)))) := by
  refine wp_iconst (q := 1) (v := 0) d_Y_evenOdds_0 rfl (by decide) ?_
  refine wp_istore_n (q := 2) d_Y_evenOdds_1 rfl rfl (Nat.le_of_ble_eq_true rfl) rfl ?_
  have h9 := y_evenOdds_L hY hi 0 (Nat.zero_le _)
  rw [pu_eo_0, am_set_same hY.2.2.2.1] at h9
  exact h9
set_option maxHeartbeats 4000000 in
set_option maxRecDepth 100000 in
theorem y_above_I {w : am_W} {a : Nat} {g : Nat → Nat} (hc : w[a]? = some (am_ar 8 g)) (hg : ∀ i, g i < 256) {y z : Int32} {F : Option Value → am_W → Prop} : ∀ (r p x : Nat), p + r = 9 → x < 256 → (∀ q, am_Wp none m_Y_aboveOf 0 0 0 51 [(0, .ref 35), (1, .ref a), (2, .int y), (3, .int (nI (pu_in g r p x))), (4, .int z), (5, .int (nI q))] [] w F) → am_Wp none m_Y_aboveOf 0 0 0 17 [(0, .ref 35), (1, .ref a), (2, .int y), (3, .int (nI x)), (4, .int z), (5, .int (nI p))] [] w F := by
  intro r
  induction r with
  | zero =>
    intro p x hp hx hout
    refine wp_iload_n (q := 18) d_Y_aboveOf_17 rfl rfl rfl ?_
    refine wp_iload (q := 20) d_Y_aboveOf_18 rfl rfl ?_
    refine wp_ishr (q := 21) d_Y_aboveOf_20 rfl ?_
    rw [pk_shrN (by omega) _ p (pu_sh p (by omega))]
    refine wp_if_eq (q := 24) (tgt := 51) d_Y_aboveOf_21 (by decide) rfl (fun _ => ?_) (fun c21 => absurd (by rw [Nat.div_eq_of_lt (Nat.lt_of_lt_of_le hx (Nat.pow_le_pow_right (n := 2) (i := 8) (by decide) (by omega)))]; exact nI_0) c21)
    exact hout p
  | succ r ih =>
    intro p x hp hx hout
    refine wp_iload_n (q := 18) d_Y_aboveOf_17 rfl rfl rfl ?_
    refine wp_iload (q := 20) d_Y_aboveOf_18 rfl rfl ?_
    refine wp_ishr (q := 21) d_Y_aboveOf_20 rfl ?_
    rw [pk_shrN (by omega) _ p (pu_sh p (by omega))]
    refine wp_if_eq (q := 24) (tgt := 51) d_Y_aboveOf_21 (by decide) rfl (fun c21 => ?_) (fun c21 => ?_)
    · have e : pu_in g (r + 1) p x = x := by unfold pu_in; rw [if_pos (pu_nI_inj (Nat.lt_of_le_of_lt (Nat.div_le_self _ _) (by omega)) (by decide) (c21.trans nI_0.symm))]
      rw [e] at hout
      exact hout p
    · have hz : ¬ x / 2 ^ p = 0 := fun e => c21 (by rw [e]; exact nI_0)
      have hp8 : p < 8 := Nat.lt_of_not_le (fun h => hz (Nat.div_eq_of_lt (Nat.lt_of_lt_of_le hx (Nat.pow_le_pow_right (n := 2) (i := 8) (by decide) h))))
      refine wp_iload_n (q := 25) d_Y_aboveOf_24 rfl rfl rfl ?_
      refine wp_iload_n (q := 26) d_Y_aboveOf_25 rfl rfl rfl ?_
      refine wp_iload (q := 28) d_Y_aboveOf_26 rfl rfl ?_
      refine wp_ishr (q := 29) d_Y_aboveOf_28 rfl ?_
      refine wp_iconst (q := 30) (v := 1) d_Y_aboveOf_29 rfl (by decide) ?_
      refine wp_iand (q := 31) d_Y_aboveOf_30 rfl ?_
      rw [pu_has (by omega) (by omega)]
      refine wp_iconst (q := 32) (v := 1) d_Y_aboveOf_31 rfl (by decide) ?_
      refine wp_icmp_ne (q := 35) (tgt := 42) d_Y_aboveOf_32 (by decide) rfl (fun c32 => ?_) (fun c32 => ?_)
      · have hb : x.testBit p = false := by cases h : x.testBit p with | false => rfl | true => rw [h] at c32; exact absurd rfl c32
        refine wp_iconst (q := 43) (v := 0) d_Y_aboveOf_42 rfl (by decide) ?_
        refine wp_ior (q := 44) d_Y_aboveOf_43 rfl ?_
        rw [show (0 : Int32) = nI 0 from rfl, pu_or, Nat.or_zero]
        refine wp_istore_n (q := 45) d_Y_aboveOf_44 rfl rfl (Nat.le_of_ble_eq_true rfl) rfl ?_
        refine wp_inc1 (q := 48) d_Y_aboveOf_45 rfl rfl (nI_1 _) (Nat.le_of_ble_eq_true rfl) rfl ?_
        refine wp_goto (tgt := 17) d_Y_aboveOf_48 (by decide) ?_
        have e : pu_in g (r + 1) p x = pu_in g r (p + 1) x := by rw [pu_in, if_neg hz, hb]; rfl
        rw [e] at hout
        exact ih (p + 1) x (by omega) hx hout
      · have hb : x.testBit p = true := pu_h1.mp c32
        refine wp_aload_n (q := 36) d_Y_aboveOf_35 rfl rfl rfl ?_
        refine wp_iload (q := 38) d_Y_aboveOf_36 rfl rfl ?_
        refine wp_ialoadN (q := 39) d_Y_aboveOf_38 rfl hc rfl hp8 (by decide) ?_
        refine wp_goto (tgt := 43) d_Y_aboveOf_39 (by decide) ?_
        refine wp_ior (q := 44) d_Y_aboveOf_43 rfl ?_
        rw [pu_or]
        refine wp_istore_n (q := 45) d_Y_aboveOf_44 rfl rfl (Nat.le_of_ble_eq_true rfl) rfl ?_
        refine wp_inc1 (q := 48) d_Y_aboveOf_45 rfl rfl (nI_1 _) (Nat.le_of_ble_eq_true rfl) rfl ?_
        refine wp_goto (tgt := 17) d_Y_aboveOf_48 (by decide) ?_
        have e : pu_in g (r + 1) p x = pu_in g r (p + 1) (x ||| g p) := by rw [pu_in, if_neg hz, hb]; rfl
        rw [e] at hout
        exact ih (p + 1) (x ||| g p) (by omega) (pu_or_lt hx (hg p)) hout
set_option maxHeartbeats 4000000 in
set_option maxRecDepth 100000 in
theorem y_above_O {w : am_W} {a : Nat} {g : Nat → Nat} (hc : w[a]? = some (am_ar 8 g)) (hg : ∀ i, g i < 256) {s : Nat} (hs : s < 256) : ∀ (b x : Nat) (z : Int32), 256 - x < b → x < 256 → SU s x → SU x (pu_cl g 8 8 s) → ¬ nI x = z → am_Wp none m_Y_aboveOf 0 0 0 5 [(0, .ref 35), (1, .ref a), (2, .int (nI s)), (3, .int (nI x)), (4, .int z)] [] w (am_R (some (.int (nI (pu_cl g 8 8 s)))) w) := by
  have hcl := pu_cl_clo hg hs
  intro b
  induction b with
  | zero => intro x z h; exact absurd h (Nat.not_lt_zero _)
  | succ b ih =>
    intro x z hb hx h1 h2 hz
    refine wp_iload_n (q := 6) d_Y_aboveOf_5 rfl rfl rfl ?_
    refine wp_iload (q := 8) d_Y_aboveOf_6 rfl rfl ?_
    refine wp_icmp_eq (q := 11) (tgt := 54) d_Y_aboveOf_8 (by decide) rfl (fun c8 => absurd c8 hz) (fun _ => ?_)
    refine wp_iload_n (q := 12) d_Y_aboveOf_11 rfl rfl rfl ?_
    refine wp_istore (q := 14) d_Y_aboveOf_12 rfl (Nat.le_of_ble_eq_true rfl) rfl ?_
    refine wp_iconst (q := 15) (v := 0) d_Y_aboveOf_14 rfl (by decide) ?_
    refine wp_istore (q := 17) d_Y_aboveOf_15 rfl (Nat.le_of_ble_eq_true rfl) rfl ?_
    refine y_above_I hc hg 9 0 x rfl hx (fun q => ?_)
    refine wp_goto (tgt := 5) d_Y_aboveOf_51 (by decide) ?_
    refine wp_lo [(0, .ref 35), (1, .ref a), (2, .int (nI s)), (3, .int (nI (pu_in g 9 0 x))), (4, .int (nI x))] ⟨rfl, rfl, rfl, rfl, rfl, trivial⟩ ?_
    have hlt := pu_in_lt hg (k := 9) (p := 0) hx
    have hle := pu_in_le hcl.2.1 (k := 9) (p := 0) h2
    by_cases e : pu_in g 9 0 x = x
    · rw [e]
      have hcd : CD g x := fun i hi => pu_in_fix e i (Nat.zero_le _) (by have := pu_bit_lt (n := 8) hx hi; omega) hi
      have e2 : x = pu_cl g 8 8 s := SU.an h2 (hcl.2.2 x h1 hcd)
      refine wp_iload_n (q := 6) d_Y_aboveOf_5 rfl rfl rfl ?_
      refine wp_iload (q := 8) d_Y_aboveOf_6 rfl rfl ?_
      refine wp_icmp_eq (q := 11) (tgt := 54) d_Y_aboveOf_8 (by decide) rfl (fun _ => ?_) (fun c8 => absurd rfl c8)
      refine wp_iload_n (q := 55) d_Y_aboveOf_54 rfl rfl rfl ?_
      exact wp_ireturn rfl d_Y_aboveOf_55 ⟨by rw [← e2], rfl⟩
    · have hlt2 : x < pu_in g 9 0 x := Nat.lt_of_le_of_ne (SU.le pu_in_su) (fun h => e h.symm)
      exact ih (pu_in g 9 0 x) (nI x) (by omega) hlt (h1.tr pu_in_su) hle (fun h => e (pu_nI_inj (by omega) (by omega) h))
set_option maxHeartbeats 4000000 in
set_option maxRecDepth 100000 in
theorem y_above {w : am_W} {a : Nat} {g : Nat → Nat} (hc : w[a]? = some (am_ar 8 g)) (hg : ∀ i, g i < 256) {s : Nat} (hs : s < 256) : am_Wp none m_Y_aboveOf 0 0 0 0 [(0, .ref 35), (1, .ref a), (2, .int (nI s))] [] w (am_R (some (.int (nI (pu_cl g 8 8 s)))) w) := by
  refine wp_iload_n (q := 1) d_Y_aboveOf_0 rfl rfl rfl ?_
  refine wp_istore_n (q := 2) d_Y_aboveOf_1 rfl rfl (Nat.le_of_ble_eq_true rfl) rfl ?_
  refine wp_iconst (q := 3) (v := -1) d_Y_aboveOf_2 rfl (by decide) ?_
  refine wp_istore (q := 5) d_Y_aboveOf_3 rfl (Nat.le_of_ble_eq_true rfl) rfl ?_
  exact y_above_O hc hg hs 257 s (-1) (by omega) hs SU.rf pu_cl_su (fun h => by have h2 := nI_pos' (n := s) (by omega); rw [h] at h2; exact absurd h2 (by decide))
set_option maxHeartbeats 4000000 in
set_option maxRecDepth 100000 in
theorem y_isArc {n k : Nat} {P : Nat → Nat} {H : Nat → Int32} {O : Nat → Nat} {ik : Bool} {kn : Nat} {KP : Nat → Nat} {ic : Bool} {fz sm : Nat} {w : am_W} (hY : YI n k P H O ik kn KP ic fz sm w) (hP : ∀ i, P i < 256) {i j : Nat} (hi : i < 8) (hj : j < 8) : am_Wp none m_Y_isArc 0 0 0 0 [(0, .ref 35), (1, .int (nI i)), (2, .int (nI j))] [] w (am_R (some (.int (pu_b ((P j).testBit i)))) w) := by
  refine wp_aload_n (q := 1) d_Y_isArc_0 rfl rfl rfl ?_
  refine wp_get (q := 4) (k := 2) d_Y_isArc_1 rfl ok_Y (Nat.le_of_ble_eq_true rfl) fk_Y_7 hY.1 rfl ?_
  refine wp_iload_n (q := 5) d_Y_isArc_4 rfl rfl rfl ?_
  refine wp_ialoadN (q := 6) d_Y_isArc_5 rfl hY.2.1 rfl hj (by decide) ?_
  refine wp_iload_n (q := 7) d_Y_isArc_6 rfl rfl rfl ?_
  refine wp_ishr (q := 8) d_Y_isArc_7 rfl ?_
  refine wp_iconst (q := 9) (v := 1) d_Y_isArc_8 rfl (by decide) ?_
  refine wp_iand (q := 10) d_Y_isArc_9 rfl ?_
  rw [pu_has (Nat.lt_trans (hP j) (by decide)) (by omega)]
  refine wp_iconst (q := 11) (v := 1) d_Y_isArc_10 rfl (by decide) ?_
  refine wp_icmp_ne (q := 14) (tgt := 18) d_Y_isArc_11 (by decide) rfl (fun c11 => ?_) (fun c11 => ?_)
  · refine wp_iconst (q := 19) (v := 0) d_Y_isArc_18 rfl (by decide) ?_
    exact wp_zreturn rfl rfl d_Y_isArc_19 ⟨by cases h : (P j).testBit i with | false => rfl | true => rw [h] at c11; exact absurd rfl c11, rfl⟩
  · refine wp_iconst (q := 15) (v := 1) d_Y_isArc_14 rfl (by decide) ?_
    refine wp_goto (tgt := 19) d_Y_isArc_15 (by decide) ?_
    exact wp_zreturn rfl rfl d_Y_isArc_19 ⟨by rw [pu_h1.mp c11]; rfl, rfl⟩
set_option maxHeartbeats 4000000 in
set_option maxRecDepth 100000 in
theorem y_isRow {n k : Nat} {P : Nat → Nat} {H : Nat → Int32} {O : Nat → Nat} {ik : Bool} {kn : Nat} {KP : Nat → Nat} {ic : Bool} {fz sm : Nat} {w : am_W} (hY : YI n k P H O ik kn KP ic fz sm w) (hn : n ≤ 8) (hP : ∀ i, P i < 256) {x r : Int32} : am_Wp none m_Y_isRow 1 0 0 0 [(0, .ref 35), (1, .int x), (2, .int r)] [] w (am_R (some (.int (pu_q (RO n P x r)))) w) := by
  refine wp_aload_n (q := 1) d_Y_isRow_0 rfl rfl rfl ?_
  refine wp_iload_n (q := 2) d_Y_isRow_1 rfl rfl rfl ?_
  refine wp_cV1r (q := 5) d_Y_isRow_2 rfl bd_Y_isPlace lk_Y_77 im_Y_isPlace se_Y_isPlace rfl (Nat.le_of_ble_eq_true rfl) (Nat.le_of_ble_eq_true rfl) hY.1 (Nat.le_of_ble_eq_true rfl) (y_isPlace hY hn) ?_
  refine wp_if_eq (q := 8) (tgt := 31) d_Y_isRow_5 (by decide) rfl (fun c5 => ?_) (fun c5 => ?_)
  · refine wp_iconst (q := 32) (v := 0) d_Y_isRow_31 rfl (by decide) ?_
    exact wp_zreturn rfl rfl d_Y_isRow_32 ⟨by rw [pu_q_f (fun ⟨i, j, hi, hj, e1, e2⟩ => pu_q0 c5 ⟨i, hi, e1⟩)], rfl⟩
  · obtain ⟨i, hi, rfl⟩ := pu_q1 c5
    have hp := pu_p2e (Nat.le_trans (pu_pop_le 8 (P i)) (Nat.le_refl 8))
    refine wp_iload_n (q := 9) d_Y_isRow_8 rfl rfl rfl ?_
    refine wp_if_lt (q := 12) (tgt := 31) d_Y_isRow_9 (by decide) rfl (fun c9 => ?_) (fun c9 => ?_)
    · refine wp_iconst (q := 32) (v := 0) d_Y_isRow_31 rfl (by decide) ?_
      exact wp_zreturn rfl rfl d_Y_isRow_32 ⟨by rw [pu_q_f (fun ⟨i, j, hi, hj, e1, e2⟩ => by have hp := pu_p2e (Nat.le_trans (pu_pop_le 8 (P i)) (Nat.le_refl 8)); rw [e2] at c9; exact nI_pos (by omega) c9)], rfl⟩
    · refine wp_iload_n (q := 13) d_Y_isRow_12 rfl rfl rfl ?_
      refine wp_iconst (q := 14) (v := 1) d_Y_isRow_13 rfl (by decide) ?_
      refine wp_aload_n (q := 15) d_Y_isRow_14 rfl rfl rfl ?_
      refine wp_get (q := 18) (k := 2) d_Y_isRow_15 rfl ok_Y (Nat.le_of_ble_eq_true rfl) fk_Y_7 hY.1 rfl ?_
      refine wp_iload_n (q := 19) d_Y_isRow_18 rfl rfl rfl ?_
      refine wp_ialoadN (q := 20) d_Y_isRow_19 rfl hY.2.1 rfl (by omega) (by decide) ?_
      refine wp_cS1r (q := 23) d_Y_isRow_20 rfl bd_Y_many lk_Y_96 sm_Y_many (Nat.le_of_ble_eq_true rfl) (Nat.le_of_ble_eq_true rfl) (Nat.le_of_ble_eq_true rfl) (y_many (Nat.lt_trans (hP i) (by decide))) ?_
      refine wp_ishl (q := 24) d_Y_isRow_23 rfl ?_
      rw [pu_pop8 (hP i), pu_bit _ (Nat.lt_of_le_of_lt (pu_pop_le 8 (P i)) (by decide))]
      refine wp_icmp_ge (q := 27) (tgt := 31) d_Y_isRow_24 (by decide) rfl (fun c24 => ?_) (fun c24 => ?_)
      · refine wp_iconst (q := 32) (v := 0) d_Y_isRow_31 rfl (by decide) ?_
        exact wp_zreturn rfl rfl d_Y_isRow_32 ⟨by rw [pu_q_f (fun ⟨i', j, hi', hj, e1, e2⟩ => by rw [← pu_nI_inj (by omega) (by omega) e1] at hj; rw [e2] at c24; exact nI_ge hj (by omega) c24)], rfl⟩
      · refine wp_iconst (q := 28) (v := 1) d_Y_isRow_27 rfl (by decide) ?_
        refine wp_goto (tgt := 32) d_Y_isRow_28 (by decide) ?_
        exact wp_zreturn rfl rfl d_Y_isRow_32 ⟨by rw [pu_q_t (by rcases pk_ix r (n := 2 ^ pu_pop 8 (P i)) (by omega) with h | h | ⟨j, hj, e⟩; exact absurd h c9; exact absurd h c24; exact ⟨i, j, hi, hj, rfl, e⟩)], rfl⟩
