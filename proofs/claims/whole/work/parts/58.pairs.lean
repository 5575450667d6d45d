/-! PAIRS: the same call to both objects -/
theorem am_wk {sc : am_S} {M : am_M} {d bc bs pc d' : Nat} {ls : am_L} {st : List Value} {w : am_W} {F F' : Option Value → am_W → Prop} (h : am_Wp sc M d bc bs pc ls st w F) (hd : d ≤ d') (hF : ∀ v w1, F v w1 → F' v w1) : am_Wp sc M d' bc bs pc ls st w F' := by
  intro p l e R s m args below meth c Q tc D A C0 r H locs cells slots mc ms sl hS hl wl ws h1 h2 h3 h4 hE
  obtain ⟨a1, a2, a3, a4, a5, a6, a7, a8, a9, a10, a11, a12, a13⟩ := C0
  exact h p l e R s m args below meth c Q tc D A ⟨a1, a2, a3, a4, a5, a6, a7, a8, a9, a10, a11, by omega, by omega⟩ r H locs cells slots mc ms sl hS hl wl ws h1 h2 h3 h4 (fun v w1 r1 H1 locs1 c1 s1 p1 sl1 f => hE v w1 r1 H1 locs1 c1 s1 p1 sl1 (hF v w1 f))
/-- both objects stand as they should -/
def INV (w : am_W) : Prop := ∃ (n k : Nat) (P C : Nat → Nat) (kn kk : Nat) (KP KC : Nat → Nat) (ak : Bool) (E : Nat → Nat → Nat) (hd hv : Nat) (H : Nat → Int32) (O : Nat → Nat) (kn' : Nat) (KP' : Nat → Nat) (ic : Bool) (fz sm : Nat), XI n k P C kn kk KP KC ak E hd hv w ∧ YI n k P H O ak kn' KP' ic fz sm w ∧ RL n k P C kn KP KC ak E hd hv H O kn' KP' ic fz sm
/-- the same call to both: the same answer, and both stand as they should -/
def PAIR {T : Type} (c : T → Value) (MX MY : am_M) (as : List Value) (w : am_W) : Prop := ∃ (x : T) (J : am_W → Prop), am_Wp none MX 27 0 0 0 (lv_args 0 (.ref 0 :: as)) [] w (fun v w1 => v = some (c x) ∧ J w1) ∧ ∀ w1, J w1 → (∃ fs, w1[35]? = some (.inr (6, fs))) ∧ am_Wp none MY 6 0 0 0 (lv_args 0 (.ref 35 :: as)) [] w1 (fun v w2 => v = some (c x) ∧ INV w2)
theorem XI.r {n k : Nat} {P C : Nat → Nat} {kn kk : Nat} {KP KC : Nat → Nat} {ak : Bool} {E : Nat → Nat → Nat} {hd hv : Nat} {w : am_W} {M : am_M} {d : Nat} {ls : am_L} {x : Value} (hX : XI n k P C kn kk KP KC ak E hd hv w) (h : am_Wp none M d 0 0 0 ls [] w (am_R (some x) w)) : am_Wp none M d 0 0 0 ls [] w (fun v w1 => v = some x ∧ am_fr DX w w1 ∧ XI n k P C kn kk KP KC ak E hd hv w1) :=
  am_wk h (Nat.le_refl _) (fun v w1 q => by obtain ⟨rfl, rfl⟩ := q; exact ⟨rfl, am_fr.rf, hX⟩)
theorem YI.r {n k : Nat} {P : Nat → Nat} {H : Nat → Int32} {O : Nat → Nat} {ak : Bool} {kn' : Nat} {KP' : Nat → Nat} {ic : Bool} {fz sm : Nat} {w : am_W} {M : am_M} {d : Nat} {ls : am_L} {x : Value} (hY : YI n k P H O ak kn' KP' ic fz sm w) (h : am_Wp none M d 0 0 0 ls [] w (am_R (some x) w)) : am_Wp none M d 0 0 0 ls [] w (fun v w1 => v = some x ∧ YF DY w w1 ∧ YI n k P H O ak kn' KP' ic fz sm w1) :=
  am_wk h (Nat.le_refl _) (fun v w1 q => by obtain ⟨rfl, rfl⟩ := q; exact ⟨rfl, YF.rf, hY⟩)
theorem PAIR.mk {T : Type} {c : T → Value} {MX MY : am_M} {as : List Value} {w : am_W} {x y : T} {dX dY : Nat} {n0 k0 : Nat} {P0 : Nat → Nat} {H0 : Nat → Int32} {O0 : Nat → Nat} {ak0 : Bool} {kn0 : Nat} {KP0 : Nat → Nat} {ic0 : Bool} {fz0 sm0 : Nat} {n k : Nat} {P C : Nat → Nat} {kn kk : Nat} {KP KC : Nat → Nat} {ak : Bool} {E : Nat → Nat → Nat} {hd hv : Nat} {H : Nat → Int32} {O : Nat → Nat} {kn' : Nat} {KP' : Nat → Nat} {ic : Bool} {fz sm : Nat} (hX : am_Wp none MX dX 0 0 0 (lv_args 0 (.ref 0 :: as)) [] w (fun v w1 => v = some (c x) ∧ am_fr DX w w1 ∧ XI n k P C kn kk KP KC ak E hd hv w1)) (hYI : YI n0 k0 P0 H0 O0 ak0 kn0 KP0 ic0 fz0 sm0 w) (hY : ∀ w1, YI n0 k0 P0 H0 O0 ak0 kn0 KP0 ic0 fz0 sm0 w1 → am_Wp none MY dY 0 0 0 (lv_args 0 (.ref 35 :: as)) [] w1 (fun v w2 => v = some (c y) ∧ YF DY w1 w2 ∧ YI n k P H O ak kn' KP' ic fz sm w2)) (e : y = x) (hR : RL n k P C kn KP KC ak E hd hv H O kn' KP' ic fz sm) (d1 : dX ≤ 27) (d2 : dY ≤ 6) : PAIR c MX MY as w := by
  subst e
  refine ⟨y, fun w1 => XI n k P C kn kk KP KC ak E hd hv w1 ∧ YI n0 k0 P0 H0 O0 ak0 kn0 KP0 ic0 fz0 sm0 w1, am_wk hX d1 (fun v w1 q => ⟨q.1, q.2.2, hYI.x q.2.1⟩), fun w1 hJ => ⟨⟨_, hJ.2.1⟩, am_wk (hY w1 hJ.2) d2 (fun v w2 q => ⟨q.1, n, k, P, C, kn, kk, KP, KC, ak, E, hd, hv, H, O, kn', KP', ic, fz, sm, hJ.1.y q.2.1.1 (fun i hi => ?_), q.2.2, hR⟩)⟩⟩
  simp [DY] at hi
  omega
theorem pu_q_b {p : Prop} {b : Bool} (h : p ↔ b = true) : pu_b b = pu_q p := by
  cases b with
  | true => rw [pu_q_t (h.mpr rfl)]; rfl
  | false => rw [pu_q_f (fun q => by cases h.mp q)]; rfl
theorem pu_q_c {p q : Prop} (h : p ↔ q) : pu_q p = pu_q q := by rw [propext h]
theorem pu_ic {y : Int32} (h : ¬ (y.toInt < 0 ∨ 3 < y.toInt)) : y = 0 ∨ y = 1 ∨ y = 2 ∨ y = 3 := by
  rcases (show y.toInt = 0 ∨ y.toInt = 1 ∨ y.toInt = 2 ∨ y.toInt = 3 by omega) with q | q | q | q
  · exact Or.inl (Int32.toInt_inj.mp q)
  · exact Or.inr (Or.inl (Int32.toInt_inj.mp q))
  · exact Or.inr (Or.inr (Or.inl (Int32.toInt_inj.mp q)))
  · exact Or.inr (Or.inr (Or.inr (Int32.toInt_inj.mp q)))
theorem pu_ic4 {y : Int32} (h : ¬ (y.toInt < 0 ∨ 4 < y.toInt)) : y = 0 ∨ y = 1 ∨ y = 2 ∨ y = 3 ∨ y = 4 := by
  rcases (show y.toInt = 0 ∨ y.toInt = 1 ∨ y.toInt = 2 ∨ y.toInt = 3 ∨ y.toInt = 4 by omega) with q | q | q | q | q
  · exact Or.inl (Int32.toInt_inj.mp q)
  · exact Or.inr (Or.inl (Int32.toInt_inj.mp q))
  · exact Or.inr (Or.inr (Or.inl (Int32.toInt_inj.mp q)))
  · exact Or.inr (Or.inr (Or.inr (Or.inl (Int32.toInt_inj.mp q))))
  · exact Or.inr (Or.inr (Or.inr (Or.inr (Int32.toInt_inj.mp q))))
theorem p_clear {w : am_W} (h : INV w) : PAIR Value.int m_X_clear m_Y_clear [] w := by
  obtain ⟨n, k, P, C, kn, kk, KP, KC, ak, E, hd, hv, H, O, kn', KP', ic, fz, sm, hX, hY, hR⟩ := h
  have hW := hR.xw (kk := kk)
  have hV := hR.yw
  obtain ⟨g1, g2, g3, g4, g5, g6, g7, g8, g9, g10, g11, g12, g13, g14, g15, g16, g17, g18⟩ := id hR
  have hn := g1.1
  have hP0 : (fun j => if j < 8 then 0 else P j) = fun _ => 0 := by
    funext j
    by_cases q : j < 8
    · rw [if_pos q]
    · rw [if_neg q]; exact g1.2.2.1 j (by omega)
  refine PAIR.mk (c_X_clear hX hW) hY (fun w1 q => (by have := y_clear q; rw [hP0] at this; exact this)) rfl hR.clear (Nat.le_of_ble_eq_true rfl) (Nat.le_of_ble_eq_true rfl)

theorem p_place {w : am_W} (h : INV w) : PAIR Value.int m_X_place m_Y_place [] w := by
  obtain ⟨n, k, P, C, kn, kk, KP, KC, ak, E, hd, hv, H, O, kn', KP', ic, fz, sm, hX, hY, hR⟩ := h
  have hW := hR.xw (kk := kk)
  have hV := hR.yw
  obtain ⟨g1, g2, g3, g4, g5, g6, g7, g8, g9, g10, g11, g12, g13, g14, g15, g16, g17, g18⟩ := id hR
  have hn := g1.1
  have hP0 : pu_set P n 0 = P := by
    funext j
    unfold pu_set
    by_cases q : j = n
    · rw [if_pos q, q]; exact (g1.2.2.1 n (Nat.le_refl _)).symm
    · rw [if_neg q]
  by_cases h8 : n = 8
  · exact PAIR.mk (hX.r (c_X_place_full hX hW h8)) hY (fun w1 q => (q.r (y_place_full q h8))) rfl hR (Nat.le_of_ble_eq_true rfl) (Nat.le_of_ble_eq_true rfl)
  · have h8' : n < 8 := by omega
    exact PAIR.mk (c_X_place hX hW h8') hY (fun w1 q => (by have := y_place q h8'; rw [hP0] at this; exact this)) rfl (hR.place h8') (Nat.le_of_ble_eq_true rfl) (Nat.le_of_ble_eq_true rfl)

theorem p_arc {w : am_W} (h : INV w) {x y : Int32} : PAIR Value.int m_X_arc m_Y_arc [.int x, .int y] w := by
  obtain ⟨n, k, P, C, kn, kk, KP, KC, ak, E, hd, hv, H, O, kn', KP', ic, fz, sm, hX, hY, hR⟩ := h
  have hW := hR.xw (kk := kk)
  have hV := hR.yw
  obtain ⟨g1, g2, g3, g4, g5, g6, g7, g8, g9, g10, g11, g12, g13, g14, g15, g16, g17, g18⟩ := id hR
  have hn := g1.1
  by_cases hb : PR n x y
  · obtain ⟨i, j, hi, hj, hij, rfl, rfl⟩ := hb
    have fa : ∀ {x : Bool}, ¬ x = true → x = false := by intro x q; cases x <;> simp_all
    by_cases h1 : (P i ||| C i).testBit j = true
    · refine PAIR.mk (hX.r (c_X_arc_joined hX hW hi hj hij h1)) hY (fun w1 q => (q.r (y_arc_joined q hV hi hj hij ?_))) rfl hR (Nat.le_of_ble_eq_true rfl) (Nat.le_of_ble_eq_true rfl)
      rw [Nat.testBit_or, Bool.or_eq_true, g2 i j] at h1
      exact h1.symm
    · have h1' := fa h1
      have h1a : (P i).testBit j = false := fa (fun q => h1 (by rw [Nat.testBit_or, q]; rfl))
      have h1b : (P j).testBit i = false := fa (fun q => h1 (by rw [Nat.testBit_or, g2 i j, q, Bool.or_true]))
      have hP8 : ∀ i, P i < 256 := fun i => pu_lt8 hn (g1.2.1 i)
      have hC8 : ∀ i, C i < 256 := fun i => pu_lt8 hn (g2.lt g1 i)
      by_cases h2 : (pu_cl C 8 8 (2 ^ j)).testBit i = true
      · exact PAIR.mk (hX.r (c_X_arc_ring hX hW hi hj hij h1' h2)) hY (fun w1 q => (q.r (y_arc_ring q hV hi hj hij h1b h1a (g2.ring hP8 (by omega) (by omega) h2)))) rfl hR (Nat.le_of_ble_eq_true rfl) (Nat.le_of_ble_eq_true rfl)
      · have h2' := fa h2
        have h2r : (pu_cl P 8 8 (2 ^ i)).testBit j = false := fa (fun w => h2 (g2.sy.ring hC8 (by omega) (by omega) w))
        by_cases h3 : k = 10
        · exact PAIR.mk (hX.r (c_X_arc_full hX hW hi hj hij h1' h2' h3)) hY (fun w1 q => (q.r (y_arc_full q hV hi hj hij h1b h1a h2r h3))) rfl hR (Nat.le_of_ble_eq_true rfl) (Nat.le_of_ble_eq_true rfl)
        · have h3' : k < 10 := by omega
          exact PAIR.mk (c_X_arc hX hW hi hj hij h1' h2' h3') hY (fun w1 q => (y_arc q hV hi hj hij h1b h1a h2r h3')) rfl (hR.arc hi hj h1b h2r h3') (Nat.le_of_ble_eq_true rfl) (Nat.le_of_ble_eq_true rfl)
  · exact PAIR.mk (hX.r (c_X_arc_bad hX hW hb)) hY (fun w1 q => (q.r (y_arc_bad q hV hb))) rfl hR (Nat.le_of_ble_eq_true rfl) (Nat.le_of_ble_eq_true rfl)

theorem p_cut {w : am_W} (h : INV w) {x y : Int32} : PAIR Value.int m_X_cut m_Y_cut [.int x, .int y] w := by
  obtain ⟨n, k, P, C, kn, kk, KP, KC, ak, E, hd, hv, H, O, kn', KP', ic, fz, sm, hX, hY, hR⟩ := h
  have hW := hR.xw (kk := kk)
  have hV := hR.yw
  obtain ⟨g1, g2, g3, g4, g5, g6, g7, g8, g9, g10, g11, g12, g13, g14, g15, g16, g17, g18⟩ := id hR
  have hn := g1.1
  by_cases hb : PR n x y
  · obtain ⟨i, j, hi, hj, hij, rfl, rfl⟩ := hb
    cases h1 : (P j).testBit i with
    | false => exact PAIR.mk (hX.r (c_X_cut_none hX hW hi hj hij (by rw [g2 i j]; exact h1))) hY (fun w1 q => (q.r (y_cut_none q hV hi hj hij h1))) rfl hR (Nat.le_of_ble_eq_true rfl) (Nat.le_of_ble_eq_true rfl)
    | true =>
      obtain ⟨hk1, hR1⟩ := hR.cut hi hj h1
      exact PAIR.mk (c_X_cut hX hW hi hj hij hk1 (by rw [g2 i j]; exact h1)) hY (fun w1 q => (y_cut q hV hi hj hij h1 hk1)) rfl hR1 (Nat.le_of_ble_eq_true rfl) (Nat.le_of_ble_eq_true rfl)
  · exact PAIR.mk (hX.r (c_X_cut_bad hX hW hb)) hY (fun w1 q => (q.r (y_cut_bad q hV hb))) rfl hR (Nat.le_of_ble_eq_true rfl) (Nat.le_of_ble_eq_true rfl)

theorem p_odds {w : am_W} (h : INV w) {x y z : Int32} : PAIR Value.int m_X_odds m_Y_odds [.int x, .int y, .int z] w := by
  obtain ⟨n, k, P, C, kn, kk, KP, KC, ak, E, hd, hv, H, O, kn', KP', ic, fz, sm, hX, hY, hR⟩ := h
  have hW := hR.xw (kk := kk)
  have hV := hR.yw
  obtain ⟨g1, g2, g3, g4, g5, g6, g7, g8, g9, g10, g11, g12, g13, g14, g15, g16, g17, g18⟩ := id hR
  have hn := g1.1
  by_cases hb : RO n P x y ∧ ∃ e, e ≤ 8 ∧ z = nI e
  · obtain ⟨⟨i, j, hi, hj, rfl, rfl⟩, e, he, rfl⟩ := hb
    have hj128 : j < 128 := by
      have q3 := g1.pop hi
      have q4 : 2 ^ pu_pop 8 (P i) ≤ 2 ^ 7 := Nat.pow_le_pow_right (by decide) q3
      omega
    exact PAIR.mk (c_X_odds hX hW hi hj he) hY (fun w1 q => (y_odds q hV hi hj he)) (by rw [g11 i j hi hj128]) (hR.odds hj128 he) (Nat.le_of_ble_eq_true rfl) (Nat.le_of_ble_eq_true rfl)
  · exact PAIR.mk (hX.r (c_X_odds_bad hX hW hb)) hY (fun w1 q => (q.r (y_odds_bad q hV hb))) rfl hR (Nat.le_of_ble_eq_true rfl) (Nat.le_of_ble_eq_true rfl)

theorem p_told {w : am_W} (h : INV w) {x y : Int32} : PAIR Value.int m_X_told m_Y_told [.int x, .int y] w := by
  obtain ⟨n, k, P, C, kn, kk, KP, KC, ak, E, hd, hv, H, O, kn', KP', ic, fz, sm, hX, hY, hR⟩ := h
  have hW := hR.xw (kk := kk)
  have hV := hR.yw
  obtain ⟨g1, g2, g3, g4, g5, g6, g7, g8, g9, g10, g11, g12, g13, g14, g15, g16, g17, g18⟩ := id hR
  have hn := g1.1
  by_cases hb : RO n P x y
  · obtain ⟨i, j, hi, hj, rfl, rfl⟩ := hb
    have hj128 : j < 128 := by
      have q3 := g1.pop hi
      have q4 : 2 ^ pu_pop 8 (P i) ≤ 2 ^ 7 := Nat.pow_le_pow_right (by decide) q3
      omega
    exact PAIR.mk (hX.r (c_X_told hX hW hi hj)) hY (fun w1 q => (q.r (y_told q hV hi hj))) (by rw [g11 i j hi hj128]) hR (Nat.le_of_ble_eq_true rfl) (Nat.le_of_ble_eq_true rfl)
  · exact PAIR.mk (hX.r (c_X_told_bad hX hW hb)) hY (fun w1 q => (q.r (y_told_bad q hV hb))) rfl hR (Nat.le_of_ble_eq_true rfl) (Nat.le_of_ble_eq_true rfl)

theorem p_hold {w : am_W} (h : INV w) {x z : Int32} : PAIR Value.int m_X_hold m_Y_hold [.int x, .int z] w := by
  obtain ⟨n, k, P, C, kn, kk, KP, KC, ak, E, hd, hv, H, O, kn', KP', ic, fz, sm, hX, hY, hR⟩ := h
  have hW := hR.xw (kk := kk)
  have hV := hR.yw
  obtain ⟨g1, g2, g3, g4, g5, g6, g7, g8, g9, g10, g11, g12, g13, g14, g15, g16, g17, g18⟩ := id hR
  have hn := g1.1
  by_cases hb : PL n x ∧ (z = -1 ∨ z = 0 ∨ z = 1)
  · obtain ⟨⟨i, hi, rfl⟩, hz⟩ := hb
    rcases hz with rfl | rfl | rfl
    · exact PAIR.mk (c_X_hold0 hX hW hi) hY (fun w1 q => (y_hold q hV hi (Or.inl rfl))) (g8 i (by omega)) hR.hold0 (Nat.le_of_ble_eq_true rfl) (Nat.le_of_ble_eq_true rfl)
    · exact PAIR.mk (c_X_hold1 hX hW hi false) hY (fun w1 q => (y_hold q hV hi (Or.inr (Or.inl rfl)))) (g8 i (by omega)) (hR.hold1 hi false) (Nat.le_of_ble_eq_true rfl) (Nat.le_of_ble_eq_true rfl)
    · exact PAIR.mk (c_X_hold1 hX hW hi true) hY (fun w1 q => (y_hold q hV hi (Or.inr (Or.inr rfl)))) (g8 i (by omega)) (hR.hold1 hi true) (Nat.le_of_ble_eq_true rfl) (Nat.le_of_ble_eq_true rfl)
  · exact PAIR.mk (hX.r (c_X_hold_bad hX hW hb)) hY (fun w1 q => (q.r (y_hold_bad q hV hb))) rfl hR (Nat.le_of_ble_eq_true rfl) (Nat.le_of_ble_eq_true rfl)

theorem p_of {w : am_W} (h : INV w) {x y : Int32} : PAIR Value.int m_X_of m_Y_of [.int x, .int y] w := by
  obtain ⟨n, k, P, C, kn, kk, KP, KC, ak, E, hd, hv, H, O, kn', KP', ic, fz, sm, hX, hY, hR⟩ := h
  have hW := hR.xw (kk := kk)
  have hV := hR.yw
  obtain ⟨g1, g2, g3, g4, g5, g6, g7, g8, g9, g10, g11, g12, g13, g14, g15, g16, g17, g18⟩ := id hR
  have hn := g1.1
  by_cases hp : PL n x
  · obtain ⟨i, hi, rfl⟩ := hp
    by_cases hy : y.toInt < 0 ∨ 4 < y.toInt
    · refine PAIR.mk (hX.r (c_X_of_out hX hW hi hy)) hY (fun w1 q => (q.r (y_of_bad q hV ?_))) rfl hR (Nat.le_of_ble_eq_true rfl) (Nat.le_of_ble_eq_true rfl)
      rintro ⟨-, e, he, rfl⟩
      rcases (show e = 0 ∨ e = 1 ∨ e = 2 ∨ e = 3 ∨ e = 4 by omega) with rfl | rfl | rfl | rfl | rfl <;> exact absurd hy (by decide)
    · have hch : C i = pu_ych P n i := pu_eqb (fun b => by
        rw [pu_ych_bit, g2 i b]
        exact ⟨fun e => ⟨(g1.fin e).2, e⟩, fun e => e.2⟩)
      have hgo : pu_go C hd 0 = pu_ych (pu_yc n P H) 8 := by
        rw [← pu_gi_yc g1 g8]
        exact (pu_gio_du g1 g2).ych (pu_gi_z g1)
      rcases pu_ic4 hy with rfl | rfl | rfl | rfl | rfl
      · exact PAIR.mk (hX.r (c_X_of0 hX hW hi)) hY (fun w1 q => (q.r (y_of0 q hV hi))) rfl hR (Nat.le_of_ble_eq_true rfl) (Nat.le_of_ble_eq_true rfl)
      · exact PAIR.mk (hX.r (c_X_of1 hX hW hi)) hY (fun w1 q => (q.r (y_of1 q hV hi))) (by rw [hch]) hR (Nat.le_of_ble_eq_true rfl) (Nat.le_of_ble_eq_true rfl)
      · exact PAIR.mk (c_X_of2 hX hW hi) hY (fun w1 q => (y_of2 q hV hi)) (by rw [hgo]) hR (Nat.le_of_ble_eq_true rfl) (Nat.le_of_ble_eq_true rfl)
      · exact PAIR.mk (hX.r (c_X_of3 hX hW hi)) hY (fun w1 q => (q.r (y_of3 q hV hi))) (g8 i (by omega)) hR (Nat.le_of_ble_eq_true rfl) (Nat.le_of_ble_eq_true rfl)
      · exact PAIR.mk (hX.r (c_X_of4 hX hW hi)) hY (fun w1 q => (q.r (y_of4 q hV hi))) rfl hR (Nat.le_of_ble_eq_true rfl) (Nat.le_of_ble_eq_true rfl)
  · exact PAIR.mk (hX.r (c_X_of_bad hX hW hp)) hY (fun w1 q => (q.r (y_of_bad q hV (fun w => hp w.1)))) rfl hR (Nat.le_of_ble_eq_true rfl) (Nat.le_of_ble_eq_true rfl)

theorem p_separated {w : am_W} (h : INV w) {x y z : Int32} : PAIR Value.int m_X_separated m_Y_separated [.int x, .int y, .int z] w := by
  obtain ⟨n, k, P, C, kn, kk, KP, KC, ak, E, hd, hv, H, O, kn', KP', ic, fz, sm, hX, hY, hR⟩ := h
  have hW := hR.xw (kk := kk)
  have hV := hR.yw
  obtain ⟨g1, g2, g3, g4, g5, g6, g7, g8, g9, g10, g11, g12, g13, g14, g15, g16, g17, g18⟩ := id hR
  have hn := g1.1
  by_cases hb : QU n x y z
  · obtain ⟨i, j, t, hi, hj, hij, ht, rfl, rfl, rfl, hti, htj⟩ := hb
    have hgl : ∀ no p, pu_go C hd no p < 256 := fun no p => by
      unfold pu_go
      cases no.testBit p with
      | true => exact (by decide : 0 < 256)
      | false => exact pu_dif_lt (pu_lt8 hn (g2.lt g1 p))
    refine PAIR.mk (c_X_separated hX hW hi hj hij ht hti htj) hY (fun w1 q => (y_separated q hV g1.2.1 hi hj hij ht hti htj)) ?_ hR (Nat.le_of_ble_eq_true rfl) (Nat.le_of_ble_eq_true rfl)
    refine pu_q_b ?_
    rw [← pu_gi_yc g1 g8]
    exact pu_sw_sp hn (pu_gi_ltn g1 hd 0) (hgl 0) (pu_gio_du g1 g2) ht hi hj hij hti htj
  · exact PAIR.mk (hX.r (c_X_separated_bad hX hW hb)) hY (fun w1 q => (q.r (y_separated_bad q hV hb))) rfl hR (Nat.le_of_ble_eq_true rfl) (Nat.le_of_ble_eq_true rfl)

theorem p_walk {w : am_W} (h : INV w) {x y z : Int32} : PAIR Value.int m_X_walk m_Y_walk [.int x, .int y, .int z] w := by
  obtain ⟨n, k, P, C, kn, kk, KP, KC, ak, E, hd, hv, H, O, kn', KP', ic, fz, sm, hX, hY, hR⟩ := h
  have hW := hR.xw (kk := kk)
  have hV := hR.yw
  obtain ⟨g1, g2, g3, g4, g5, g6, g7, g8, g9, g10, g11, g12, g13, g14, g15, g16, g17, g18⟩ := id hR
  have hn := g1.1
  by_cases hb : QU n x y z
  · obtain ⟨i, j, t, hi, hj, hij, ht, rfl, rfl, rfl, hti, htj⟩ := hb
    have hgo : pu_go C hd 0 = pu_ych (pu_yc n P H) 8 := by
      rw [← pu_gi_yc g1 g8]
      exact (pu_gio_du g1 g2).ych (pu_gi_z g1)
    refine PAIR.mk (c_X_walk hX hW hi hj hij ht hti htj) hY (fun w1 q => (y_walk q hV g1.2.1 hi hj hij ht hti htj)) ?_ hR (Nat.le_of_ble_eq_true rfl) (Nat.le_of_ble_eq_true rfl)
    rw [← hgo, ← pu_gi_yc g1 g8]
    rfl
  · exact PAIR.mk (hX.r (c_X_walk_bad hX hW hb)) hY (fun w1 q => (q.r (y_walk_bad q hV hb))) rfl hR (Nat.le_of_ble_eq_true rfl) (Nat.le_of_ble_eq_true rfl)

theorem p_weight {w : am_W} (h : INV w) {x y : Int32} : PAIR Value.long m_X_weight m_Y_weight [.int x, .int y] w := by
  obtain ⟨n, k, P, C, kn, kk, KP, KC, ak, E, hd, hv, H, O, kn', KP', ic, fz, sm, hX, hY, hR⟩ := h
  have hW := hR.xw (kk := kk)
  have hV := hR.yw
  obtain ⟨g1, g2, g3, g4, g5, g6, g7, g8, g9, g10, g11, g12, g13, g14, g15, g16, g17, g18⟩ := id hR
  have hn := g1.1
  by_cases hb : SE n x ∧ SE n y
  · obtain ⟨⟨t, ht, rfl⟩, v, hv0, rfl⟩ := hb
    have hwt : pu_wt P E n hd hv = pu_yw n P H O := funext (fun v => pu_wt_yw g1 g6 g8 g11 v)
    refine PAIR.mk (hX.r (c_X_weight hX hW ht hv0)) hY (fun w1 q => (y_weight q hV ht hv0)) ?_ hR (Nat.le_of_ble_eq_true rfl) (Nat.le_of_ble_eq_true rfl)
    rw [hwt]
  · exact PAIR.mk (hX.r (c_X_weight_bad hX hW hb)) hY (fun w1 q => (q.r (y_weight_bad q hV hb))) rfl hR (Nat.le_of_ble_eq_true rfl) (Nat.le_of_ble_eq_true rfl)

theorem p_independent {w : am_W} (h : INV w) {x y z : Int32} : PAIR Value.int m_X_independent m_Y_independent [.int x, .int y, .int z] w := by
  obtain ⟨n, k, P, C, kn, kk, KP, KC, ak, E, hd, hv, H, O, kn', KP', ic, fz, sm, hX, hY, hR⟩ := h
  have hW := hR.xw (kk := kk)
  have hV := hR.yw
  obtain ⟨g1, g2, g3, g4, g5, g6, g7, g8, g9, g10, g11, g12, g13, g14, g15, g16, g17, g18⟩ := id hR
  have hn := g1.1
  by_cases hb : QU n x y z
  · obtain ⟨i, j, t, hi, hj, hij, ht, rfl, rfl, rfl, hti, htj⟩ := hb
    have hwt : pu_wt P E n hd hv = pu_yw n P H O := funext (fun v => pu_wt_yw g1 g6 g8 g11 v)
    refine PAIR.mk (c_X_independent hX hW hi hj hij ht hti htj) hY (fun w1 q => (y_independent q hV hi hj hij ht hti htj)) ?_ hR (Nat.le_of_ble_eq_true rfl) (Nat.le_of_ble_eq_true rfl)
    rw [hwt]
  · exact PAIR.mk (hX.r (c_X_independent_bad hX hW hb)) hY (fun w1 q => (q.r (y_independent_bad q hV hb))) rfl hR (Nat.le_of_ble_eq_true rfl) (Nat.le_of_ble_eq_true rfl)

theorem p_differ {w : am_W} (h : INV w) {x y z : Int32} : PAIR Value.int m_X_differ m_Y_differ [.int x, .int y, .int z] w := by
  obtain ⟨n, k, P, C, kn, kk, KP, KC, ak, E, hd, hv, H, O, kn', KP', ic, fz, sm, hX, hY, hR⟩ := h
  have hW := hR.xw (kk := kk)
  have hV := hR.yw
  obtain ⟨g1, g2, g3, g4, g5, g6, g7, g8, g9, g10, g11, g12, g13, g14, g15, g16, g17, g18⟩ := id hR
  have hn := g1.1
  by_cases hb : QU n x y z
  · obtain ⟨i, j, t, hi, hj, hij, ht, rfl, rfl, rfl, hti, htj⟩ := hb
    have hwt : pu_wt P E n hd hv = pu_yw n P H O := funext (fun v => pu_wt_yw g1 g6 g8 g11 v)
    refine PAIR.mk (c_X_differ hX hW hi hj hij ht hti htj) hY (fun w1 q => (y_differ q hV hi hj hij ht hti htj)) ?_ hR (Nat.le_of_ble_eq_true rfl) (Nat.le_of_ble_eq_true rfl)
    rw [hwt]
  · exact PAIR.mk (hX.r (c_X_differ_bad hX hW hb)) hY (fun w1 q => (q.r (y_differ_bad q hV hb))) rfl hR (Nat.le_of_ble_eq_true rfl) (Nat.le_of_ble_eq_true rfl)

theorem p_blanket {w : am_W} (h : INV w) {x : Int32} : PAIR Value.int m_X_blanket m_Y_blanket [.int x] w := by
  obtain ⟨n, k, P, C, kn, kk, KP, KC, ak, E, hd, hv, H, O, kn', KP', ic, fz, sm, hX, hY, hR⟩ := h
  have hW := hR.xw (kk := kk)
  have hV := hR.yw
  obtain ⟨g1, g2, g3, g4, g5, g6, g7, g8, g9, g10, g11, g12, g13, g14, g15, g16, g17, g18⟩ := id hR
  have hn := g1.1
  by_cases hb : PL n x
  · obtain ⟨i, hi, rfl⟩ := hb
    exact PAIR.mk (c_X_blanket hX hW hi) hY (fun w1 q => (y_blanket q hV g1.2.1 hi)) (pu_blanket_eq g1 g2 g8 hi).symm hR (Nat.le_of_ble_eq_true rfl) (Nat.le_of_ble_eq_true rfl)
  · exact PAIR.mk (hX.r (c_X_blanket_bad hX hW hb)) hY (fun w1 q => (q.r (y_blanket_bad q hV hb))) rfl hR (Nat.le_of_ble_eq_true rfl) (Nat.le_of_ble_eq_true rfl)

theorem p_least {w : am_W} (h : INV w) {x y : Int32} : PAIR Value.int m_X_least m_Y_least [.int x, .int y] w := by
  obtain ⟨n, k, P, C, kn, kk, KP, KC, ak, E, hd, hv, H, O, kn', KP', ic, fz, sm, hX, hY, hR⟩ := h
  have hW := hR.xw (kk := kk)
  have hV := hR.yw
  obtain ⟨g1, g2, g3, g4, g5, g6, g7, g8, g9, g10, g11, g12, g13, g14, g15, g16, g17, g18⟩ := id hR
  have hn := g1.1
  by_cases hb : PR n x y
  · obtain ⟨i, j, hi, hj, hij, rfl, rfl⟩ := hb
    exact PAIR.mk (c_X_least hX hW hi hj hij) hY (fun w1 q => (y_least q hV g1.2.1 hi hj hij)) (pu_least_eq g1 g2 g8 hi hj hij).symm hR (Nat.le_of_ble_eq_true rfl) (Nat.le_of_ble_eq_true rfl)
  · exact PAIR.mk (hX.r (c_X_least_bad hX hW hb)) hY (fun w1 q => (q.r (y_least_bad q hV hb))) rfl hR (Nat.le_of_ble_eq_true rfl) (Nat.le_of_ble_eq_true rfl)

theorem p_enough {w : am_W} (h : INV w) {x y z : Int32} : PAIR Value.int m_X_enough m_Y_enough [.int x, .int y, .int z] w := by
  obtain ⟨n, k, P, C, kn, kk, KP, KC, ak, E, hd, hv, H, O, kn', KP', ic, fz, sm, hX, hY, hR⟩ := h
  have hW := hR.xw (kk := kk)
  have hV := hR.yw
  obtain ⟨g1, g2, g3, g4, g5, g6, g7, g8, g9, g10, g11, g12, g13, g14, g15, g16, g17, g18⟩ := id hR
  have hn := g1.1
  by_cases hb : QU n x y z
  · obtain ⟨i, j, t, hi, hj, hij, ht, rfl, rfl, rfl, hti, htj⟩ := hb
    have hgo : pu_go C hd 0 = pu_ych (pu_yc n P H) 8 := by
      rw [← pu_gi_yc g1 g8]
      exact (pu_gio_du g1 g2).ych (pu_gi_z g1)
    have hgl : ∀ no p, pu_go C hd no p < 256 := fun no p => by
      unfold pu_go
      cases no.testBit p with
      | true => exact (by decide : 0 < 256)
      | false => exact pu_dif_lt (pu_lt8 hn (g2.lt g1 p))
    by_cases h0 : pu_cl (pu_go C hd 0) 8 8 (pu_go C hd 0 i) &&& t = 0
    · refine PAIR.mk (c_X_enough1 hX hW hi hj hij ht hti htj h0) hY (fun w1 q => (y_enough1 q hV g1.2.1 hi hj hij ht hti htj (by rw [← hgo]; exact h0))) ?_ hR (Nat.le_of_ble_eq_true rfl) (Nat.le_of_ble_eq_true rfl)
      refine pu_q_b ?_
      rw [← pu_gi_yw g1 g8]
      exact pu_sw_sp hn (pu_gi_ltn g1 hd (2 ^ i)) (hgl (2 ^ i)) (pu_gio_du g1 g2) ht hi hj hij hti htj
    · exact PAIR.mk (c_X_enough0 hX hW hi hj hij ht hti htj h0) hY (fun w1 q => (y_enough0 q hV hi hj hij ht hti htj (by rw [← hgo]; exact h0))) rfl hR (Nat.le_of_ble_eq_true rfl) (Nat.le_of_ble_eq_true rfl)
  · exact PAIR.mk (hX.r (c_X_enough_bad hX hW hb)) hY (fun w1 q => (q.r (y_enough_bad q hV hb))) rfl hR (Nat.le_of_ble_eq_true rfl) (Nat.le_of_ble_eq_true rfl)

theorem p_keep {w : am_W} (h : INV w) : PAIR Value.int m_X_keep m_Y_keep [] w := by
  obtain ⟨n, k, P, C, kn, kk, KP, KC, ak, E, hd, hv, H, O, kn', KP', ic, fz, sm, hX, hY, hR⟩ := h
  have hW := hR.xw (kk := kk)
  have hV := hR.yw
  obtain ⟨g1, g2, g3, g4, g5, g6, g7, g8, g9, g10, g11, g12, g13, g14, g15, g16, g17, g18⟩ := id hR
  have hn := g1.1
  exact PAIR.mk (c_X_keep hX hW) hY (fun w1 q => (y_keep q)) rfl hR.keep (Nat.le_of_ble_eq_true rfl) (Nat.le_of_ble_eq_true rfl)

theorem p_alike {w : am_W} (h : INV w) : PAIR Value.int m_X_alike m_Y_alike [] w := by
  obtain ⟨n, k, P, C, kn, kk, KP, KC, ak, E, hd, hv, H, O, kn', KP', ic, fz, sm, hX, hY, hR⟩ := h
  have hW := hR.xw (kk := kk)
  have hV := hR.yw
  obtain ⟨g1, g2, g3, g4, g5, g6, g7, g8, g9, g10, g11, g12, g13, g14, g15, g16, g17, g18⟩ := id hR
  have hn := g1.1
  by_cases hb : ak = true ∧ kn = n
  · obtain ⟨ha, he⟩ := hb
    obtain ⟨e1, e2, e3, e4⟩ := g17 ha
    have e5 : KP' = KP := funext e2
    rw [he] at e1 e3
    refine PAIR.mk (hX.r (c_X_alike hX hW ha he)) hY (fun w1 q => (y_alike q hV g1.2.1 (by rw [e5]; exact e3.2.1) ha e1)) ?_ hR (Nat.le_of_ble_eq_true rfl) (Nat.le_of_ble_eq_true rfl)
    rw [e5]
    exact pu_q_c ((SAME.iff g1 e3).trans (pu_alike g1 e3 g2 e4).symm)
  · exact PAIR.mk (hX.r (c_X_alike_none hX hW hb)) hY (fun w1 q => (q.r (y_alike_none q hV (fun w => hb ⟨w.1, (g17 w.1).1.symm.trans w.2⟩)))) rfl hR (Nat.le_of_ble_eq_true rfl) (Nat.le_of_ble_eq_true rfl)

theorem p_settled {w : am_W} (h : INV w) {x y : Int32} : PAIR Value.int m_X_settled m_Y_settled [.int x, .int y] w := by
  obtain ⟨n, k, P, C, kn, kk, KP, KC, ak, E, hd, hv, H, O, kn', KP', ic, fz, sm, hX, hY, hR⟩ := h
  have hW := hR.xw (kk := kk)
  have hV := hR.yw
  obtain ⟨g1, g2, g3, g4, g5, g6, g7, g8, g9, g10, g11, g12, g13, g14, g15, g16, g17, g18⟩ := id hR
  have hn := g1.1
  by_cases hb : PR n x y
  · obtain ⟨i, j, hi, hj, hij, rfl, rfl⟩ := hb
    cases h1 : (P j).testBit i with
    | false => exact PAIR.mk (hX.r (c_X_settled_none hX hW hi hj hij (by rw [g2 i j]; exact h1))) hY (fun w1 q => (q.r (y_settled_none q hV hi hj hij h1))) rfl hR (Nat.le_of_ble_eq_true rfl) (Nat.le_of_ble_eq_true rfl)
    | true =>
      have h1c : (C i).testBit j = true := by rw [g2 i j]; exact h1
      exact PAIR.mk (c_X_settled hX hW hi hj hij h1c) hY (fun w1 q => (y_settled q hV g1.2.1 (by rw [g5]; exact g3) g18 hi hj hij h1)) (pu_settled_eq g1 g2 (by rw [g5]; exact g3) h1c).symm hR.fam (Nat.le_of_ble_eq_true rfl) (Nat.le_of_ble_eq_true rfl)
  · exact PAIR.mk (hX.r (c_X_settled_bad hX hW hb)) hY (fun w1 q => (q.r (y_settled_bad q hV hb))) rfl hR (Nat.le_of_ble_eq_true rfl) (Nat.le_of_ble_eq_true rfl)

theorem p_family {w : am_W} (h : INV w) : PAIR Value.int m_X_family m_Y_family [] w := by
  obtain ⟨n, k, P, C, kn, kk, KP, KC, ak, E, hd, hv, H, O, kn', KP', ic, fz, sm, hX, hY, hR⟩ := h
  have hW := hR.xw (kk := kk)
  have hV := hR.yw
  obtain ⟨g1, g2, g3, g4, g5, g6, g7, g8, g9, g10, g11, g12, g13, g14, g15, g16, g17, g18⟩ := id hR
  have hn := g1.1
  exact PAIR.mk (c_X_family hX hW) hY (fun w1 q => (y_family q hV g1.2.1 (by rw [g5]; exact g3) g18)) (by rw [pu_family_eq g1 g2]) hR.fam (Nat.le_of_ble_eq_true rfl) (Nat.le_of_ble_eq_true rfl)

theorem p_count {w : am_W} (h : INV w) {x : Int32} : PAIR Value.int m_X_count m_Y_count [.int x] w := by
  obtain ⟨n, k, P, C, kn, kk, KP, KC, ak, E, hd, hv, H, O, kn', KP', ic, fz, sm, hX, hY, hR⟩ := h
  have hW := hR.xw (kk := kk)
  have hV := hR.yw
  obtain ⟨g1, g2, g3, g4, g5, g6, g7, g8, g9, g10, g11, g12, g13, g14, g15, g16, g17, g18⟩ := id hR
  have hn := g1.1
  by_cases hy : x.toInt < 0 ∨ 3 < x.toInt
  · refine PAIR.mk (hX.r (c_X_count_out hX hW hy)) hY (fun w1 q => (q.r (y_count_bad q ?_ ?_ ?_ ?_))) rfl hR (Nat.le_of_ble_eq_true rfl) (Nat.le_of_ble_eq_true rfl) <;> (intro e; subst e; exact absurd hy (by decide))
  · rcases pu_ic hy with rfl | rfl | rfl | rfl
    · exact PAIR.mk (hX.r (c_X_count0 hX hW)) hY (fun w1 q => (q.r (y_count0 q))) rfl hR (Nat.le_of_ble_eq_true rfl) (Nat.le_of_ble_eq_true rfl)
    · exact PAIR.mk (hX.r (c_X_count1 hX hW)) hY (fun w1 q => (q.r (y_count1 q))) rfl hR (Nat.le_of_ble_eq_true rfl) (Nat.le_of_ble_eq_true rfl)
    · refine PAIR.mk (c_X_count2 hX hW) hY (fun w1 q => (y_count2 q hV g1.2.1 (by rw [g5]; exact g3) g18)) ?_ hR.fam (Nat.le_of_ble_eq_true rfl) (Nat.le_of_ble_eq_true rfl)
      have e := pu_count2_eq g1 g2 g3 g4 g5
      rw [pk_sub (by omega : pu_pop 10 (pu_kin P C n).2.2 ≤ k)]
      congr 1
      omega
    · refine PAIR.mk (hX.r (c_X_count3 hX hW)) hY (fun w1 q => (q.r (y_count3 q hn))) ?_ hR (Nat.le_of_ble_eq_true rfl) (Nat.le_of_ble_eq_true rfl)
      rw [pu_hn_pop g8 n hn]
      have := pu_pop_n8 g6 (8 - n)
      rw [show n + (8 - n) = 8 by omega] at this
      rw [this]

