/-! HOW THE TWO OBJECTS STAND TO EACH OTHER, after a call -/
theorem pu_dif_b8 {a b i : Nat} (ha : a < 256) : (pu_dif a b).testBit i = (a.testBit i && !b.testBit i) := by
  by_cases hi : i < 32
  · exact pu_dif_bit hi
  · have big : 256 ≤ 2 ^ i := Nat.le_trans (show 256 ≤ 2 ^ 8 by decide) (Nat.pow_le_pow_right (by decide) (by omega))
    rw [Nat.testBit_lt_two_pow (Nat.lt_of_lt_of_le (pu_dif_lt ha) big), Nat.testBit_lt_two_pow (Nat.lt_of_lt_of_le ha big)]
    rfl
theorem GG.up {n : Nat} {P : Nat → Nat} (h : GG n P) (h8 : n < 8) : GG (n + 1) P := by
  obtain ⟨τ, ht⟩ := h.tau
  exact ⟨h8, fun i => Nat.lt_of_lt_of_le (h.2.1 i) (Nat.pow_le_pow_right (by decide) (Nat.le_succ n)), fun i hi => h.2.2.1 i (by omega), ⟨τ, fun u v _ e => ht u v e⟩⟩
theorem GG.lay {n : Nat} {P : Nat → Nat} (h : GG n P) {i j : Nat} (hi : i < n) (hj : j < n) (hr : (pu_cl P 8 8 (2 ^ i)).testBit j = false) : GG n (pu_set P j (P j ||| 2 ^ i)) := by
  have hn := h.1
  obtain ⟨τ, ht⟩ := pu_acy_add (a := i) (b := j) (fun x => pu_lt8 hn (h.2.1 x)) (by omega) h.tau hr
  refine ⟨hn, pu_lay_lt (q := (j, i)) h.2.1 hi, fun x hx => ?_, ⟨τ, fun u v _ e => ht u v e⟩⟩
  rw [pu_set_ne (by omega)]
  exact h.2.2.1 x hx
theorem GG.sub {n : Nat} {P : Nat → Nat} (h : GG n P) {i j : Nat} (hj : j < n) : GG n (pu_set P j (pu_dif (P j) (2 ^ i))) := by
  have hn := h.1
  obtain ⟨τ, ht⟩ := h.tau
  refine ⟨hn, fun x => ?_, fun x hx => ?_, ⟨τ, fun u v _ e => ht u v ?_⟩⟩
  · unfold pu_set
    by_cases q : x = j
    · rw [if_pos q]; exact Nat.lt_of_le_of_lt (pu_dif_le _ _) (h.2.1 j)
    · rw [if_neg q]; exact h.2.1 x
  · rw [pu_set_ne (by omega)]; exact h.2.2.1 x hx
  · unfold EA
    by_cases q : v = j
    · rw [q, pu_set_eq, pu_dif_b8 (pu_lt8 hn (h.2.1 j)), Bool.and_eq_true] at e
      rw [q]
      exact e.1
    · rw [pu_set_ne q] at e
      exact e
theorem DU.lay {P C : Nat → Nat} (h : DU P C) (i j : Nat) : DU (pu_set P j (P j ||| 2 ^ i)) (pu_set C i (C i ||| 2 ^ j)) := by
  intro u v
  by_cases q1 : u = i
  · by_cases q2 : v = j
    · subst q1 q2
      rw [pu_set_eq, pu_set_eq, Nat.testBit_or, Nat.testBit_or, Nat.testBit_two_pow, Nat.testBit_two_pow]
      simp
    · subst q1
      rw [pu_set_eq, pu_set_ne q2, Nat.testBit_or, Nat.testBit_two_pow, h u v]
      simp [show ¬ j = v from fun e => q2 e.symm]
  · by_cases q2 : v = j
    · subst q2
      rw [pu_set_eq, pu_set_ne q1, Nat.testBit_or, Nat.testBit_two_pow, h u v]
      simp [show ¬ i = u from fun e => q1 e.symm]
    · rw [pu_set_ne q1, pu_set_ne q2]; exact h u v
theorem DU.sub {P C : Nat → Nat} (h : DU P C) (hP : ∀ i, P i < 256) (hC : ∀ i, C i < 256) (i j : Nat) : DU (pu_set P j (pu_dif (P j) (2 ^ i))) (pu_set C i (pu_dif (C i) (2 ^ j))) := by
  intro u v
  by_cases q1 : u = i
  · by_cases q2 : v = j
    · subst q1 q2
      rw [pu_set_eq, pu_set_eq, pu_dif_b8 (hC u), pu_dif_b8 (hP v), Nat.testBit_two_pow, Nat.testBit_two_pow]
      simp
    · subst q1
      rw [pu_set_eq, pu_set_ne q2, pu_dif_b8 (hC u), Nat.testBit_two_pow, h u v]
      simp [show ¬ j = v from fun e => q2 e.symm]
  · by_cases q2 : v = j
    · subst q2
      rw [pu_set_eq, pu_set_ne q1, pu_dif_b8 (hP v), Nat.testBit_two_pow, h u v]
      simp [show ¬ i = u from fun e => q1 e.symm]
    · rw [pu_set_ne q1, pu_set_ne q2]; exact h u v
theorem pu_eo_8 {O : Nat → Nat} {i s : Nat} (h : ∀ x, O x ≤ 8) (x : Nat) : pu_eo O i s x ≤ 8 := by
  unfold pu_eo
  by_cases q : 128 * i ≤ x ∧ x < 128 * i + s
  · rw [if_pos q]; decide
  · rw [if_neg q]; exact h x
theorem pu_setE_8 {E : Nat → Nat → Nat} {i : Nat} {r : Nat → Nat} (h : ∀ a b, E a b ≤ 8) (hr : ∀ b, r b ≤ 8) (a b : Nat) : pu_setE E i r a b ≤ 8 := by
  unfold pu_setE
  by_cases q : a = i
  · rw [if_pos q]; exact hr b
  · rw [if_neg q]; exact h a b
theorem pu_eo_E {E : Nat → Nat → Nat} {O : Nat → Nat} {n m : Nat} (h : ∀ i j, i < n → j < 128 → O (128 * i + j) = E i j) {p : Nat} (hm : ∀ i, i < m → i ≠ p → i < n) : ∀ i j, i < m → j < 128 → pu_eo O p 128 (128 * i + j) = pu_setE E p (fun _ => 4) i j := by
  intro i j hi hj
  unfold pu_eo pu_setE
  by_cases q : i = p
  · rw [if_pos q, if_pos (by subst q; omega)]
  · rw [if_neg q, if_neg (by omega)]
    exact h i j (hm i hi q) hj
section Rl2
variable {n k : Nat} {P C : Nat → Nat} {kn : Nat} {KP KC : Nat → Nat} {ak : Bool} {E : Nat → Nat → Nat} {hd hv : Nat} {H : Nat → Int32} {O : Nat → Nat} {kn' : Nat} {KP' : Nat → Nat} {ic : Bool} {fz sm : Nat}
theorem RL.clear (h : RL n k P C kn KP KC ak E hd hv H O kn' KP' ic fz sm) : RL 0 0 (fun _ => 0) (fun _ => 0) kn KP KC false E 0 0 (pu_fl H (-1) 8) O kn' KP' false fz sm := by
  obtain ⟨h1, h2, h3, h4, h5, h6, h7, h8, h9, h10, h11, h12, h13, h14, h15, h16, h17, h18⟩ := h
  refine ⟨⟨by decide, fun _ => Nat.one_pos, fun _ _ => rfl, ⟨fun _ => 0, fun u v q => absurd q (Nat.not_lt_zero _)⟩⟩, fun u v => ?_, by decide, rfl, rfl, Nat.one_pos, by decide, fun i hi => ?_, h9, h10, fun i j q => absurd q (Nat.not_lt_zero _), h12, h13, h14, h15, h16, fun q => (by cases q), fun q => (by cases q)⟩
  · rw [Nat.zero_testBit, Nat.zero_testBit]
  · unfold pu_fl pu_ha
    rw [if_pos hi, Nat.zero_testBit, if_neg (by decide)]
theorem RL.place (h : RL n k P C kn KP KC ak E hd hv H O kn' KP' ic fz sm) (hn8 : n < 8) : RL (n + 1) k P C kn KP KC ak (pu_setE E n (fun _ => 4)) hd hv (upd H n (-1)) (pu_eo O n 128) kn' KP' false fz sm := by
  obtain ⟨h1, h2, h3, h4, h5, h6, h7, h8, h9, h10, h11, h12, h13, h14, h15, h16, h17, h18⟩ := h
  refine ⟨h1.up hn8, h2, h3, ?_, ?_, Nat.lt_of_lt_of_le h6 (Nat.pow_le_pow_right (by decide) (Nat.le_succ n)), h7, fun i hi => ?_, pu_setE_8 h9 (fun _ => by decide), pu_eo_8 h10, pu_eo_E h11 (fun i hi q => by omega), h12, h13, h14, h15, h16, h17, fun q => (by cases q)⟩
  · rw [pu_al_place (h2.lt h1) (h2.z h1 (Nat.le_refl _))]; exact h4
  · rw [pu_al_place h1.2.1 (h1.2.2.1 n (Nat.le_refl _))]; exact h5
  · unfold upd
    by_cases q : i = n
    · rw [if_pos q, q]
      exact (pu_ha_m1.mpr (Nat.testBit_lt_two_pow h6)).symm
    · rw [if_neg q]; exact h8 i hi
theorem RL.arc (h : RL n k P C kn KP KC ak E hd hv H O kn' KP' ic fz sm) {i j : Nat} (hi : i < n) (hj : j < n) (hb : (P j).testBit i = false) (hr : (pu_cl P 8 8 (2 ^ i)).testBit j = false) (hk : k < 10) : RL n (k + 1) (pu_set P j (P j ||| 2 ^ i)) (pu_set C i (C i ||| 2 ^ j)) kn KP KC ak (pu_setE E j (fun _ => 4)) hd hv H (pu_eo O j 128) kn' KP' false fz sm := by
  obtain ⟨h1, h2, h3, h4, h5, h6, h7, h8, h9, h10, h11, h12, h13, h14, h15, h16, h17, h18⟩ := h
  refine ⟨h1.lay hi hj hr, h2.lay i j, hk, ?_, ?_, h6, h7, h8, pu_setE_8 h9 (fun _ => by decide), pu_eo_8 h10, pu_eo_E h11 (fun i hi q => hi), h12, h13, h14, h15, h16, h17, fun q => (by cases q)⟩
  · rw [pu_al_add hi hj (by rw [h2 i j]; exact hb), h4]
  · rw [pu_al_add hj hi hb, h5]
theorem RL.cut (h : RL n k P C kn KP KC ak E hd hv H O kn' KP' ic fz sm) {i j : Nat} (hi : i < n) (hj : j < n) (hb : (P j).testBit i = true) : 1 ≤ k ∧ RL n (k - 1) (pu_set P j (pu_dif (P j) (2 ^ i))) (pu_set C i (pu_dif (C i) (2 ^ j))) kn KP KC ak (pu_setE E j (fun _ => 4)) hd hv H (pu_eo O j 128) kn' KP' false fz sm := by
  obtain ⟨h1, h2, h3, h4, h5, h6, h7, h8, h9, h10, h11, h12, h13, h14, h15, h16, h17, h18⟩ := h
  have a1 := pu_al_sub (C := P) h1.1 hj hi hb
  have a2 := pu_al_sub (C := C) h1.1 hi hj (by rw [h2 i j]; exact hb)
  rw [h5] at a1
  rw [h4] at a2
  exact ⟨by omega, h1.sub hj, h2.sub (fun x => pu_lt8 h1.1 (h1.2.1 x)) (fun x => pu_lt8 h1.1 (h2.lt h1 x)) i j, by omega, by omega, by omega, h6, h7, h8, pu_setE_8 h9 (fun _ => by decide), pu_eo_8 h10, pu_eo_E h11 (fun i hi q => hi), h12, h13, h14, h15, h16, h17, fun q => (by cases q)⟩
theorem RL.odds (h : RL n k P C kn KP KC ak E hd hv H O kn' KP' ic fz sm) {i j e : Nat} (hj : j < 128) (he : e ≤ 8) : RL n k P C kn KP KC ak (pu_setE E i (pu_set (E i) j e)) hd hv H (pu_set O (128 * i + j) e) kn' KP' ic fz sm := by
  obtain ⟨h1, h2, h3, h4, h5, h6, h7, h8, h9, h10, h11, h12, h13, h14, h15, h16, h17, h18⟩ := h
  refine ⟨h1, h2, h3, h4, h5, h6, h7, h8, pu_setE_8 h9 (fun b => ?_), fun x => ?_, fun a b ha hb => ?_, h12, h13, h14, h15, h16, h17, h18⟩
  · unfold pu_set
    by_cases q : b = j
    · rw [if_pos q]; exact he
    · rw [if_neg q]; exact h9 i b
  · unfold pu_set
    by_cases q : x = 128 * i + j
    · rw [if_pos q]; exact he
    · rw [if_neg q]; exact h10 x
  · unfold pu_setE
    by_cases q : a = i
    · rw [if_pos q]
      subst q
      by_cases r : b = j
      · subst r; rw [pu_set_eq, pu_set_eq]
      · rw [pu_set_ne (by omega), pu_set_ne r]; exact h11 a b ha hb
    · rw [if_neg q, pu_set_ne (by omega)]; exact h11 a b ha hb
theorem RL.hold0 (h : RL n k P C kn KP KC ak E hd hv H O kn' KP' ic fz sm) {i : Nat} : RL n k P C kn KP KC ak E (pu_dif hd (2 ^ i)) (pu_dif hv (2 ^ i)) (upd H i (-1)) O kn' KP' ic fz sm := by
  obtain ⟨h1, h2, h3, h4, h5, h6, h7, h8, h9, h10, h11, h12, h13, h14, h15, h16, h17, h18⟩ := h
  refine ⟨h1, h2, h3, h4, h5, Nat.lt_of_le_of_lt (pu_dif_le _ _) h6, pu_dif_lt h7, fun q hq => ?_, h9, h10, h11, h12, h13, h14, h15, h16, h17, h18⟩
  unfold upd pu_ha
  rw [pu_dif_bit (by omega), pu_dif_bit (by omega), Nat.testBit_two_pow]
  by_cases e : q = i
  · subst e
    rw [if_pos rfl]
    simp
  · rw [if_neg e, h8 q hq]
    unfold pu_ha
    simp [show ¬ i = q from fun w => e w.symm]
theorem RL.hold1 (h : RL n k P C kn KP KC ak E hd hv H O kn' KP' ic fz sm) {i : Nat} (hi : i < n) (b : Bool) : RL n k P C kn KP KC ak E (pu_dif hd (2 ^ i) ||| 2 ^ i) (pu_dif hv (2 ^ i) ||| (if b then 2 ^ i else 0)) (upd H i (pu_b b)) O kn' KP' ic fz sm := by
  obtain ⟨h1, h2, h3, h4, h5, h6, h7, h8, h9, h10, h11, h12, h13, h14, h15, h16, h17, h18⟩ := h
  have hn := h1.1
  refine ⟨h1, h2, h3, h4, h5, Nat.or_lt_two_pow (Nat.lt_of_le_of_lt (pu_dif_le _ _) h6) (Nat.pow_lt_pow_right (by decide) hi), pu_or_lt (pu_dif_lt h7) (by cases b with | false => exact (by decide : 0 < 256) | true => exact pu_p2 (by omega)), fun q hq => ?_, h9, h10, h11, h12, h13, h14, h15, h16, h17, h18⟩
  unfold upd pu_ha
  rw [Nat.testBit_or, Nat.testBit_or, pu_dif_bit (by omega), pu_dif_bit (by omega), Nat.testBit_two_pow]
  by_cases e : q = i
  · subst e
    rw [if_pos rfl]
    cases b with
    | false => simp
    | true => simp [Nat.testBit_two_pow]
  · rw [if_neg e, h8 q hq]
    unfold pu_ha
    have : (if b = true then 2 ^ i else 0).testBit q = false := by
      cases b with
      | false => simp
      | true => simp [Nat.testBit_two_pow]; exact fun w => e w.symm
    rw [this]
    simp [show ¬ i = q from fun w => e w.symm]
theorem RL.keep (h : RL n k P C kn KP KC ak E hd hv H O kn' KP' ic fz sm) : RL n k P C n P C true E hd hv H O n P ic fz sm := by
  obtain ⟨h1, h2, h3, h4, h5, h6, h7, h8, h9, h10, h11, h12, h13, h14, h15, h16, h17, h18⟩ := h
  exact ⟨h1, h2, h3, h4, h5, h6, h7, h8, h9, h10, h11, h1.1, fun x => pu_lt8 h1.1 (h1.2.1 x), fun x => pu_lt8 h1.1 (h2.lt h1 x), h1.1, fun x => pu_lt8 h1.1 (h1.2.1 x), fun _ => ⟨rfl, fun _ => rfl, h1, h2⟩, h18⟩
theorem RL.fam (h : RL n k P C kn KP KC ak E hd hv H O kn' KP' ic fz sm) : RL n k P C kn KP KC ak E hd hv H O kn' KP' true (pu_fam P n).1 (pu_fam P n).2 := by
  obtain ⟨h1, h2, h3, h4, h5, h6, h7, h8, h9, h10, h11, h12, h13, h14, h15, h16, h17, h18⟩ := h
  exact ⟨h1, h2, h3, h4, h5, h6, h7, h8, h9, h10, h11, h12, h13, h14, h15, h16, h17, fun _ => ⟨rfl, rfl⟩⟩
end Rl2
theorem RL.start : RL 0 0 (fun _ => 0) (fun _ => 0) 0 (fun _ => 0) (fun _ => 0) false (fun _ _ => 0) 0 0 (pu_fl (fun _ => 0) (-1) 8) (fun _ => 0) 0 (fun _ => 0) false 0 0 := by
  refine ⟨⟨by decide, fun _ => Nat.one_pos, fun _ _ => rfl, ⟨fun _ => 0, fun u v q => absurd q (Nat.not_lt_zero _)⟩⟩, fun u v => ?_, by decide, rfl, rfl, Nat.one_pos, by decide, fun i hi => ?_, fun _ _ => Nat.zero_le _, fun _ => Nat.zero_le _, fun i j q => absurd q (Nat.not_lt_zero _), by decide, fun _ => (by decide : 0 < 256), fun _ => (by decide : 0 < 256), by decide, fun _ => (by decide : 0 < 256), fun q => (by cases q), fun q => (by cases q)⟩
  · rw [Nat.zero_testBit, Nat.zero_testBit]
  · unfold pu_fl pu_ha
    rw [if_pos hi, Nat.zero_testBit, if_neg (by decide)]
