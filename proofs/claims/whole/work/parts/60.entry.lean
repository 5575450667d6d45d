/-! THE LAW, from its entry -/
theorem am_wX_XI2 (u : am_W) : XI 0 0 (fun _ => 0) (fun _ => 0) 0 0 (fun _ => 0) (fun _ => 0) false (fun _ _ => 0) 0 0 (am_wX ++ u) :=
  ⟨rfl, ⟨rfl, rfl, rfl⟩, ⟨rfl, rfl, rfl⟩, ⟨rfl, rfl, fun i hi => by
    rcases (show i = 0 ∨ i = 1 ∨ i = 2 ∨ i = 3 ∨ i = 4 ∨ i = 5 ∨ i = 6 ∨ i = 7 by omega) with rfl | rfl | rfl | rfl | rfl | rfl | rfl | rfl <;> rfl⟩, ⟨⟨_, _, _, _, _, _, rfl⟩, ⟨_, rfl⟩, _, rfl⟩, ⟨⟨_, _, _, rfl⟩, ⟨_, _, rfl⟩, ⟨_, rfl⟩, ⟨_, rfl⟩, ⟨_, rfl⟩, ⟨_, rfl⟩, _, rfl⟩, ⟨⟨_, rfl⟩, _, rfl⟩, ⟨⟨_, rfl⟩, _, rfl⟩, ⟨⟨_, rfl⟩, _, rfl⟩, ⟨⟨_, rfl⟩, _, rfl⟩⟩
theorem INV.start {w2 : am_W} (h1 : ∀ i, i < 35 → w2[i]? = am_wX[i]?) (h2 : YI 0 0 (fun j => if j < 8 then 0 else 0) (pu_fl (fun _ => 0) (-1) 8) (fun _ => 0) false 0 (fun _ => 0) false 0 0 w2) : INV w2 := by
  have e : w2 = am_wX ++ w2.drop 35 := by
    apply List.ext_getElem?
    intro i
    by_cases hi : i < 35
    · rw [List.getElem?_append_left (show i < am_wX.length from hi)]; exact h1 i hi
    · rw [List.getElem?_append_right (show am_wX.length ≤ i from Nat.not_lt.mp hi), List.getElem?_drop]
      congr 1
      show i = 35 + (i - 35)
      omega
  have e0 : (fun j => if j < 8 then 0 else 0 : Nat → Nat) = fun _ => 0 := by
    funext j
    by_cases q : j < 8
    · rw [if_pos q]
    · rw [if_neg q]
  rw [e0] at h2
  exact ⟨0, 0, fun _ => 0, fun _ => 0, 0, 0, fun _ => 0, fun _ => 0, false, fun _ _ => 0, 0, 0, pu_fl (fun _ => 0) (-1) 8, fun _ => 0, 0, fun _ => 0, false, 0, 0, by rw [e]; exact am_wX_XI2 _, h2, RL.start⟩
set_option maxHeartbeats 4000000 in
set_option maxRecDepth 100000 in
theorem l_law {L : Nat} {xs : Nat → Int32} (hL : L ≤ 2048) : am_Wp (some (L, xs)) m_L_law 28 52 20989 0 [(0, .retAddr 0)] [] [] (fun v _ => v = some (.int 1)) := by
  refine wp_new (q := 3) (fs := [.null, .null, .int 0, .null, .null, .null, .null, .null, .null, .null]) (bc := 51) (bs := 20979) d_L_law_0 rfl ok_X ck_L_7 ins_X ini_X (fun j hj => by rcases (show j = 0 ∨ j = 1 ∨ j = 2 ∨ j = 3 ∨ j = 4 ∨ j = 5 ∨ j = 6 ∨ j = 7 ∨ j = 8 ∨ j = 9 by omega) with rfl | rfl | rfl | rfl | rfl | rfl | rfl | rfl | rfl | rfl <;> rfl) ⟨trivial, trivial, trivial, trivial, trivial, trivial, trivial, trivial, trivial, trivial, trivial⟩ (fun r => rfl) ?_
  show am_Wp _ _ _ _ _ _ _ (.ref 0 :: []) [(.inr (0, [.null, .null, .int 0, .null, .null, .null, .null, .null, .null, .null]) : am_C)] _
  refine wp_dup (q := 4) d_L_law_3 rfl rfl ?_
  refine wp_cI0g (q := 7) (bc1 := 34) (bs1 := 2186) (bc := 17) (bs := 18793) (d1 := 3) d_L_law_4 rfl bd_X_init rfl rfl lk_L_9 im_X_init (Nat.le_of_ble_eq_true rfl) (Nat.le_of_ble_eq_true rfl) (Nat.le_of_ble_eq_true rfl) (c_X_init) (fun v w1 hF => ?_)
  obtain ⟨rfl, rfl⟩ := hF
  show am_Wp _ _ _ _ _ _ _ (.ref 0 :: []) am_wX _
  refine wp_astore_n (q := 8) d_L_law_7 rfl rfl (Nat.le_of_ble_eq_true rfl) rfl ?_
  refine wp_new (q := 11) (fs := [.int 0, .int 0, .null, .null, .null, .int 0, .int 0, .null, .int 0, .int 0, .int 0, .null, .null, .null, .null, .null, .null, .null, .null, .null, .null, .null, .null]) (bc := 16) (bs := 18770) d_L_law_8 rfl ok_Y ck_L_10 ins_Y ini_Y (fun j hj => by rcases (show j = 0 ∨ j = 1 ∨ j = 2 ∨ j = 3 ∨ j = 4 ∨ j = 5 ∨ j = 6 ∨ j = 7 ∨ j = 8 ∨ j = 9 ∨ j = 10 ∨ j = 11 ∨ j = 12 ∨ j = 13 ∨ j = 14 ∨ j = 15 ∨ j = 16 ∨ j = 17 ∨ j = 18 ∨ j = 19 ∨ j = 20 ∨ j = 21 ∨ j = 22 by omega) with rfl | rfl | rfl | rfl | rfl | rfl | rfl | rfl | rfl | rfl | rfl | rfl | rfl | rfl | rfl | rfl | rfl | rfl | rfl | rfl | rfl | rfl | rfl <;> rfl) ⟨trivial, trivial, trivial, trivial, trivial, trivial, trivial, trivial, trivial, trivial, trivial, trivial, trivial, trivial, trivial, trivial, trivial, trivial, trivial, trivial, trivial, trivial, trivial, trivial⟩ (fun r => rfl) ?_
  show am_Wp _ _ _ _ _ _ _ (.ref 35 :: []) _ _
  refine wp_dup (q := 12) d_L_law_11 rfl rfl ?_
  refine wp_cI0g (q := 15) (bc1 := 16) (bs1 := 18770) (bc := 0) (bs := 0) (d1 := 1) d_L_law_12 rfl bd_Y_init rfl rfl lk_L_12 im_Y_init (Nat.le_of_ble_eq_true rfl) (Nat.le_of_ble_eq_true rfl) (Nat.le_of_ble_eq_true rfl) (y_init (w := am_wX) rfl) (fun v w2 hF => ?_)
  obtain ⟨rfl, -, h1, h2⟩ := hF
  show am_Wp _ _ _ _ _ _ _ (.ref 35 :: []) w2 _
  refine wp_astore_n (q := 16) d_L_law_15 rfl rfl (Nat.le_of_ble_eq_true rfl) rfl ?_
  refine wp_iconst (q := 17) (v := 0) d_L_law_16 rfl (by decide) ?_
  refine wp_istore_n (q := 18) d_L_law_17 rfl rfl (Nat.le_of_ble_eq_true rfl) rfl ?_
  exact l_loop hL (L + 1) 0 w2 (by omega) (by omega) (INV.start h1 h2)
