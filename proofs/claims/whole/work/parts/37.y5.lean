/-! CONTRACTS of the reference (5): walk -/
set_option maxHeartbeats 4000000 in
set_option maxRecDepth 100000 in
theorem y_children2_1 {n k : Nat} {P : Nat → Nat} {H : Nat → Int32} {O : Nat → Nat} {ik : Bool} {kn : Nat} {KP : Nat → Nat} {ic : Bool} {fz sm : Nat} {w : am_W} (hY : YI n k P H O ik kn KP ic fz sm w) {g : Nat → Nat} (hT : CT g w) {i : Nat} (hi : i < 8) : am_Wp none m_Y_children2 0 0 0 0 [(0, .ref 35), (1, .int (nI i)), (2, .int 1)] [] w (am_R (some (.int (nI (pu_ych g 8 i)))) w) := by
  refine wp_iload_n (q := 1) d_Y_children2_0 rfl rfl rfl ?_
  refine wp_iconst (q := 2) (v := 1) d_Y_children2_1 rfl (by decide) ?_
  refine wp_icmp_ne (q := 5) (tgt := 14) d_Y_children2_2 (by decide) rfl (fun c2 => absurd rfl c2) (fun _ => ?_)
  refine wp_aload_n (q := 6) d_Y_children2_5 rfl rfl rfl ?_
  refine wp_get (q := 9) (k := 12) d_Y_children2_6 rfl ok_Y (Nat.le_of_ble_eq_true rfl) fk_Y_25 hY.1 rfl ?_
  refine wp_iload_n (q := 10) d_Y_children2_9 rfl rfl rfl ?_
  refine wp_ialoadN (q := 11) d_Y_children2_10 rfl hT.2 rfl hi (by decide) ?_
  refine wp_goto (tgt := 20) d_Y_children2_11 (by decide) ?_
  exact wp_ireturn rfl d_Y_children2_20 ⟨rfl, rfl⟩
set_option maxHeartbeats 4000000 in
set_option maxRecDepth 100000 in
theorem y_children2_0 {n k : Nat} {P : Nat → Nat} {H : Nat → Int32} {O : Nat → Nat} {ik : Bool} {kn : Nat} {KP : Nat → Nat} {ic : Bool} {fz sm : Nat} {w : am_W} (hY : YI n k P H O ik kn KP ic fz sm w) {g : Nat → Nat} (hT : CT g w) {i : Nat} (hi : i < 8) : am_Wp none m_Y_children2 0 0 0 0 [(0, .ref 35), (1, .int (nI i)), (2, .int 0)] [] w (am_R (some (.int (nI (g i)))) w) := by
  refine wp_iload_n (q := 1) d_Y_children2_0 rfl rfl rfl ?_
  refine wp_iconst (q := 2) (v := 1) d_Y_children2_1 rfl (by decide) ?_
  refine wp_icmp_ne (q := 5) (tgt := 14) d_Y_children2_2 (by decide) rfl (fun _ => ?_) (fun c2 => absurd c2 (by decide))
  refine wp_aload_n (q := 15) d_Y_children2_14 rfl rfl rfl ?_
  refine wp_get (q := 18) (k := 11) d_Y_children2_15 rfl ok_Y (Nat.le_of_ble_eq_true rfl) fk_Y_22 hY.1 rfl ?_
  refine wp_iload_n (q := 19) d_Y_children2_18 rfl rfl rfl ?_
  refine wp_ialoadN (q := 20) d_Y_children2_19 rfl hT.1 rfl hi (by decide) ?_
  exact wp_ireturn rfl d_Y_children2_20 ⟨rfl, rfl⟩
set_option maxHeartbeats 4000000 in
set_option maxRecDepth 100000 in
theorem y_walk_c {n k : Nat} {P : Nat → Nat} {H : Nat → Int32} {O : Nat → Nat} {ik : Bool} {kn : Nat} {KP : Nat → Nat} {ic : Bool} {fz sm : Nat} {w : am_W} (hY : YI n k P H O ik kn KP ic fz sm w) {g : Nat → Nat} {i b s mm j : Nat} {F : Option Value → am_W → Prop} {p ng na sg sa x0 x1 : Nat} {A G I : Bool} (hp : p < 8) (hm : mm < 256) (hnext : ∀ w1, YF [40, 41, 43, 44, 45] w w1 → CT g w1 → L2 43 ng na w1 → L2 45 sg sa w1 → L2 44 (x0 ||| (if ((G && !I) || (A && mm.testBit p)) then g p else 0)) x1 w1 → am_Wp none m_Y_walk 1 0 0 310 [(0, .ref 35), (1, .int (nI i)), (2, .int (nI b)), (3, .int (nI s)), (4, .int (nI mm)), (5, .int (nI j)), (6, .int (nI p)), (7, .int (pu_b A)), (8, .int (pu_b G)), (9, .int (pu_b I))] [] w1 F) : ∀ w1, YF [40, 41, 43, 44, 45] w w1 → CT g w1 → L2 43 ng na w1 → L2 45 sg sa w1 → L2 44 x0 x1 w1 → am_Wp none m_Y_walk 1 0 0 264 [(0, .ref 35), (1, .int (nI i)), (2, .int (nI b)), (3, .int (nI s)), (4, .int (nI mm)), (5, .int (nI j)), (6, .int (nI p)), (7, .int (pu_b A)), (8, .int (pu_b G)), (9, .int (pu_b I))] [] w1 F := by
  intro w1 fr hT hl hmt hx
  have hY1 := hY.s fr (by decide)
  obtain ⟨f44, h44, e0, e1⟩ := hx
  have h297 : ((G && !I) || (A && mm.testBit p)) = true → am_Wp none m_Y_walk 1 0 0 297 [(0, .ref 35), (1, .int (nI i)), (2, .int (nI b)), (3, .int (nI s)), (4, .int (nI mm)), (5, .int (nI j)), (6, .int (nI p)), (7, .int (pu_b A)), (8, .int (pu_b G)), (9, .int (pu_b I))] [.int (f44 0), .int 0, .ref 44] w1 F := by
    intro hc
    refine wp_aload_n (q := 298) d_Y_walk_297 rfl rfl rfl ?_
    refine wp_get (q := 301) (k := 11) d_Y_walk_298 rfl ok_Y (Nat.le_of_ble_eq_true rfl) fk_Y_22 hY1.1 rfl ?_
    refine wp_iload (q := 303) d_Y_walk_301 rfl rfl ?_
    refine wp_ialoadN (q := 304) d_Y_walk_303 rfl hT.1 rfl (by omega) (by decide) ?_
    refine wp_goto (tgt := 308) d_Y_walk_304 (by decide) ?_
    refine wp_ior (q := 309) d_Y_walk_308 rfl ?_
    rw [e0, pu_or]
    refine wp_iastoreN (j := 0) (q := 310) d_Y_walk_309 rfl h44 rfl (by decide) (by decide) rfl ?_
    exact hnext _ (fr.put (by decide) h44 (by rfl)) (hT.ne (by decide) (by decide)) (hl.ne (by decide)) (hmt.ne (by decide)) (by rw [hc]; exact L2.w0 (a := x0) h44 e1)
  have h307 : ((G && !I) || (A && mm.testBit p)) = false → am_Wp none m_Y_walk 1 0 0 307 [(0, .ref 35), (1, .int (nI i)), (2, .int (nI b)), (3, .int (nI s)), (4, .int (nI mm)), (5, .int (nI j)), (6, .int (nI p)), (7, .int (pu_b A)), (8, .int (pu_b G)), (9, .int (pu_b I))] [.int (f44 0), .int 0, .ref 44] w1 F := by
    intro hc
    refine wp_iconst (q := 308) (v := 0) d_Y_walk_307 rfl (by decide) ?_
    refine wp_ior (q := 309) d_Y_walk_308 rfl ?_
    rw [e0, show (0 : Int32) = nI 0 from rfl, pu_or]
    refine wp_iastoreN (j := 0) (q := 310) d_Y_walk_309 rfl h44 rfl (by decide) (by decide) rfl ?_
    exact hnext _ (fr.put (by decide) h44 (by rfl)) (hT.ne (by decide) (by decide)) (hl.ne (by decide)) (hmt.ne (by decide)) (by rw [hc]; exact L2.w0 (a := x0) h44 e1)
  refine wp_aload_n (q := 265) d_Y_walk_264 rfl rfl rfl ?_
  refine wp_get (q := 268) (k := 15) d_Y_walk_265 rfl ok_Y (Nat.le_of_ble_eq_true rfl) fk_Y_34 hY1.1 rfl ?_
  refine wp_iconst (q := 269) (v := 0) d_Y_walk_268 rfl (by decide) ?_
  refine wp_dup2 (q := 270) d_Y_walk_269 rfl rfl rfl ?_
  refine wp_ialoadN (j := 0) (q := 271) d_Y_walk_270 rfl h44 rfl (by decide) (by decide) ?_
  refine wp_iload (q := 273) d_Y_walk_271 rfl rfl ?_
  refine wp_if_eq (q := 276) (tgt := 281) d_Y_walk_273 (by decide) rfl (fun c273 => ?_) (fun c273 => ?_)
  · have b273 : G = false := pu_b0.mp c273
    refine wp_iload (q := 283) d_Y_walk_281 rfl rfl ?_
    refine wp_if_eq (q := 286) (tgt := 307) d_Y_walk_283 (by decide) rfl (fun c283 => ?_) (fun c283 => ?_)
    · have b283 : A = false := pu_b0.mp c283
      exact h307 (by rw [b283, b273]; simp)
    · have b283 : A = true := pu_b1 c283
      refine wp_iload (q := 288) d_Y_walk_286 rfl rfl ?_
      refine wp_iload (q := 290) d_Y_walk_288 rfl rfl ?_
      refine wp_ishr (q := 291) d_Y_walk_290 rfl ?_
      refine wp_iconst (q := 292) (v := 1) d_Y_walk_291 rfl (by decide) ?_
      refine wp_iand (q := 293) d_Y_walk_292 rfl ?_
      rw [pu_has (by omega) (by omega)]
      refine wp_iconst (q := 294) (v := 1) d_Y_walk_293 rfl (by decide) ?_
      refine wp_icmp_ne (q := 297) (tgt := 307) d_Y_walk_294 (by decide) rfl (fun c294 => ?_) (fun c294 => ?_)
      · have b294 : mm.testBit p = false := by cases h : mm.testBit p with | false => rfl | true => rw [h] at c294; exact absurd rfl c294
        exact h307 (by rw [b294, b273]; simp)
      · have b294 : mm.testBit p = true := pu_h1.mp c294
        exact h297 (by rw [b294, b283]; simp)
  · have b273 : G = true := pu_b1 c273
    refine wp_iload (q := 278) d_Y_walk_276 rfl rfl ?_
    refine wp_if_eq (q := 281) (tgt := 297) d_Y_walk_278 (by decide) rfl (fun c278 => ?_) (fun c278 => ?_)
    · have b278 : I = false := pu_b0.mp c278
      exact h297 (by rw [b273, b278]; simp)
    · have b278 : I = true := pu_b1 c278
      refine wp_iload (q := 283) d_Y_walk_281 rfl rfl ?_
      refine wp_if_eq (q := 286) (tgt := 307) d_Y_walk_283 (by decide) rfl (fun c283 => ?_) (fun c283 => ?_)
      · have b283 : A = false := pu_b0.mp c283
        exact h307 (by rw [b283, b278]; simp)
      · have b283 : A = true := pu_b1 c283
        refine wp_iload (q := 288) d_Y_walk_286 rfl rfl ?_
        refine wp_iload (q := 290) d_Y_walk_288 rfl rfl ?_
        refine wp_ishr (q := 291) d_Y_walk_290 rfl ?_
        refine wp_iconst (q := 292) (v := 1) d_Y_walk_291 rfl (by decide) ?_
        refine wp_iand (q := 293) d_Y_walk_292 rfl ?_
        rw [pu_has (by omega) (by omega)]
        refine wp_iconst (q := 294) (v := 1) d_Y_walk_293 rfl (by decide) ?_
        refine wp_icmp_ne (q := 297) (tgt := 307) d_Y_walk_294 (by decide) rfl (fun c294 => ?_) (fun c294 => ?_)
        · have b294 : mm.testBit p = false := by cases h : mm.testBit p with | false => rfl | true => rw [h] at c294; exact absurd rfl c294
          exact h307 (by rw [b294, b278]; simp)
        · have b294 : mm.testBit p = true := pu_h1.mp c294
          exact h297 (by rw [b294, b283]; simp)
set_option maxHeartbeats 4000000 in
set_option maxRecDepth 100000 in
theorem y_walk_b {n k : Nat} {P : Nat → Nat} {H : Nat → Int32} {O : Nat → Nat} {ik : Bool} {kn : Nat} {KP : Nat → Nat} {ic : Bool} {fz sm : Nat} {w : am_W} (hY : YI n k P H O ik kn KP ic fz sm w) {g : Nat → Nat} {i b s mm j : Nat} {F : Option Value → am_W → Prop} {p ng na sg sa x0 x1 : Nat} {A G I : Bool} (hp : p < 8) (hm : mm < 256) (hnext : ∀ w1, YF [40, 41, 43, 44, 45] w w1 → CT g w1 → L2 43 ng na w1 → L2 45 sg sa w1 → L2 44 x0 (x1 ||| (if ((A || G) && !I) then (pu_ych g 8) p else 0)) w1 → am_Wp none m_Y_walk 1 0 0 264 [(0, .ref 35), (1, .int (nI i)), (2, .int (nI b)), (3, .int (nI s)), (4, .int (nI mm)), (5, .int (nI j)), (6, .int (nI p)), (7, .int (pu_b A)), (8, .int (pu_b G)), (9, .int (pu_b I))] [] w1 F) : ∀ w1, YF [40, 41, 43, 44, 45] w w1 → CT g w1 → L2 43 ng na w1 → L2 45 sg sa w1 → L2 44 x0 x1 w1 → am_Wp none m_Y_walk 1 0 0 229 [(0, .ref 35), (1, .int (nI i)), (2, .int (nI b)), (3, .int (nI s)), (4, .int (nI mm)), (5, .int (nI j)), (6, .int (nI p)), (7, .int (pu_b A)), (8, .int (pu_b G)), (9, .int (pu_b I))] [] w1 F := by
  intro w1 fr hT hl hmt hx
  have hY1 := hY.s fr (by decide)
  obtain ⟨f44, h44, e0, e1⟩ := hx
  have h251 : ((A || G) && !I) = true → am_Wp none m_Y_walk 1 0 0 251 [(0, .ref 35), (1, .int (nI i)), (2, .int (nI b)), (3, .int (nI s)), (4, .int (nI mm)), (5, .int (nI j)), (6, .int (nI p)), (7, .int (pu_b A)), (8, .int (pu_b G)), (9, .int (pu_b I))] [.int (f44 1), .int 1, .ref 44] w1 F := by
    intro hc
    refine wp_aload_n (q := 252) d_Y_walk_251 rfl rfl rfl ?_
    refine wp_get (q := 255) (k := 12) d_Y_walk_252 rfl ok_Y (Nat.le_of_ble_eq_true rfl) fk_Y_25 hY1.1 rfl ?_
    refine wp_iload (q := 257) d_Y_walk_255 rfl rfl ?_
    refine wp_ialoadN (q := 258) d_Y_walk_257 rfl hT.2 rfl (by omega) (by decide) ?_
    refine wp_goto (tgt := 262) d_Y_walk_258 (by decide) ?_
    refine wp_ior (q := 263) d_Y_walk_262 rfl ?_
    rw [e1, pu_or]
    refine wp_iastoreN (j := 1) (q := 264) d_Y_walk_263 rfl h44 rfl (by decide) (by decide) rfl ?_
    exact hnext _ (fr.put (by decide) h44 (by rfl)) (hT.ne (by decide) (by decide)) (hl.ne (by decide)) (hmt.ne (by decide)) (by rw [hc]; exact L2.w1 (b := x1) h44 e0)
  have h261 : ((A || G) && !I) = false → am_Wp none m_Y_walk 1 0 0 261 [(0, .ref 35), (1, .int (nI i)), (2, .int (nI b)), (3, .int (nI s)), (4, .int (nI mm)), (5, .int (nI j)), (6, .int (nI p)), (7, .int (pu_b A)), (8, .int (pu_b G)), (9, .int (pu_b I))] [.int (f44 1), .int 1, .ref 44] w1 F := by
    intro hc
    refine wp_iconst (q := 262) (v := 0) d_Y_walk_261 rfl (by decide) ?_
    refine wp_ior (q := 263) d_Y_walk_262 rfl ?_
    rw [e1, show (0 : Int32) = nI 0 from rfl, pu_or]
    refine wp_iastoreN (j := 1) (q := 264) d_Y_walk_263 rfl h44 rfl (by decide) (by decide) rfl ?_
    exact hnext _ (fr.put (by decide) h44 (by rfl)) (hT.ne (by decide) (by decide)) (hl.ne (by decide)) (hmt.ne (by decide)) (by rw [hc]; exact L2.w1 (b := x1) h44 e0)
  refine wp_aload_n (q := 230) d_Y_walk_229 rfl rfl rfl ?_
  refine wp_get (q := 233) (k := 15) d_Y_walk_230 rfl ok_Y (Nat.le_of_ble_eq_true rfl) fk_Y_34 hY1.1 rfl ?_
  refine wp_iconst (q := 234) (v := 1) d_Y_walk_233 rfl (by decide) ?_
  refine wp_dup2 (q := 235) d_Y_walk_234 rfl rfl rfl ?_
  refine wp_ialoadN (j := 1) (q := 236) d_Y_walk_235 rfl h44 rfl (by decide) (by decide) ?_
  refine wp_iload (q := 238) d_Y_walk_236 rfl rfl ?_
  refine wp_if_ne (q := 241) (tgt := 246) d_Y_walk_238 (by decide) rfl (fun c238 => ?_) (fun c238 => ?_)
  · have b238 : A = true := pu_b1 c238
    refine wp_iload (q := 248) d_Y_walk_246 rfl rfl ?_
    refine wp_if_ne (q := 251) (tgt := 261) d_Y_walk_248 (by decide) rfl (fun c248 => ?_) (fun c248 => ?_)
    · have b248 : I = true := pu_b1 c248
      exact h261 (by rw [b248]; simp)
    · have b248 : I = false := pu_b0.mp c248
      exact h251 (by rw [b248, b238]; simp)
  · have b238 : A = false := pu_b0.mp c238
    refine wp_iload (q := 243) d_Y_walk_241 rfl rfl ?_
    refine wp_if_eq (q := 246) (tgt := 261) d_Y_walk_243 (by decide) rfl (fun c243 => ?_) (fun c243 => ?_)
    · have b243 : G = false := pu_b0.mp c243
      exact h261 (by rw [b238, b243]; simp)
    · have b243 : G = true := pu_b1 c243
      refine wp_iload (q := 248) d_Y_walk_246 rfl rfl ?_
      refine wp_if_ne (q := 251) (tgt := 261) d_Y_walk_248 (by decide) rfl (fun c248 => ?_) (fun c248 => ?_)
      · have b248 : I = true := pu_b1 c248
        exact h261 (by rw [b248]; simp)
      · have b248 : I = false := pu_b0.mp c248
        exact h251 (by rw [b248, b243]; simp)
set_option maxHeartbeats 4000000 in
set_option maxRecDepth 100000 in
theorem y_walk_a {n k : Nat} {P : Nat → Nat} {H : Nat → Int32} {O : Nat → Nat} {ik : Bool} {kn : Nat} {KP : Nat → Nat} {ic : Bool} {fz sm : Nat} {w : am_W} (hY : YI n k P H O ik kn KP ic fz sm w) {g : Nat → Nat} {i b s mm j : Nat} {F : Option Value → am_W → Prop} {p ng na sg sa : Nat} (hp : p < 8) (hna : na < 256) (hng : ng < 256) (hs : s < 256) : ∀ w1, YF [40, 41, 43, 44, 45] w w1 → CT g w1 → L2 43 ng na w1 → L2 45 sg sa w1 → am_Wp none m_Y_walk 1 0 0 229 [(0, .ref 35), (1, .int (nI i)), (2, .int (nI b)), (3, .int (nI s)), (4, .int (nI mm)), (5, .int (nI j)), (6, .int (nI p)), (7, .int (pu_b (na.testBit p))), (8, .int (pu_b (ng.testBit p))), (9, .int (pu_b (s.testBit p)))] [] w1 F → am_Wp none m_Y_walk 1 0 0 168 [(0, .ref 35), (1, .int (nI i)), (2, .int (nI b)), (3, .int (nI s)), (4, .int (nI mm)), (5, .int (nI j)), (6, .int (nI p))] [] w1 F := by
  intro w1 fr hT hl hmt hk
  have hY1 := hY.s fr (by decide)
  obtain ⟨f43, h43, e0, e1⟩ := hl
  have h227 : am_Wp none m_Y_walk 1 0 0 227 [(0, .ref 35), (1, .int (nI i)), (2, .int (nI b)), (3, .int (nI s)), (4, .int (nI mm)), (5, .int (nI j)), (6, .int (nI p)), (7, .int (pu_b (na.testBit p))), (8, .int (pu_b (ng.testBit p)))] [.int (pu_b (s.testBit p))] w1 F := by
    refine wp_istore (q := 229) d_Y_walk_227 rfl (Nat.le_of_ble_eq_true rfl) rfl ?_
    exact hk
  have h210 : am_Wp none m_Y_walk 1 0 0 210 [(0, .ref 35), (1, .int (nI i)), (2, .int (nI b)), (3, .int (nI s)), (4, .int (nI mm)), (5, .int (nI j)), (6, .int (nI p)), (7, .int (pu_b (na.testBit p)))] [.int (pu_b (ng.testBit p))] w1 F := by
    refine wp_istore (q := 212) d_Y_walk_210 rfl (Nat.le_of_ble_eq_true rfl) rfl ?_
    refine wp_iload_n (q := 213) d_Y_walk_212 rfl rfl rfl ?_
    refine wp_iload (q := 215) d_Y_walk_213 rfl rfl ?_
    refine wp_ishr (q := 216) d_Y_walk_215 rfl ?_
    refine wp_iconst (q := 217) (v := 1) d_Y_walk_216 rfl (by decide) ?_
    refine wp_iand (q := 218) d_Y_walk_217 rfl ?_
    rw [pu_has (by omega) (by omega)]
    refine wp_iconst (q := 219) (v := 1) d_Y_walk_218 rfl (by decide) ?_
    refine wp_icmp_ne (q := 222) (tgt := 226) d_Y_walk_219 (by decide) rfl (fun c219 => ?_) (fun c219 => ?_)
    · have e : s.testBit p = false := by cases h : s.testBit p with | false => rfl | true => rw [h] at c219; exact absurd rfl c219
      refine wp_iconst (q := 227) (v := 0) d_Y_walk_226 rfl (by decide) ?_
      rw [e] at h227
      exact h227
    · have e : s.testBit p = true := pu_h1.mp c219
      refine wp_iconst (q := 223) (v := 1) d_Y_walk_222 rfl (by decide) ?_
      refine wp_goto (tgt := 227) d_Y_walk_223 (by decide) ?_
      rw [e] at h227
      exact h227
  have h188 : am_Wp none m_Y_walk 1 0 0 188 [(0, .ref 35), (1, .int (nI i)), (2, .int (nI b)), (3, .int (nI s)), (4, .int (nI mm)), (5, .int (nI j)), (6, .int (nI p))] [.int (pu_b (na.testBit p))] w1 F := by
    refine wp_istore (q := 190) d_Y_walk_188 rfl (Nat.le_of_ble_eq_true rfl) rfl ?_
    refine wp_aload_n (q := 191) d_Y_walk_190 rfl rfl rfl ?_
    refine wp_get (q := 194) (k := 14) d_Y_walk_191 rfl ok_Y (Nat.le_of_ble_eq_true rfl) fk_Y_31 hY1.1 rfl ?_
    refine wp_iconst (q := 195) (v := 0) d_Y_walk_194 rfl (by decide) ?_
    refine wp_ialoadN (j := 0) (q := 196) d_Y_walk_195 rfl h43 rfl (by decide) (by decide) ?_
    rw [e0]
    refine wp_iload (q := 198) d_Y_walk_196 rfl rfl ?_
    refine wp_ishr (q := 199) d_Y_walk_198 rfl ?_
    refine wp_iconst (q := 200) (v := 1) d_Y_walk_199 rfl (by decide) ?_
    refine wp_iand (q := 201) d_Y_walk_200 rfl ?_
    rw [pu_has (by omega) (by omega)]
    refine wp_iconst (q := 202) (v := 1) d_Y_walk_201 rfl (by decide) ?_
    refine wp_icmp_ne (q := 205) (tgt := 209) d_Y_walk_202 (by decide) rfl (fun c202 => ?_) (fun c202 => ?_)
    · have e : ng.testBit p = false := by cases h : ng.testBit p with | false => rfl | true => rw [h] at c202; exact absurd rfl c202
      refine wp_iconst (q := 210) (v := 0) d_Y_walk_209 rfl (by decide) ?_
      rw [e] at h210
      exact h210
    · have e : ng.testBit p = true := pu_h1.mp c202
      refine wp_iconst (q := 206) (v := 1) d_Y_walk_205 rfl (by decide) ?_
      refine wp_goto (tgt := 210) d_Y_walk_206 (by decide) ?_
      rw [e] at h210
      exact h210
  refine wp_aload_n (q := 169) d_Y_walk_168 rfl rfl rfl ?_
  refine wp_get (q := 172) (k := 14) d_Y_walk_169 rfl ok_Y (Nat.le_of_ble_eq_true rfl) fk_Y_31 hY1.1 rfl ?_
  refine wp_iconst (q := 173) (v := 1) d_Y_walk_172 rfl (by decide) ?_
  refine wp_ialoadN (j := 1) (q := 174) d_Y_walk_173 rfl h43 rfl (by decide) (by decide) ?_
  rw [e1]
  refine wp_iload (q := 176) d_Y_walk_174 rfl rfl ?_
  refine wp_ishr (q := 177) d_Y_walk_176 rfl ?_
  refine wp_iconst (q := 178) (v := 1) d_Y_walk_177 rfl (by decide) ?_
  refine wp_iand (q := 179) d_Y_walk_178 rfl ?_
  rw [pu_has (by omega) (by omega)]
  refine wp_iconst (q := 180) (v := 1) d_Y_walk_179 rfl (by decide) ?_
  refine wp_icmp_ne (q := 183) (tgt := 187) d_Y_walk_180 (by decide) rfl (fun c180 => ?_) (fun c180 => ?_)
  · have e : na.testBit p = false := by cases h : na.testBit p with | false => rfl | true => rw [h] at c180; exact absurd rfl c180
    refine wp_iconst (q := 188) (v := 0) d_Y_walk_187 rfl (by decide) ?_
    rw [e] at h188
    exact h188
  · have e : na.testBit p = true := pu_h1.mp c180
    refine wp_iconst (q := 184) (v := 1) d_Y_walk_183 rfl (by decide) ?_
    refine wp_goto (tgt := 188) d_Y_walk_184 (by decide) ?_
    rw [e] at h188
    exact h188
set_option maxHeartbeats 4000000 in
set_option maxRecDepth 100000 in
theorem y_walk_I {n k : Nat} {P : Nat → Nat} {H : Nat → Int32} {O : Nat → Nat} {ik : Bool} {kn : Nat} {KP : Nat → Nat} {ic : Bool} {fz sm : Nat} {w : am_W} (hY : YI n k P H O ik kn KP ic fz sm w) {g : Nat → Nat} {i b s mm j : Nat} {F : Option Value → am_W → Prop} (hn : n ≤ 8) (hm : mm < 256) {ng na sg sa : Nat} (hna : na < 256) (hng : ng < 256) (hs : s < 256) (hout : ∀ w1, YF [40, 41, 43, 44, 45] w w1 → CT g w1 → L2 43 ng na w1 → L2 45 sg sa w1 → L2 44 (pu_un g (pu_dif ng s ||| (na &&& mm)) n) (pu_un (pu_ych g 8) (pu_dif ng s ||| pu_dif na s) n) w1 → am_Wp none m_Y_walk 1 0 0 316 [(0, .ref 35), (1, .int (nI i)), (2, .int (nI b)), (3, .int (nI s)), (4, .int (nI mm)), (5, .int (nI j)), (6, .int (nI n))] [] w1 F) : ∀ p, p ≤ n → ∀ w1, YF [40, 41, 43, 44, 45] w w1 → CT g w1 → L2 43 ng na w1 → L2 45 sg sa w1 → L2 44 (pu_un g (pu_dif ng s ||| (na &&& mm)) p) (pu_un (pu_ych g 8) (pu_dif ng s ||| pu_dif na s) p) w1 → am_Wp none m_Y_walk 1 0 0 159 [(0, .ref 35), (1, .int (nI i)), (2, .int (nI b)), (3, .int (nI s)), (4, .int (nI mm)), (5, .int (nI j)), (6, .int (nI p))] [] w1 F := by
  refine pu_up (P := fun p => ∀ w1, YF [40, 41, 43, 44, 45] w w1 → CT g w1 → L2 43 ng na w1 → L2 45 sg sa w1 → L2 44 (pu_un g (pu_dif ng s ||| (na &&& mm)) p) (pu_un (pu_ych g 8) (pu_dif ng s ||| pu_dif na s) p) w1 → am_Wp none m_Y_walk 1 0 0 159 [(0, .ref 35), (1, .int (nI i)), (2, .int (nI b)), (3, .int (nI s)), (4, .int (nI mm)), (5, .int (nI j)), (6, .int (nI p))] [] w1 F) ?_ ?_
  · intro w1 fr hT hl hmt hx
    have hY1 := hY.s fr (by decide)
    refine wp_iload (q := 161) d_Y_walk_159 rfl rfl ?_
    refine wp_aload_n (q := 162) d_Y_walk_161 rfl rfl rfl ?_
    refine wp_get (q := 165) (k := 0) d_Y_walk_162 rfl ok_Y (Nat.le_of_ble_eq_true rfl) fk_Y_63 hY1.1 rfl ?_
    refine wp_icmp_ge (q := 168) (tgt := 316) d_Y_walk_165 (by decide) rfl (fun _ => ?_) (fun c165 => absurd (nI_le (Nat.le_refl n) (by omega)) c165)
    exact hout w1 fr hT hl hmt hx
  · intro p hp ih w1 fr hT hl hmt hx
    have hY1 := hY.s fr (by decide)
    refine wp_iload (q := 161) d_Y_walk_159 rfl rfl ?_
    refine wp_aload_n (q := 162) d_Y_walk_161 rfl rfl rfl ?_
    refine wp_get (q := 165) (k := 0) d_Y_walk_162 rfl ok_Y (Nat.le_of_ble_eq_true rfl) fk_Y_63 hY1.1 rfl ?_
    refine wp_icmp_ge (q := 168) (tgt := 316) d_Y_walk_165 (by decide) rfl (fun c165 => absurd c165 (nI_ge hp (by omega))) (fun _ => ?_)
    refine y_walk_a hY (by omega) hna hng hs w1 fr hT hl hmt ?_
    refine y_walk_b hY (by omega) hm ?_ w1 fr hT hl hmt hx
    intro w2 fr2 hT2 hl2 hmt2 hx2
    refine y_walk_c hY (by omega) hm ?_ w2 fr2 hT2 hl2 hmt2 hx2
    intro w3 fr3 hT3 hl3 hmt3 hx3
    rw [← pu_dor_bit (by omega), ← pu_un_s, ← pu_dan_bit (by omega), ← pu_un_s] at hx3
    refine wp_inc1 (q := 313) d_Y_walk_310 rfl rfl (nI_1 _) (Nat.le_of_ble_eq_true rfl) rfl ?_
    refine wp_goto (tgt := 159) d_Y_walk_313 (by decide) ?_
    refine wp_lo [(0, .ref 35), (1, .int (nI i)), (2, .int (nI b)), (3, .int (nI s)), (4, .int (nI mm)), (5, .int (nI j)), (6, .int (nI (p + 1)))] ⟨rfl, rfl, rfl, rfl, rfl, rfl, rfl, trivial⟩ ?_
    exact ih w3 fr3 hT3 hl3 hmt3 hx3
set_option maxHeartbeats 4000000 in
set_option maxRecDepth 100000 in
theorem y_walk_O {n k : Nat} {P : Nat → Nat} {H : Nat → Int32} {O : Nat → Nat} {ik : Bool} {kn : Nat} {KP : Nat → Nat} {ic : Bool} {fz sm : Nat} {w : am_W} (hY : YI n k P H O ik kn KP ic fz sm w) {g : Nat → Nat} (hn : n ≤ 8) (hg : ∀ i, g i < 2 ^ n) (hgon : ∀ q, pu_ych g 8 q < 2 ^ n) {i b s mm : Nat} (hb : b < n) (hs : s < 2 ^ n) (hm : mm < 256) : ∀ k9 : Nat, ∀ (j na ng ma mg : Nat) (w1 : am_W), YF [40, 41, 43, 44, 45] w w1 → CT g w1 → L2 43 ng na w1 → L2 45 mg ma w1 → na < 2 ^ n → ng < 2 ^ n → ma < 256 → mg < 256 → ((na = 0 ∧ ng = 0) ∨ 17 ≤ k9 + pu_pop 8 (ma ||| na) + pu_pop 8 (mg ||| ng)) → am_Wp none m_Y_walk 1 0 0 70 [(0, .ref 35), (1, .int (nI i)), (2, .int (nI b)), (3, .int (nI s)), (4, .int (nI mm)), (5, .int (nI j))] [] w1 (fun v w2 => v = some (.int (pu_sw g (pu_ych g 8) s mm b k9 j na ng (ma ||| na) (mg ||| ng))) ∧ YF [40, 41, 43, 44, 45] w w2) := by
  intro k9
  induction k9 with
  | zero =>
    intro j na ng ma mg w1 fr hT hl hmt hna hng hma hmg hinv
    have hY1 := hY.s fr (by decide)
    have hz : na = 0 ∧ ng = 0 := hinv.resolve_right (fun h => by have := pu_pop_le 8 (ma ||| na); have := pu_pop_le 8 (mg ||| ng); omega)
    obtain ⟨f43, h43, e0, e1⟩ := hl
    refine wp_aload_n (q := 71) d_Y_walk_70 rfl rfl rfl ?_
    refine wp_get (q := 74) (k := 14) d_Y_walk_71 rfl ok_Y (Nat.le_of_ble_eq_true rfl) fk_Y_31 hY1.1 rfl ?_
    refine wp_iconst (q := 75) (v := 0) d_Y_walk_74 rfl (by decide) ?_
    refine wp_ialoadN (j := 0) (q := 76) d_Y_walk_75 rfl h43 rfl (by decide) (by decide) ?_
    rw [e0]
    refine wp_if_ne (q := 79) (tgt := 88) d_Y_walk_76 (by decide) rfl (fun c76 => absurd (by rw [hz.2]; exact nI_0) c76) (fun _ => ?_)
    refine wp_aload_n (q := 80) d_Y_walk_79 rfl rfl rfl ?_
    refine wp_get (q := 83) (k := 14) d_Y_walk_80 rfl ok_Y (Nat.le_of_ble_eq_true rfl) fk_Y_31 hY1.1 rfl ?_
    refine wp_iconst (q := 84) (v := 1) d_Y_walk_83 rfl (by decide) ?_
    refine wp_ialoadN (j := 1) (q := 85) d_Y_walk_84 rfl h43 rfl (by decide) (by decide) ?_
    rw [e1]
    refine wp_if_eq (q := 88) (tgt := 364) d_Y_walk_85 (by decide) rfl (fun _ => ?_) (fun c85 => absurd (by rw [hz.1]; exact nI_0) c85)
    refine wp_iconst (q := 365) (v := -1) d_Y_walk_364 rfl (by decide) ?_
    exact wp_ireturn rfl d_Y_walk_365 ⟨by rw [hz.1, hz.2, pu_sw_0], fr⟩
  | succ k9 ih =>
    intro j na ng ma mg w1 fr hT hl hmt hna hng hma hmg hinv
    have hY1 := hY.s fr (by decide)
    have hna8 := pu_lt8 hn hna
    have hng8 := pu_lt8 hn hng
    have hs8 := pu_lt8 hn hs
    have hst0 : (pu_dif ng s ||| (na &&& mm)) < 2 ^ n := Nat.or_lt_two_pow (pu_dif_ltn hng) (Nat.lt_of_le_of_lt Nat.and_le_left hna)
    have hst1 : (pu_dif ng s ||| pu_dif na s) < 2 ^ n := Nat.or_lt_two_pow (pu_dif_ltn hng) (pu_dif_ltn hna)
    have hgo : ∀ q, pu_ych g 8 q < 2 ^ n := hgon
    have hgo8 : ∀ q, pu_ych g 8 q < 256 := pu_ych_lt (by decide)
    have hg8 : ∀ q, g q < 256 := fun q => pu_lt8 hn (hg q)
    have hnaN : (pu_na g (pu_ych g 8) s mm na ng (ma ||| na)) < 2 ^ n := pu_dif_ltn (pu_un_lt hgo 8)
    have hngN : (pu_ng g (pu_ych g 8) s mm na ng (mg ||| ng)) < 2 ^ n := pu_dif_ltn (pu_un_lt hg 8)
    obtain ⟨f43, h43, e0, e1⟩ := id hl
    obtain ⟨f45, h45, g0, g1⟩ := id hmt
    have h88 : ¬ (na = 0 ∧ ng = 0) → am_Wp none m_Y_walk 1 0 0 88 [(0, .ref 35), (1, .int (nI i)), (2, .int (nI b)), (3, .int (nI s)), (4, .int (nI mm)), (5, .int (nI j))] [] w1 (fun v w2 => v = some (.int (pu_sw g (pu_ych g 8) s mm b (k9 + 1) j na ng (ma ||| na) (mg ||| ng))) ∧ YF [40, 41, 43, 44, 45] w w2) := by
      intro hne
      have hinv := hinv.resolve_left hne
      refine wp_aload_n (q := 89) d_Y_walk_88 rfl rfl rfl ?_
      refine wp_get (q := 92) (k := 14) d_Y_walk_89 rfl ok_Y (Nat.le_of_ble_eq_true rfl) fk_Y_31 hY1.1 rfl ?_
      refine wp_iconst (q := 93) (v := 0) d_Y_walk_92 rfl (by decide) ?_
      refine wp_ialoadN (j := 0) (q := 94) d_Y_walk_93 rfl h43 rfl (by decide) (by decide) ?_
      rw [e0]
      refine wp_aload_n (q := 95) d_Y_walk_94 rfl rfl rfl ?_
      refine wp_get (q := 98) (k := 14) d_Y_walk_95 rfl ok_Y (Nat.le_of_ble_eq_true rfl) fk_Y_31 hY1.1 rfl ?_
      refine wp_iconst (q := 99) (v := 1) d_Y_walk_98 rfl (by decide) ?_
      refine wp_ialoadN (j := 1) (q := 100) d_Y_walk_99 rfl h43 rfl (by decide) (by decide) ?_
      rw [e1]
      refine wp_ior (q := 101) d_Y_walk_100 rfl ?_
      rw [pu_or, Nat.or_comm]
      refine wp_iload_n (q := 102) d_Y_walk_101 rfl rfl rfl ?_
      refine wp_ishr (q := 103) d_Y_walk_102 rfl ?_
      refine wp_iconst (q := 104) (v := 1) d_Y_walk_103 rfl (by decide) ?_
      refine wp_iand (q := 105) d_Y_walk_104 rfl ?_
      rw [pu_has (Nat.lt_trans (pu_or_lt hna8 hng8) (by decide)) (by omega)]
      refine wp_iconst (q := 106) (v := 1) d_Y_walk_105 rfl (by decide) ?_
      refine wp_icmp_ne (q := 109) (tgt := 112) d_Y_walk_106 (by decide) rfl (fun c106 => ?_) (fun c106 => ?_)
      · have hbt : (na ||| ng).testBit b = false := by cases h : (na ||| ng).testBit b with | false => rfl | true => rw [h] at c106; exact absurd rfl c106
        have esw : pu_sw g (pu_ych g 8) s mm b (k9 + 1) j na ng (ma ||| na) (mg ||| ng) = pu_sw g (pu_ych g 8) s mm b k9 (j + 1) (pu_na g (pu_ych g 8) s mm na ng (ma ||| na)) (pu_ng g (pu_ych g 8) s mm na ng (mg ||| ng)) ((ma ||| na) ||| (pu_na g (pu_ych g 8) s mm na ng (ma ||| na))) ((mg ||| ng) ||| (pu_ng g (pu_ych g 8) s mm na ng (mg ||| ng))) := by rw [pu_sw, hbt]; rfl
        rw [esw]
        refine wp_aload_n (q := 113) d_Y_walk_112 rfl rfl rfl ?_
        refine wp_get (q := 116) (k := 16) d_Y_walk_113 rfl ok_Y (Nat.le_of_ble_eq_true rfl) fk_Y_37 hY1.1 rfl ?_
        refine wp_iconst (q := 117) (v := 0) d_Y_walk_116 rfl (by decide) ?_
        refine wp_dup2 (q := 118) d_Y_walk_117 rfl rfl rfl ?_
        refine wp_ialoadN (j := 0) (q := 119) d_Y_walk_118 rfl h45 rfl (by decide) (by decide) ?_
        rw [g0]
        refine wp_aload_n (q := 120) d_Y_walk_119 rfl rfl rfl ?_
        refine wp_get (q := 123) (k := 14) d_Y_walk_120 rfl ok_Y (Nat.le_of_ble_eq_true rfl) fk_Y_31 hY1.1 rfl ?_
        refine wp_iconst (q := 124) (v := 0) d_Y_walk_123 rfl (by decide) ?_
        refine wp_ialoadN (j := 0) (q := 125) d_Y_walk_124 rfl h43 rfl (by decide) (by decide) ?_
        rw [e0]
        refine wp_ior (q := 126) d_Y_walk_125 rfl ?_
        rw [pu_or]
        refine wp_iastoreN (j := 0) (q := 127) d_Y_walk_126 rfl h45 rfl (by decide) (by decide) rfl ?_
        have fr2 := fr.put (a := 45) (c := .inl (0, 2, .inl (upd f45 0 (nI (mg ||| ng))))) (by decide) h45 (by rfl)
        have hY2 := hY.s fr2 (by decide)
        have hl2 := (show L2 43 ng na w1 from ⟨f43, h43, e0, e1⟩).ne (j := 45) (c := .inl (0, 2, .inl (upd f45 0 (nI (mg ||| ng))))) (by decide)
        have hm2 := L2.w0 (a := mg) (x := mg ||| ng) h45 g1
        have hT2 := hT.ne (j := 45) (c := .inl (0, 2, .inl (upd f45 0 (nI (mg ||| ng))))) (by decide) (by decide)
        generalize w1.set 45 (.inl (0, 2, .inl (upd f45 0 (nI (mg ||| ng))))) = w2 at fr2 hY2 hl2 hm2 hT2 ⊢
        obtain ⟨f43', h43', e0', e1'⟩ := id hl2
        obtain ⟨f45', h45', g0', g1'⟩ := hm2
        refine wp_aload_n (q := 128) d_Y_walk_127 rfl rfl rfl ?_
        refine wp_get (q := 131) (k := 16) d_Y_walk_128 rfl ok_Y (Nat.le_of_ble_eq_true rfl) fk_Y_37 hY2.1 rfl ?_
        refine wp_iconst (q := 132) (v := 1) d_Y_walk_131 rfl (by decide) ?_
        refine wp_dup2 (q := 133) d_Y_walk_132 rfl rfl rfl ?_
        refine wp_ialoadN (j := 1) (q := 134) d_Y_walk_133 rfl h45' rfl (by decide) (by decide) ?_
        rw [g1']
        refine wp_aload_n (q := 135) d_Y_walk_134 rfl rfl rfl ?_
        refine wp_get (q := 138) (k := 14) d_Y_walk_135 rfl ok_Y (Nat.le_of_ble_eq_true rfl) fk_Y_31 hY2.1 rfl ?_
        refine wp_iconst (q := 139) (v := 1) d_Y_walk_138 rfl (by decide) ?_
        refine wp_ialoadN (j := 1) (q := 140) d_Y_walk_139 rfl h43' rfl (by decide) (by decide) ?_
        rw [e1']
        refine wp_ior (q := 141) d_Y_walk_140 rfl ?_
        rw [pu_or]
        refine wp_iastoreN (j := 1) (q := 142) d_Y_walk_141 rfl h45' rfl (by decide) (by decide) rfl ?_
        have fr3 := fr2.put (a := 45) (c := .inl (0, 2, .inl (upd f45' 1 (nI (ma ||| na))))) (by decide) h45' (by rfl)
        have hY3 := hY.s fr3 (by decide)
        have hl3 := hl2.ne (j := 45) (c := .inl (0, 2, .inl (upd f45' 1 (nI (ma ||| na))))) (by decide)
        have hm3 := L2.w1 (b := ma) (x := ma ||| na) h45' g0'
        have hT3 := hT2.ne (j := 45) (c := .inl (0, 2, .inl (upd f45' 1 (nI (ma ||| na))))) (by decide) (by decide)
        generalize w2.set 45 (.inl (0, 2, .inl (upd f45' 1 (nI (ma ||| na))))) = w3 at fr3 hY3 hl3 hm3 hT3 ⊢
        obtain ⟨f44, h44⟩ := hY3.2.2.2.2.2.2.2.2.2.1.i
        refine wp_aload_n (q := 143) d_Y_walk_142 rfl rfl rfl ?_
        refine wp_get (q := 146) (k := 15) d_Y_walk_143 rfl ok_Y (Nat.le_of_ble_eq_true rfl) fk_Y_34 hY3.1 rfl ?_
        refine wp_iconst (q := 147) (v := 0) d_Y_walk_146 rfl (by decide) ?_
        refine wp_iconst (q := 148) (v := 0) d_Y_walk_147 rfl (by decide) ?_
        refine wp_iastoreN (j := 0) (q := 149) d_Y_walk_148 rfl h44 rfl (by decide) (by decide) rfl ?_
        have fr4 := fr3.put (a := 44) (c := .inl (0, 2, .inl (upd f44 0 0))) (by decide) h44 (by rfl)
        have hY4 := hY.s fr4 (by decide)
        refine wp_aload_n (q := 150) d_Y_walk_149 rfl rfl rfl ?_
        refine wp_get (q := 153) (k := 15) d_Y_walk_150 rfl ok_Y (Nat.le_of_ble_eq_true rfl) fk_Y_34 hY4.1 rfl ?_
        refine wp_iconst (q := 154) (v := 1) d_Y_walk_153 rfl (by decide) ?_
        refine wp_iconst (q := 155) (v := 0) d_Y_walk_154 rfl (by decide) ?_
        refine wp_iastoreN (j := 1) (q := 156) d_Y_walk_155 rfl (am_at_eq h44) rfl (by decide) (by decide) rfl ?_
        have fr5 := fr4.put (a := 44) (c := .inl (0, 2, .inl (upd (upd f44 0 0) 1 0))) (by decide) (am_at_eq h44) (by rfl)
        have hl5 := (hl3.ne (j := 44) (c := .inl (0, 2, .inl (upd f44 0 0))) (by decide)).ne (j := 44) (c := .inl (0, 2, .inl (upd (upd f44 0 0) 1 0))) (by decide)
        have hm5 := (hm3.ne (j := 44) (c := .inl (0, 2, .inl (upd f44 0 0))) (by decide)).ne (j := 44) (c := .inl (0, 2, .inl (upd (upd f44 0 0) 1 0))) (by decide)
        have hT5 := (hT3.ne (j := 44) (c := .inl (0, 2, .inl (upd f44 0 0))) (by decide) (by decide)).ne (j := 44) (c := .inl (0, 2, .inl (upd (upd f44 0 0) 1 0))) (by decide) (by decide)
        have hx5 : L2 44 0 0 ((w3.set 44 (.inl (0, 2, .inl (upd f44 0 0)))).set 44 (.inl (0, 2, .inl (upd (upd f44 0 0) 1 0)))) := ⟨_, am_at_eq (am_at_eq h44), rfl, rfl⟩
        refine wp_iconst (q := 157) (v := 0) d_Y_walk_156 rfl (by decide) ?_
        refine wp_istore (q := 159) d_Y_walk_157 rfl (Nat.le_of_ble_eq_true rfl) rfl ?_
        refine y_walk_I hY hn hm hna8 hng8 hs8 ?_ 0 (Nat.zero_le _) _ fr5 hT5 hl5 hm5 hx5
        intro w6 fr6 hT6 hl6 hm6 hx6
        have hY6 := hY.s fr6 (by decide)
        obtain ⟨f43, h43, e0, e1⟩ := hl6
        obtain ⟨f45, h45, g0, g1⟩ := id hm6
        obtain ⟨f44, h44, x0, x1⟩ := id hx6
        refine wp_aload_n (q := 317) d_Y_walk_316 rfl rfl rfl ?_
        refine wp_get (q := 320) (k := 14) d_Y_walk_317 rfl ok_Y (Nat.le_of_ble_eq_true rfl) fk_Y_31 hY6.1 rfl ?_
        refine wp_iconst (q := 321) (v := 0) d_Y_walk_320 rfl (by decide) ?_
        refine wp_aload_n (q := 322) d_Y_walk_321 rfl rfl rfl ?_
        refine wp_get (q := 325) (k := 15) d_Y_walk_322 rfl ok_Y (Nat.le_of_ble_eq_true rfl) fk_Y_34 hY6.1 rfl ?_
        refine wp_iconst (q := 326) (v := 0) d_Y_walk_325 rfl (by decide) ?_
        refine wp_ialoadN (j := 0) (q := 327) d_Y_walk_326 rfl h44 rfl (by decide) (by decide) ?_
        rw [x0]
        refine wp_aload_n (q := 328) d_Y_walk_327 rfl rfl rfl ?_
        refine wp_get (q := 331) (k := 16) d_Y_walk_328 rfl ok_Y (Nat.le_of_ble_eq_true rfl) fk_Y_37 hY6.1 rfl ?_
        refine wp_iconst (q := 332) (v := 0) d_Y_walk_331 rfl (by decide) ?_
        refine wp_ialoadN (j := 0) (q := 333) d_Y_walk_332 rfl h45 rfl (by decide) (by decide) ?_
        rw [g0]
        refine wp_iconst (q := 334) (v := -1) d_Y_walk_333 rfl (by decide) ?_
        refine wp_ixor (q := 335) d_Y_walk_334 rfl ?_
        refine wp_iand (q := 336) d_Y_walk_335 rfl ?_
        rw [pu_not]
        refine wp_iastoreN (j := 0) (q := 337) d_Y_walk_336 rfl h43 rfl (by decide) (by decide) rfl ?_
        rw [pu_un_8 hn hst0]
        show am_Wp _ _ _ _ _ _ _ _ (w6.set 43 (.inl (0, 2, .inl (upd f43 0 (nI (pu_ng g (pu_ych g 8) s mm na ng (mg ||| ng))))))) _
        have fr7 := fr6.put (a := 43) (c := .inl (0, 2, .inl (upd f43 0 (nI (pu_ng g (pu_ych g 8) s mm na ng (mg ||| ng)))))) (by decide) h43 (by rfl)
        have hY7 := hY.s fr7 (by decide)
        have hl7 := L2.w0 (a := ng) (x := (pu_ng g (pu_ych g 8) s mm na ng (mg ||| ng))) h43 e1
        have hm7 := hm6.ne (j := 43) (c := .inl (0, 2, .inl (upd f43 0 (nI (pu_ng g (pu_ych g 8) s mm na ng (mg ||| ng)))))) (by decide)
        have hx7 := hx6.ne (j := 43) (c := .inl (0, 2, .inl (upd f43 0 (nI (pu_ng g (pu_ych g 8) s mm na ng (mg ||| ng)))))) (by decide)
        have hT7 := hT6.ne (j := 43) (c := .inl (0, 2, .inl (upd f43 0 (nI (pu_ng g (pu_ych g 8) s mm na ng (mg ||| ng)))))) (by decide) (by decide)
        generalize w6.set 43 (.inl (0, 2, .inl (upd f43 0 (nI (pu_ng g (pu_ych g 8) s mm na ng (mg ||| ng)))))) = w7 at fr7 hY7 hl7 hm7 hx7 hT7 ⊢
        obtain ⟨f43, h43, e0, e1⟩ := hl7
        obtain ⟨f45, h45, g0, g1⟩ := id hm7
        obtain ⟨f44, h44, x0, x1⟩ := id hx7
        refine wp_aload_n (q := 338) d_Y_walk_337 rfl rfl rfl ?_
        refine wp_get (q := 341) (k := 14) d_Y_walk_338 rfl ok_Y (Nat.le_of_ble_eq_true rfl) fk_Y_31 hY7.1 rfl ?_
        refine wp_iconst (q := 342) (v := 1) d_Y_walk_341 rfl (by decide) ?_
        refine wp_aload_n (q := 343) d_Y_walk_342 rfl rfl rfl ?_
        refine wp_get (q := 346) (k := 15) d_Y_walk_343 rfl ok_Y (Nat.le_of_ble_eq_true rfl) fk_Y_34 hY7.1 rfl ?_
        refine wp_iconst (q := 347) (v := 1) d_Y_walk_346 rfl (by decide) ?_
        refine wp_ialoadN (j := 1) (q := 348) d_Y_walk_347 rfl h44 rfl (by decide) (by decide) ?_
        rw [x1]
        refine wp_aload_n (q := 349) d_Y_walk_348 rfl rfl rfl ?_
        refine wp_get (q := 352) (k := 16) d_Y_walk_349 rfl ok_Y (Nat.le_of_ble_eq_true rfl) fk_Y_37 hY7.1 rfl ?_
        refine wp_iconst (q := 353) (v := 1) d_Y_walk_352 rfl (by decide) ?_
        refine wp_ialoadN (j := 1) (q := 354) d_Y_walk_353 rfl h45 rfl (by decide) (by decide) ?_
        rw [g1]
        refine wp_iconst (q := 355) (v := -1) d_Y_walk_354 rfl (by decide) ?_
        refine wp_ixor (q := 356) d_Y_walk_355 rfl ?_
        refine wp_iand (q := 357) d_Y_walk_356 rfl ?_
        rw [pu_not]
        refine wp_iastoreN (j := 1) (q := 358) d_Y_walk_357 rfl h43 rfl (by decide) (by decide) rfl ?_
        rw [pu_un_8 hn hst1]
        show am_Wp _ _ _ _ _ _ _ _ (w7.set 43 (.inl (0, 2, .inl (upd f43 1 (nI (pu_na g (pu_ych g 8) s mm na ng (ma ||| na))))))) _
        refine wp_inc1 (q := 361) d_Y_walk_358 rfl rfl (nI_1 _) (Nat.le_of_ble_eq_true rfl) rfl ?_
        refine wp_goto (tgt := 70) d_Y_walk_361 (by decide) ?_
        refine wp_lo [(0, .ref 35), (1, .int (nI i)), (2, .int (nI b)), (3, .int (nI s)), (4, .int (nI mm)), (5, .int (nI (j + 1)))] ⟨rfl, rfl, rfl, rfl, rfl, rfl, trivial⟩ ?_
        refine ih (j + 1) _ _ (ma ||| na) (mg ||| ng) _ (fr7.put (by decide) h43 (by rfl)) (hT7.ne (by decide) (by decide)) (L2.w1 (b := na) h43 e0) (hm7.ne (by decide)) hnaN hngN (pu_or_lt hma hna8) (pu_or_lt hmg hng8) ?_
        by_cases z1 : (pu_na g (pu_ych g 8) s mm na ng (ma ||| na)) = 0
        · by_cases z2 : (pu_ng g (pu_ych g 8) s mm na ng (mg ||| ng)) = 0
          · exact Or.inl ⟨z1, z2⟩
          · have q2 := pu_pop_new (s := mg ||| ng) (Nat.lt_of_le_of_lt (pu_dif_le _ _) (pu_un_lt (n := 8) hg8 8)) z2 rfl
            have q1 := pu_pop_mono (SU.orl (a := ma ||| na) (b := (pu_na g (pu_ych g 8) s mm na ng (ma ||| na)))) 8
            refine Or.inr ?_
            have q3 : pu_pop 8 ((mg ||| ng) ||| (pu_ng g (pu_ych g 8) s mm na ng (mg ||| ng))) = pu_pop 8 ((mg ||| ng) ||| pu_dif (pu_un g (pu_dif ng s ||| (na &&& mm)) 8) (mg ||| ng)) := rfl
            omega
        · have q2 := pu_pop_new (s := ma ||| na) (Nat.lt_of_le_of_lt (pu_dif_le _ _) (pu_un_lt (n := 8) hgo8 8)) z1 rfl
          have q1 := pu_pop_mono (SU.orl (a := mg ||| ng) (b := (pu_ng g (pu_ych g 8) s mm na ng (mg ||| ng)))) 8
          refine Or.inr ?_
          have q3 : pu_pop 8 ((ma ||| na) ||| (pu_na g (pu_ych g 8) s mm na ng (ma ||| na))) = pu_pop 8 ((ma ||| na) ||| pu_dif (pu_un (pu_ych g 8) (pu_dif ng s ||| pu_dif na s) 8) (ma ||| na)) := rfl
          omega
      · have hbt : (na ||| ng).testBit b = true := pu_h1.mp c106
        refine wp_iload (q := 111) d_Y_walk_109 rfl rfl ?_
        exact wp_ireturn rfl d_Y_walk_111 ⟨by unfold pu_sw; rw [if_pos hbt], fr⟩
    refine wp_aload_n (q := 71) d_Y_walk_70 rfl rfl rfl ?_
    refine wp_get (q := 74) (k := 14) d_Y_walk_71 rfl ok_Y (Nat.le_of_ble_eq_true rfl) fk_Y_31 hY1.1 rfl ?_
    refine wp_iconst (q := 75) (v := 0) d_Y_walk_74 rfl (by decide) ?_
    refine wp_ialoadN (j := 0) (q := 76) d_Y_walk_75 rfl h43 rfl (by decide) (by decide) ?_
    rw [e0]
    refine wp_if_ne (q := 79) (tgt := 88) d_Y_walk_76 (by decide) rfl (fun c76 => ?_) (fun c76 => ?_)
    · have z : ¬ ng = 0 := fun e => c76 (by rw [e]; exact nI_0)
      exact h88 (fun h => z h.2)
    · have z : ng = 0 := pu_nI_inj (by omega) (by decide) (c76.trans nI_0.symm)
      refine wp_aload_n (q := 80) d_Y_walk_79 rfl rfl rfl ?_
      refine wp_get (q := 83) (k := 14) d_Y_walk_80 rfl ok_Y (Nat.le_of_ble_eq_true rfl) fk_Y_31 hY1.1 rfl ?_
      refine wp_iconst (q := 84) (v := 1) d_Y_walk_83 rfl (by decide) ?_
      refine wp_ialoadN (j := 1) (q := 85) d_Y_walk_84 rfl h43 rfl (by decide) (by decide) ?_
      rw [e1]
      refine wp_if_eq (q := 88) (tgt := 364) d_Y_walk_85 (by decide) rfl (fun c85 => ?_) (fun c85 => ?_)
      · have z2 : na = 0 := pu_nI_inj (by omega) (by decide) (c85.trans nI_0.symm)
        refine wp_iconst (q := 365) (v := -1) d_Y_walk_364 rfl (by decide) ?_
        exact wp_ireturn rfl d_Y_walk_365 ⟨by rw [z, z2, pu_sw_0], fr⟩
      · have z2 : ¬ na = 0 := fun e => c85 (by rw [e]; exact nI_0)
        exact h88 (fun h => z2 h.1)
set_option maxHeartbeats 4000000 in
set_option maxRecDepth 100000 in
theorem y_walk_bad {n k : Nat} {P : Nat → Nat} {H : Nat → Int32} {O : Nat → Nat} {ik : Bool} {kn : Nat} {KP : Nat → Nat} {ic : Bool} {fz sm : Nat} {w : am_W} (hY : YI n k P H O ik kn KP ic fz sm w) (hW : YW n k P H O kn KP) {x y s : Int32} (hb : ¬ QU n x y s) : am_Wp none m_Y_walk 2 0 0 0 [(0, .ref 35), (1, .int x), (2, .int y), (3, .int s)] [] w (am_R (some (.int (-2))) w) := by
  obtain ⟨hn, hk, hP, hO, hkn, hKP, hpop⟩ := id hW
  refine wp_aload_n (q := 1) d_Y_walk_0 rfl rfl rfl ?_
  refine wp_iload_n (q := 2) d_Y_walk_1 rfl rfl rfl ?_
  refine wp_iload_n (q := 3) d_Y_walk_2 rfl rfl rfl ?_
  refine wp_iload_n (q := 4) d_Y_walk_3 rfl rfl rfl ?_
  refine wp_cV3r (q := 7) d_Y_walk_4 rfl bd_Y_isAsked lk_Y_109 im_Y_isAsked se_Y_isAsked rfl (Nat.le_of_ble_eq_true rfl) (Nat.le_of_ble_eq_true rfl) hY.1 (Nat.le_of_ble_eq_true rfl) (y_isAsked hY hn) ?_
  refine wp_if_ne (q := 10) (tgt := 13) d_Y_walk_7 (by decide) rfl (fun c7 => absurd (pu_q_f hb) c7) (fun _ => ?_)
  refine wp_bipush (q := 12) (v := -2) d_Y_walk_10 rfl (by decide) ?_
  exact wp_ireturn rfl d_Y_walk_12 ⟨rfl, rfl⟩
theorem pu_ych_ltn {g : Nat → Nat} {n : Nat} (h : ∀ p, ¬ p < n → g p = 0) (q : Nat) : pu_ych g 8 q < 2 ^ n := by
  apply Nat.lt_pow_two_of_testBit
  intro i hi
  cases e : (pu_ych g 8 q).testBit i with
  | false => rfl
  | true =>
    have := (pu_ych_bit.mp e).2
    rw [h i (by omega), Nat.zero_testBit] at this
    cases this
set_option maxHeartbeats 4000000 in
set_option maxRecDepth 100000 in
theorem y_walk {n k : Nat} {P : Nat → Nat} {H : Nat → Int32} {O : Nat → Nat} {ik : Bool} {kn : Nat} {KP : Nat → Nat} {ic : Bool} {fz sm : Nat} {w : am_W} (hY : YI n k P H O ik kn KP ic fz sm w) (hW : YW n k P H O kn KP) (hPn : ∀ i, P i < 2 ^ n) {i j t : Nat} (hi : i < n) (hj : j < n) (hij : i ≠ j) (ht : t < 2 ^ n) (hti : t.testBit i = false) (htj : t.testBit j = false) : am_Wp none m_Y_walk 2 0 0 0 [(0, .ref 35), (1, .int (nI i)), (2, .int (nI j)), (3, .int (nI t))] [] w (fun v w1 => v = some (.int (pu_sw (pu_yc n P H) (pu_ych (pu_yc n P H) 8) t (pu_cl (pu_yc n P H) 8 8 t) j 16 1 (pu_ych (pu_yc n P H) 8 i) ((pu_yc n P H) i) (pu_ych (pu_yc n P H) 8 i) ((pu_yc n P H) i))) ∧ YF DY w w1 ∧ YI n k P H O ik kn KP ic fz sm w1) := by
  obtain ⟨hn, hk, hP, hO, hkn, hKP, hpop⟩ := id hW
  refine wp_aload_n (q := 1) d_Y_walk_0 rfl rfl rfl ?_
  refine wp_iload_n (q := 2) d_Y_walk_1 rfl rfl rfl ?_
  refine wp_iload_n (q := 3) d_Y_walk_2 rfl rfl rfl ?_
  refine wp_iload_n (q := 4) d_Y_walk_3 rfl rfl rfl ?_
  refine wp_cV3r (q := 7) d_Y_walk_4 rfl bd_Y_isAsked lk_Y_109 im_Y_isAsked se_Y_isAsked rfl (Nat.le_of_ble_eq_true rfl) (Nat.le_of_ble_eq_true rfl) hY.1 (Nat.le_of_ble_eq_true rfl) (y_isAsked hY hn) ?_
  refine wp_if_ne (q := 10) (tgt := 13) d_Y_walk_7 (by decide) rfl (fun _ => ?_) (fun c7 => absurd c7 (by rw [pu_q_t ⟨i, j, t, hi, hj, hij, ht, rfl, rfl, rfl, hti, htj⟩]; decide))
  refine wp_aload_n (q := 14) d_Y_walk_13 rfl rfl rfl ?_
  refine wp_iconst (q := 15) (v := -1) d_Y_walk_14 rfl (by decide) ?_
  refine wp_cV1g (q := 18) (bc1 := 0) (bs1 := 0) d_Y_walk_15 rfl bd_Y_countArcs lk_Y_103 im_Y_countArcs se_Y_countArcs rfl (Nat.le_of_ble_eq_true rfl) (Nat.le_of_ble_eq_true rfl) hY.1 (Nat.le_of_ble_eq_true rfl) (y_countN hY hn (pu_yc_lt hP) (fun _ => rfl)) (fun v w1 hF => ?_)
  obtain ⟨rfl, f1, hT⟩ := hF
  have hY1 := hY.s f1 (by decide)
  refine wp_aload_n (q := 19) d_Y_walk_18 rfl rfl rfl ?_
  refine wp_aload_n (q := 20) d_Y_walk_19 rfl rfl rfl ?_
  refine wp_get (q := 23) (k := 11) d_Y_walk_20 rfl ok_Y (Nat.le_of_ble_eq_true rfl) fk_Y_22 hY1.1 rfl ?_
  refine wp_iload_n (q := 24) d_Y_walk_23 rfl rfl rfl ?_
  refine wp_cV2r (q := 27) d_Y_walk_24 rfl bd_Y_aboveOf lk_Y_88 im_Y_aboveOf se_Y_aboveOf rfl (Nat.le_of_ble_eq_true rfl) (Nat.le_of_ble_eq_true rfl) hY1.1 (Nat.le_of_ble_eq_true rfl) (y_above hT.1 (pu_yc_lt hP) (pu_lt8 hn ht)) ?_
  refine wp_istore (q := 29) d_Y_walk_27 rfl (Nat.le_of_ble_eq_true rfl) rfl ?_
  obtain ⟨f45, h45⟩ := hY1.2.2.2.2.2.2.2.2.2.2.1.i
  obtain ⟨f43, h43⟩ := hY1.2.2.2.2.2.2.2.2.1.i
  refine wp_aload_n (q := 30) d_Y_walk_29 rfl rfl rfl ?_
  refine wp_get (q := 33) (k := 16) d_Y_walk_30 rfl ok_Y (Nat.le_of_ble_eq_true rfl) fk_Y_37 hY1.1 rfl ?_
  refine wp_iconst (q := 34) (v := 0) d_Y_walk_33 rfl (by decide) ?_
  refine wp_iconst (q := 35) (v := 0) d_Y_walk_34 rfl (by decide) ?_
  refine wp_iastoreN (j := 0) (q := 36) d_Y_walk_35 rfl h45 rfl (by decide) (by decide) rfl ?_
  have fr2 : YF [40, 41, 43, 44, 45] w _ := (f1.up (by decide)).put (a := 45) (c := .inl (0, 2, .inl (upd f45 0 0))) (by decide) h45 (by rfl)
  have hY2 := hY.s fr2 (by decide)
  refine wp_aload_n (q := 37) d_Y_walk_36 rfl rfl rfl ?_
  refine wp_get (q := 40) (k := 16) d_Y_walk_37 rfl ok_Y (Nat.le_of_ble_eq_true rfl) fk_Y_37 hY2.1 rfl ?_
  refine wp_iconst (q := 41) (v := 1) d_Y_walk_40 rfl (by decide) ?_
  refine wp_iconst (q := 42) (v := 0) d_Y_walk_41 rfl (by decide) ?_
  refine wp_iastoreN (j := 1) (q := 43) d_Y_walk_42 rfl (am_at_eq h45) rfl (by decide) (by decide) rfl ?_
  have fr3 := fr2.put (a := 45) (c := .inl (0, 2, .inl (upd (upd f45 0 0) 1 0))) (by decide) (am_at_eq h45) (by rfl)
  have hY3 := hY.s fr3 (by decide)
  have hT3 := (hT.ne (j := 45) (c := .inl (0, 2, .inl (upd f45 0 0))) (by decide) (by decide)).ne (j := 45) (c := .inl (0, 2, .inl (upd (upd f45 0 0) 1 0))) (by decide) (by decide)
  have hm3 : L2 45 0 0 ((w1.set 45 (.inl (0, 2, .inl (upd f45 0 0)))).set 45 (.inl (0, 2, .inl (upd (upd f45 0 0) 1 0)))) := ⟨_, am_at_eq (am_at_eq h45), rfl, rfl⟩
  replace h43 : ((w1.set 45 (.inl (0, 2, .inl (upd f45 0 0)))).set 45 (.inl (0, 2, .inl (upd (upd f45 0 0) 1 0))))[43]? = some (.inl (0, 2, .inl f43)) := am_at_ne (by decide) (am_at_ne (by decide) h43)
  generalize (w1.set 45 (.inl (0, 2, .inl (upd f45 0 0)))).set 45 (.inl (0, 2, .inl (upd (upd f45 0 0) 1 0))) = w3 at fr3 hY3 hT3 hm3 h43 ⊢
  refine wp_aload_n (q := 44) d_Y_walk_43 rfl rfl rfl ?_
  refine wp_get (q := 47) (k := 14) d_Y_walk_44 rfl ok_Y (Nat.le_of_ble_eq_true rfl) fk_Y_31 hY3.1 rfl ?_
  refine wp_iconst (q := 48) (v := 0) d_Y_walk_47 rfl (by decide) ?_
  refine wp_aload_n (q := 49) d_Y_walk_48 rfl rfl rfl ?_
  refine wp_iload_n (q := 50) d_Y_walk_49 rfl rfl rfl ?_
  refine wp_iconst (q := 51) (v := 0) d_Y_walk_50 rfl (by decide) ?_
  refine wp_cV2r (q := 54) d_Y_walk_51 rfl bd_Y_children2 lk_Y_117 im_Y_children2 se_Y_children2 rfl (Nat.le_of_ble_eq_true rfl) (Nat.le_of_ble_eq_true rfl) hY3.1 (Nat.le_of_ble_eq_true rfl) (y_children2_0 hY3 hT3 (by omega)) ?_
  refine wp_iastoreN (j := 0) (q := 55) d_Y_walk_54 rfl h43 rfl (by decide) (by decide) rfl ?_
  have fr4 := fr3.put (a := 43) (c := .inl (0, 2, .inl (upd f43 0 (nI ((pu_yc n P H) i))))) (by decide) h43 (by rfl)
  have hY4 := hY.s fr4 (by decide)
  have hT4 := hT3.ne (j := 43) (c := .inl (0, 2, .inl (upd f43 0 (nI ((pu_yc n P H) i))))) (by decide) (by decide)
  refine wp_aload_n (q := 56) d_Y_walk_55 rfl rfl rfl ?_
  refine wp_get (q := 59) (k := 14) d_Y_walk_56 rfl ok_Y (Nat.le_of_ble_eq_true rfl) fk_Y_31 hY4.1 rfl ?_
  refine wp_iconst (q := 60) (v := 1) d_Y_walk_59 rfl (by decide) ?_
  refine wp_aload_n (q := 61) d_Y_walk_60 rfl rfl rfl ?_
  refine wp_iload_n (q := 62) d_Y_walk_61 rfl rfl rfl ?_
  refine wp_iconst (q := 63) (v := 1) d_Y_walk_62 rfl (by decide) ?_
  refine wp_cV2r (q := 66) d_Y_walk_63 rfl bd_Y_children2 lk_Y_117 im_Y_children2 se_Y_children2 rfl (Nat.le_of_ble_eq_true rfl) (Nat.le_of_ble_eq_true rfl) hY4.1 (Nat.le_of_ble_eq_true rfl) (y_children2_1 hY4 hT4 (by omega)) ?_
  refine wp_iastoreN (j := 1) (q := 67) d_Y_walk_66 rfl (am_at_eq h43) rfl (by decide) (by decide) rfl ?_
  refine wp_iconst (q := 68) (v := 1) d_Y_walk_67 rfl (by decide) ?_
  refine wp_istore (q := 70) d_Y_walk_68 rfl (Nat.le_of_ble_eq_true rfl) rfl ?_
  have hgon : ∀ q, pu_ych (pu_yc n P H) 8 q < 2 ^ n := pu_ych_ltn (fun p hp => by unfold pu_yc; rw [if_neg (fun h => absurd h.1 hp)])
  have hlow := y_walk_O hY hn (pu_yc_ltn hPn) hgon (i := i) (b := j) (s := t) (mm := (pu_cl (pu_yc n P H) 8 8 t)) hj ht (pu_cl_lt (pu_yc_lt hP) (pu_lt8 hn ht)) 16 1 (pu_ych (pu_yc n P H) 8 i) (pu_yc n P H i) 0 0 _ (fr4.put (a := 43) (c := .inl (0, 2, .inl (upd (upd f43 0 (nI (pu_yc n P H i))) 1 (nI (pu_ych (pu_yc n P H) 8 i))))) (by decide) (am_at_eq h43) (by rfl)) (hT4.ne (by decide) (by decide)) ⟨_, am_at_eq (am_at_eq h43), by simp [upd], by simp [upd]⟩ ((hm3.ne (by decide)).ne (by decide)) (hgon i) (pu_yc_ltn hPn i) (by decide) (by decide) ?_
  · rw [Nat.zero_or, Nat.zero_or] at hlow
    exact wp_deep (by decide) (wp_post (fun v w2 h => ⟨h.1, h.2.up (by decide), hY.s h.2 (by decide)⟩) hlow)
  · rw [Nat.zero_or, Nat.zero_or]
    by_cases z1 : pu_ych (pu_yc n P H) 8 i = 0
    · by_cases z2 : pu_yc n P H i = 0
      · exact Or.inl ⟨z1, z2⟩
      · obtain ⟨q, hq⟩ := Nat.exists_testBit_of_ne_zero z2
        have := pu_pop_pos hq 8 (pu_bit_lt (n := 8) (pu_yc_lt hP i) hq)
        exact Or.inr (by omega)
    · obtain ⟨q, hq⟩ := Nat.exists_testBit_of_ne_zero z1
      have := pu_pop_pos hq 8 (pu_bit_lt (n := 8) (pu_ych_lt (by decide) i) hq)
      exact Or.inr (by omega)
