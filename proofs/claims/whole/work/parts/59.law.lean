/-! THE LAW -/
theorem lg_cmp_self {x : Int64} : lg_cmp x x = 0 := by
  unfold lg_cmp
  simp
set_option maxHeartbeats 4000000 in
set_option maxRecDepth 100000 in
theorem l_clear {L : Nat} {xs : Nat → Int32} {w : am_W} {i : Nat} {F : Option Value → am_W → Prop} (v1 : vp_in (nI i + 1) L) (v2 : vp_in (nI i + 2) L) (v3 : vp_in (nI i + 3) L) (hI : INV w) (k : ∀ w2, INV w2 → am_Wp (some (L, xs)) m_L_law 28 0 0 766 [(0, .retAddr 0), (1, .ref 0), (2, .ref 35), (3, .int (nI i))] [] w2 F) : am_Wp (some (L, xs)) m_L_law 28 0 0 132 [(0, .retAddr 0), (1, .ref 0), (2, .ref 35), (3, .int (nI i))] [] w F := by
  obtain ⟨a, J, hA, hB⟩ := p_clear hI 
  obtain ⟨fs, hc0⟩ : ∃ fs, w[0]? = some (.inr (0, fs)) := by
    obtain ⟨n, k, P, C, kn, kk, KP, KC, ak, E, hd, hv, H, O, kn', KP', ic, fz, sm, hX, hY, hR⟩ := hI
    exact ⟨_, hX.1⟩
  refine wp_aload_n (q := 133) d_L_law_132 rfl rfl rfl ?_
  refine wp_cV0g (q := 136) (bc1 := 0) (bs1 := 0) d_L_law_133 rfl bd_X_clear lk_L_13 im_X_clear se_X_clear rfl (Nat.le_of_ble_eq_true rfl) (Nat.le_of_ble_eq_true rfl) hc0 (Nat.le_of_ble_eq_true rfl) (hA) (fun v w1 hF => ?_)
  obtain ⟨rfl, hJ⟩ := hF
  obtain ⟨⟨fs2, hc2⟩, hA2⟩ := hB w1 hJ
  refine wp_aload_n (q := 137) d_L_law_136 rfl rfl rfl ?_
  refine wp_cV0g (q := 140) (bc1 := 0) (bs1 := 0) d_L_law_137 rfl bd_Y_clear lk_L_17 im_Y_clear se_Y_clear rfl (Nat.le_of_ble_eq_true rfl) (Nat.le_of_ble_eq_true rfl) hc2 (Nat.le_of_ble_eq_true rfl) (hA2) (fun v w2 hF2 => ?_)
  obtain ⟨rfl, hI2⟩ := hF2
  refine wp_icmp_eq (q := 143) (tgt := 766) d_L_law_140 (by decide) rfl (fun _ => ?_) (fun c140 => absurd rfl c140)
  exact k w2 hI2
set_option maxHeartbeats 4000000 in
set_option maxRecDepth 100000 in
theorem l_place {L : Nat} {xs : Nat → Int32} {w : am_W} {i : Nat} {F : Option Value → am_W → Prop} (v1 : vp_in (nI i + 1) L) (v2 : vp_in (nI i + 2) L) (v3 : vp_in (nI i + 3) L) (hI : INV w) (k : ∀ w2, INV w2 → am_Wp (some (L, xs)) m_L_law 28 0 0 766 [(0, .retAddr 0), (1, .ref 0), (2, .ref 35), (3, .int (nI i))] [] w2 F) : am_Wp (some (L, xs)) m_L_law 28 0 0 145 [(0, .retAddr 0), (1, .ref 0), (2, .ref 35), (3, .int (nI i))] [] w F := by
  obtain ⟨a, J, hA, hB⟩ := p_place hI 
  obtain ⟨fs, hc0⟩ : ∃ fs, w[0]? = some (.inr (0, fs)) := by
    obtain ⟨n, k, P, C, kn, kk, KP, KC, ak, E, hd, hv, H, O, kn', KP', ic, fz, sm, hX, hY, hR⟩ := hI
    exact ⟨_, hX.1⟩
  refine wp_aload_n (q := 146) d_L_law_145 rfl rfl rfl ?_
  refine wp_cV0g (q := 149) (bc1 := 0) (bs1 := 0) d_L_law_146 rfl bd_X_place lk_L_18 im_X_place se_X_place rfl (Nat.le_of_ble_eq_true rfl) (Nat.le_of_ble_eq_true rfl) hc0 (Nat.le_of_ble_eq_true rfl) (hA) (fun v w1 hF => ?_)
  obtain ⟨rfl, hJ⟩ := hF
  obtain ⟨⟨fs2, hc2⟩, hA2⟩ := hB w1 hJ
  refine wp_aload_n (q := 150) d_L_law_149 rfl rfl rfl ?_
  refine wp_cV0g (q := 153) (bc1 := 0) (bs1 := 0) d_L_law_150 rfl bd_Y_place lk_L_21 im_Y_place se_Y_place rfl (Nat.le_of_ble_eq_true rfl) (Nat.le_of_ble_eq_true rfl) hc2 (Nat.le_of_ble_eq_true rfl) (hA2) (fun v w2 hF2 => ?_)
  obtain ⟨rfl, hI2⟩ := hF2
  refine wp_icmp_eq (q := 156) (tgt := 766) d_L_law_153 (by decide) rfl (fun _ => ?_) (fun c153 => absurd rfl c153)
  exact k w2 hI2
set_option maxHeartbeats 4000000 in
set_option maxRecDepth 100000 in
theorem l_arc {L : Nat} {xs : Nat → Int32} {w : am_W} {i : Nat} {F : Option Value → am_W → Prop} (v1 : vp_in (nI i + 1) L) (v2 : vp_in (nI i + 2) L) (v3 : vp_in (nI i + 3) L) (hI : INV w) (k : ∀ w2, INV w2 → am_Wp (some (L, xs)) m_L_law 28 0 0 766 [(0, .retAddr 0), (1, .ref 0), (2, .ref 35), (3, .int (nI i))] [] w2 F) : am_Wp (some (L, xs)) m_L_law 28 0 0 158 [(0, .retAddr 0), (1, .ref 0), (2, .ref 35), (3, .int (nI i))] [] w F := by
  obtain ⟨a, J, hA, hB⟩ := p_arc hI (x := xs (nI i + 1).toNatClampNeg) (y := xs (nI i + 2).toNatClampNeg)
  obtain ⟨fs, hc0⟩ : ∃ fs, w[0]? = some (.inr (0, fs)) := by
    obtain ⟨n, k, P, C, kn, kk, KP, KC, ak, E, hd, hv, H, O, kn', KP', ic, fz, sm, hX, hY, hR⟩ := hI
    exact ⟨_, hX.1⟩
  refine wp_aload_n (q := 159) d_L_law_158 rfl rfl rfl ?_
  refine wp_aload_nX (q := 160) d_L_law_159 rfl rfl rfl ?_
  refine wp_iload_n (q := 161) d_L_law_160 rfl rfl rfl ?_
  refine wp_iconst (q := 162) (v := 1) d_L_law_161 rfl (by decide) ?_
  refine wp_iadd (q := 163) d_L_law_162 rfl ?_
  refine wp_sload (q := 164) d_L_law_163 rfl rfl v1 ?_
  refine wp_aload_nX (q := 165) d_L_law_164 rfl rfl rfl ?_
  refine wp_iload_n (q := 166) d_L_law_165 rfl rfl rfl ?_
  refine wp_iconst (q := 167) (v := 2) d_L_law_166 rfl (by decide) ?_
  refine wp_iadd (q := 168) d_L_law_167 rfl ?_
  refine wp_sload (q := 169) d_L_law_168 rfl rfl v2 ?_
  refine wp_cV2g (q := 172) (bc1 := 0) (bs1 := 0) d_L_law_169 rfl bd_X_arc lk_L_22 im_X_arc se_X_arc rfl (Nat.le_of_ble_eq_true rfl) (Nat.le_of_ble_eq_true rfl) hc0 (Nat.le_of_ble_eq_true rfl) (hA) (fun v w1 hF => ?_)
  obtain ⟨rfl, hJ⟩ := hF
  obtain ⟨⟨fs2, hc2⟩, hA2⟩ := hB w1 hJ
  refine wp_aload_n (q := 173) d_L_law_172 rfl rfl rfl ?_
  refine wp_aload_nX (q := 174) d_L_law_173 rfl rfl rfl ?_
  refine wp_iload_n (q := 175) d_L_law_174 rfl rfl rfl ?_
  refine wp_iconst (q := 176) (v := 1) d_L_law_175 rfl (by decide) ?_
  refine wp_iadd (q := 177) d_L_law_176 rfl ?_
  refine wp_sload (q := 178) d_L_law_177 rfl rfl v1 ?_
  refine wp_aload_nX (q := 179) d_L_law_178 rfl rfl rfl ?_
  refine wp_iload_n (q := 180) d_L_law_179 rfl rfl rfl ?_
  refine wp_iconst (q := 181) (v := 2) d_L_law_180 rfl (by decide) ?_
  refine wp_iadd (q := 182) d_L_law_181 rfl ?_
  refine wp_sload (q := 183) d_L_law_182 rfl rfl v2 ?_
  refine wp_cV2g (q := 186) (bc1 := 0) (bs1 := 0) d_L_law_183 rfl bd_Y_arc lk_L_26 im_Y_arc se_Y_arc rfl (Nat.le_of_ble_eq_true rfl) (Nat.le_of_ble_eq_true rfl) hc2 (Nat.le_of_ble_eq_true rfl) (hA2) (fun v w2 hF2 => ?_)
  obtain ⟨rfl, hI2⟩ := hF2
  refine wp_icmp_eq (q := 189) (tgt := 766) d_L_law_186 (by decide) rfl (fun _ => ?_) (fun c186 => absurd rfl c186)
  exact k w2 hI2
set_option maxHeartbeats 4000000 in
set_option maxRecDepth 100000 in
theorem l_cut {L : Nat} {xs : Nat → Int32} {w : am_W} {i : Nat} {F : Option Value → am_W → Prop} (v1 : vp_in (nI i + 1) L) (v2 : vp_in (nI i + 2) L) (v3 : vp_in (nI i + 3) L) (hI : INV w) (k : ∀ w2, INV w2 → am_Wp (some (L, xs)) m_L_law 28 0 0 766 [(0, .retAddr 0), (1, .ref 0), (2, .ref 35), (3, .int (nI i))] [] w2 F) : am_Wp (some (L, xs)) m_L_law 28 0 0 191 [(0, .retAddr 0), (1, .ref 0), (2, .ref 35), (3, .int (nI i))] [] w F := by
  obtain ⟨a, J, hA, hB⟩ := p_cut hI (x := xs (nI i + 1).toNatClampNeg) (y := xs (nI i + 2).toNatClampNeg)
  obtain ⟨fs, hc0⟩ : ∃ fs, w[0]? = some (.inr (0, fs)) := by
    obtain ⟨n, k, P, C, kn, kk, KP, KC, ak, E, hd, hv, H, O, kn', KP', ic, fz, sm, hX, hY, hR⟩ := hI
    exact ⟨_, hX.1⟩
  refine wp_aload_n (q := 192) d_L_law_191 rfl rfl rfl ?_
  refine wp_aload_nX (q := 193) d_L_law_192 rfl rfl rfl ?_
  refine wp_iload_n (q := 194) d_L_law_193 rfl rfl rfl ?_
  refine wp_iconst (q := 195) (v := 1) d_L_law_194 rfl (by decide) ?_
  refine wp_iadd (q := 196) d_L_law_195 rfl ?_
  refine wp_sload (q := 197) d_L_law_196 rfl rfl v1 ?_
  refine wp_aload_nX (q := 198) d_L_law_197 rfl rfl rfl ?_
  refine wp_iload_n (q := 199) d_L_law_198 rfl rfl rfl ?_
  refine wp_iconst (q := 200) (v := 2) d_L_law_199 rfl (by decide) ?_
  refine wp_iadd (q := 201) d_L_law_200 rfl ?_
  refine wp_sload (q := 202) d_L_law_201 rfl rfl v2 ?_
  refine wp_cV2g (q := 205) (bc1 := 0) (bs1 := 0) d_L_law_202 rfl bd_X_cut lk_L_27 im_X_cut se_X_cut rfl (Nat.le_of_ble_eq_true rfl) (Nat.le_of_ble_eq_true rfl) hc0 (Nat.le_of_ble_eq_true rfl) (hA) (fun v w1 hF => ?_)
  obtain ⟨rfl, hJ⟩ := hF
  obtain ⟨⟨fs2, hc2⟩, hA2⟩ := hB w1 hJ
  refine wp_aload_n (q := 206) d_L_law_205 rfl rfl rfl ?_
  refine wp_aload_nX (q := 207) d_L_law_206 rfl rfl rfl ?_
  refine wp_iload_n (q := 208) d_L_law_207 rfl rfl rfl ?_
  refine wp_iconst (q := 209) (v := 1) d_L_law_208 rfl (by decide) ?_
  refine wp_iadd (q := 210) d_L_law_209 rfl ?_
  refine wp_sload (q := 211) d_L_law_210 rfl rfl v1 ?_
  refine wp_aload_nX (q := 212) d_L_law_211 rfl rfl rfl ?_
  refine wp_iload_n (q := 213) d_L_law_212 rfl rfl rfl ?_
  refine wp_iconst (q := 214) (v := 2) d_L_law_213 rfl (by decide) ?_
  refine wp_iadd (q := 215) d_L_law_214 rfl ?_
  refine wp_sload (q := 216) d_L_law_215 rfl rfl v2 ?_
  refine wp_cV2g (q := 219) (bc1 := 0) (bs1 := 0) d_L_law_216 rfl bd_Y_cut lk_L_30 im_Y_cut se_Y_cut rfl (Nat.le_of_ble_eq_true rfl) (Nat.le_of_ble_eq_true rfl) hc2 (Nat.le_of_ble_eq_true rfl) (hA2) (fun v w2 hF2 => ?_)
  obtain ⟨rfl, hI2⟩ := hF2
  refine wp_icmp_eq (q := 222) (tgt := 766) d_L_law_219 (by decide) rfl (fun _ => ?_) (fun c219 => absurd rfl c219)
  exact k w2 hI2
set_option maxHeartbeats 4000000 in
set_option maxRecDepth 100000 in
theorem l_odds {L : Nat} {xs : Nat → Int32} {w : am_W} {i : Nat} {F : Option Value → am_W → Prop} (v1 : vp_in (nI i + 1) L) (v2 : vp_in (nI i + 2) L) (v3 : vp_in (nI i + 3) L) (hI : INV w) (k : ∀ w2, INV w2 → am_Wp (some (L, xs)) m_L_law 28 0 0 766 [(0, .retAddr 0), (1, .ref 0), (2, .ref 35), (3, .int (nI i))] [] w2 F) : am_Wp (some (L, xs)) m_L_law 28 0 0 224 [(0, .retAddr 0), (1, .ref 0), (2, .ref 35), (3, .int (nI i))] [] w F := by
  obtain ⟨a, J, hA, hB⟩ := p_odds hI (x := xs (nI i + 1).toNatClampNeg) (y := xs (nI i + 2).toNatClampNeg) (z := xs (nI i + 3).toNatClampNeg)
  obtain ⟨fs, hc0⟩ : ∃ fs, w[0]? = some (.inr (0, fs)) := by
    obtain ⟨n, k, P, C, kn, kk, KP, KC, ak, E, hd, hv, H, O, kn', KP', ic, fz, sm, hX, hY, hR⟩ := hI
    exact ⟨_, hX.1⟩
  refine wp_aload_n (q := 225) d_L_law_224 rfl rfl rfl ?_
  refine wp_aload_nX (q := 226) d_L_law_225 rfl rfl rfl ?_
  refine wp_iload_n (q := 227) d_L_law_226 rfl rfl rfl ?_
  refine wp_iconst (q := 228) (v := 1) d_L_law_227 rfl (by decide) ?_
  refine wp_iadd (q := 229) d_L_law_228 rfl ?_
  refine wp_sload (q := 230) d_L_law_229 rfl rfl v1 ?_
  refine wp_aload_nX (q := 231) d_L_law_230 rfl rfl rfl ?_
  refine wp_iload_n (q := 232) d_L_law_231 rfl rfl rfl ?_
  refine wp_iconst (q := 233) (v := 2) d_L_law_232 rfl (by decide) ?_
  refine wp_iadd (q := 234) d_L_law_233 rfl ?_
  refine wp_sload (q := 235) d_L_law_234 rfl rfl v2 ?_
  refine wp_aload_nX (q := 236) d_L_law_235 rfl rfl rfl ?_
  refine wp_iload_n (q := 237) d_L_law_236 rfl rfl rfl ?_
  refine wp_iconst (q := 238) (v := 3) d_L_law_237 rfl (by decide) ?_
  refine wp_iadd (q := 239) d_L_law_238 rfl ?_
  refine wp_sload (q := 240) d_L_law_239 rfl rfl v3 ?_
  refine wp_cV3g (q := 243) (bc1 := 0) (bs1 := 0) d_L_law_240 rfl bd_X_odds lk_L_31 im_X_odds se_X_odds rfl (Nat.le_of_ble_eq_true rfl) (Nat.le_of_ble_eq_true rfl) hc0 (Nat.le_of_ble_eq_true rfl) (hA) (fun v w1 hF => ?_)
  obtain ⟨rfl, hJ⟩ := hF
  obtain ⟨⟨fs2, hc2⟩, hA2⟩ := hB w1 hJ
  refine wp_aload_n (q := 244) d_L_law_243 rfl rfl rfl ?_
  refine wp_aload_nX (q := 245) d_L_law_244 rfl rfl rfl ?_
  refine wp_iload_n (q := 246) d_L_law_245 rfl rfl rfl ?_
  refine wp_iconst (q := 247) (v := 1) d_L_law_246 rfl (by decide) ?_
  refine wp_iadd (q := 248) d_L_law_247 rfl ?_
  refine wp_sload (q := 249) d_L_law_248 rfl rfl v1 ?_
  refine wp_aload_nX (q := 250) d_L_law_249 rfl rfl rfl ?_
  refine wp_iload_n (q := 251) d_L_law_250 rfl rfl rfl ?_
  refine wp_iconst (q := 252) (v := 2) d_L_law_251 rfl (by decide) ?_
  refine wp_iadd (q := 253) d_L_law_252 rfl ?_
  refine wp_sload (q := 254) d_L_law_253 rfl rfl v2 ?_
  refine wp_aload_nX (q := 255) d_L_law_254 rfl rfl rfl ?_
  refine wp_iload_n (q := 256) d_L_law_255 rfl rfl rfl ?_
  refine wp_iconst (q := 257) (v := 3) d_L_law_256 rfl (by decide) ?_
  refine wp_iadd (q := 258) d_L_law_257 rfl ?_
  refine wp_sload (q := 259) d_L_law_258 rfl rfl v3 ?_
  refine wp_cV3g (q := 262) (bc1 := 0) (bs1 := 0) d_L_law_259 rfl bd_Y_odds lk_L_35 im_Y_odds se_Y_odds rfl (Nat.le_of_ble_eq_true rfl) (Nat.le_of_ble_eq_true rfl) hc2 (Nat.le_of_ble_eq_true rfl) (hA2) (fun v w2 hF2 => ?_)
  obtain ⟨rfl, hI2⟩ := hF2
  refine wp_icmp_eq (q := 265) (tgt := 766) d_L_law_262 (by decide) rfl (fun _ => ?_) (fun c262 => absurd rfl c262)
  exact k w2 hI2
set_option maxHeartbeats 4000000 in
set_option maxRecDepth 100000 in
theorem l_hold {L : Nat} {xs : Nat → Int32} {w : am_W} {i : Nat} {F : Option Value → am_W → Prop} (v1 : vp_in (nI i + 1) L) (v2 : vp_in (nI i + 2) L) (v3 : vp_in (nI i + 3) L) (hI : INV w) (k : ∀ w2, INV w2 → am_Wp (some (L, xs)) m_L_law 28 0 0 766 [(0, .retAddr 0), (1, .ref 0), (2, .ref 35), (3, .int (nI i))] [] w2 F) : am_Wp (some (L, xs)) m_L_law 28 0 0 267 [(0, .retAddr 0), (1, .ref 0), (2, .ref 35), (3, .int (nI i))] [] w F := by
  obtain ⟨a, J, hA, hB⟩ := p_hold hI (x := xs (nI i + 1).toNatClampNeg) (z := xs (nI i + 2).toNatClampNeg)
  obtain ⟨fs, hc0⟩ : ∃ fs, w[0]? = some (.inr (0, fs)) := by
    obtain ⟨n, k, P, C, kn, kk, KP, KC, ak, E, hd, hv, H, O, kn', KP', ic, fz, sm, hX, hY, hR⟩ := hI
    exact ⟨_, hX.1⟩
  refine wp_aload_n (q := 268) d_L_law_267 rfl rfl rfl ?_
  refine wp_aload_nX (q := 269) d_L_law_268 rfl rfl rfl ?_
  refine wp_iload_n (q := 270) d_L_law_269 rfl rfl rfl ?_
  refine wp_iconst (q := 271) (v := 1) d_L_law_270 rfl (by decide) ?_
  refine wp_iadd (q := 272) d_L_law_271 rfl ?_
  refine wp_sload (q := 273) d_L_law_272 rfl rfl v1 ?_
  refine wp_aload_nX (q := 274) d_L_law_273 rfl rfl rfl ?_
  refine wp_iload_n (q := 275) d_L_law_274 rfl rfl rfl ?_
  refine wp_iconst (q := 276) (v := 2) d_L_law_275 rfl (by decide) ?_
  refine wp_iadd (q := 277) d_L_law_276 rfl ?_
  refine wp_sload (q := 278) d_L_law_277 rfl rfl v2 ?_
  refine wp_cV2g (q := 281) (bc1 := 0) (bs1 := 0) d_L_law_278 rfl bd_X_hold lk_L_36 im_X_hold se_X_hold rfl (Nat.le_of_ble_eq_true rfl) (Nat.le_of_ble_eq_true rfl) hc0 (Nat.le_of_ble_eq_true rfl) (hA) (fun v w1 hF => ?_)
  obtain ⟨rfl, hJ⟩ := hF
  obtain ⟨⟨fs2, hc2⟩, hA2⟩ := hB w1 hJ
  refine wp_aload_n (q := 282) d_L_law_281 rfl rfl rfl ?_
  refine wp_aload_nX (q := 283) d_L_law_282 rfl rfl rfl ?_
  refine wp_iload_n (q := 284) d_L_law_283 rfl rfl rfl ?_
  refine wp_iconst (q := 285) (v := 1) d_L_law_284 rfl (by decide) ?_
  refine wp_iadd (q := 286) d_L_law_285 rfl ?_
  refine wp_sload (q := 287) d_L_law_286 rfl rfl v1 ?_
  refine wp_aload_nX (q := 288) d_L_law_287 rfl rfl rfl ?_
  refine wp_iload_n (q := 289) d_L_law_288 rfl rfl rfl ?_
  refine wp_iconst (q := 290) (v := 2) d_L_law_289 rfl (by decide) ?_
  refine wp_iadd (q := 291) d_L_law_290 rfl ?_
  refine wp_sload (q := 292) d_L_law_291 rfl rfl v2 ?_
  refine wp_cV2g (q := 295) (bc1 := 0) (bs1 := 0) d_L_law_292 rfl bd_Y_hold lk_L_39 im_Y_hold se_Y_hold rfl (Nat.le_of_ble_eq_true rfl) (Nat.le_of_ble_eq_true rfl) hc2 (Nat.le_of_ble_eq_true rfl) (hA2) (fun v w2 hF2 => ?_)
  obtain ⟨rfl, hI2⟩ := hF2
  refine wp_icmp_eq (q := 298) (tgt := 766) d_L_law_295 (by decide) rfl (fun _ => ?_) (fun c295 => absurd rfl c295)
  exact k w2 hI2
set_option maxHeartbeats 4000000 in
set_option maxRecDepth 100000 in
theorem l_told {L : Nat} {xs : Nat → Int32} {w : am_W} {i : Nat} {F : Option Value → am_W → Prop} (v1 : vp_in (nI i + 1) L) (v2 : vp_in (nI i + 2) L) (v3 : vp_in (nI i + 3) L) (hI : INV w) (k : ∀ w2, INV w2 → am_Wp (some (L, xs)) m_L_law 28 0 0 766 [(0, .retAddr 0), (1, .ref 0), (2, .ref 35), (3, .int (nI i))] [] w2 F) : am_Wp (some (L, xs)) m_L_law 28 0 0 300 [(0, .retAddr 0), (1, .ref 0), (2, .ref 35), (3, .int (nI i))] [] w F := by
  obtain ⟨a, J, hA, hB⟩ := p_told hI (x := xs (nI i + 1).toNatClampNeg) (y := xs (nI i + 2).toNatClampNeg)
  obtain ⟨fs, hc0⟩ : ∃ fs, w[0]? = some (.inr (0, fs)) := by
    obtain ⟨n, k, P, C, kn, kk, KP, KC, ak, E, hd, hv, H, O, kn', KP', ic, fz, sm, hX, hY, hR⟩ := hI
    exact ⟨_, hX.1⟩
  refine wp_aload_n (q := 301) d_L_law_300 rfl rfl rfl ?_
  refine wp_aload_nX (q := 302) d_L_law_301 rfl rfl rfl ?_
  refine wp_iload_n (q := 303) d_L_law_302 rfl rfl rfl ?_
  refine wp_iconst (q := 304) (v := 1) d_L_law_303 rfl (by decide) ?_
  refine wp_iadd (q := 305) d_L_law_304 rfl ?_
  refine wp_sload (q := 306) d_L_law_305 rfl rfl v1 ?_
  refine wp_aload_nX (q := 307) d_L_law_306 rfl rfl rfl ?_
  refine wp_iload_n (q := 308) d_L_law_307 rfl rfl rfl ?_
  refine wp_iconst (q := 309) (v := 2) d_L_law_308 rfl (by decide) ?_
  refine wp_iadd (q := 310) d_L_law_309 rfl ?_
  refine wp_sload (q := 311) d_L_law_310 rfl rfl v2 ?_
  refine wp_cV2g (q := 314) (bc1 := 0) (bs1 := 0) d_L_law_311 rfl bd_X_told lk_L_40 im_X_told se_X_told rfl (Nat.le_of_ble_eq_true rfl) (Nat.le_of_ble_eq_true rfl) hc0 (Nat.le_of_ble_eq_true rfl) (hA) (fun v w1 hF => ?_)
  obtain ⟨rfl, hJ⟩ := hF
  obtain ⟨⟨fs2, hc2⟩, hA2⟩ := hB w1 hJ
  refine wp_aload_n (q := 315) d_L_law_314 rfl rfl rfl ?_
  refine wp_aload_nX (q := 316) d_L_law_315 rfl rfl rfl ?_
  refine wp_iload_n (q := 317) d_L_law_316 rfl rfl rfl ?_
  refine wp_iconst (q := 318) (v := 1) d_L_law_317 rfl (by decide) ?_
  refine wp_iadd (q := 319) d_L_law_318 rfl ?_
  refine wp_sload (q := 320) d_L_law_319 rfl rfl v1 ?_
  refine wp_aload_nX (q := 321) d_L_law_320 rfl rfl rfl ?_
  refine wp_iload_n (q := 322) d_L_law_321 rfl rfl rfl ?_
  refine wp_iconst (q := 323) (v := 2) d_L_law_322 rfl (by decide) ?_
  refine wp_iadd (q := 324) d_L_law_323 rfl ?_
  refine wp_sload (q := 325) d_L_law_324 rfl rfl v2 ?_
  refine wp_cV2g (q := 328) (bc1 := 0) (bs1 := 0) d_L_law_325 rfl bd_Y_told lk_L_43 im_Y_told se_Y_told rfl (Nat.le_of_ble_eq_true rfl) (Nat.le_of_ble_eq_true rfl) hc2 (Nat.le_of_ble_eq_true rfl) (hA2) (fun v w2 hF2 => ?_)
  obtain ⟨rfl, hI2⟩ := hF2
  refine wp_icmp_eq (q := 331) (tgt := 766) d_L_law_328 (by decide) rfl (fun _ => ?_) (fun c328 => absurd rfl c328)
  exact k w2 hI2
set_option maxHeartbeats 4000000 in
set_option maxRecDepth 100000 in
theorem l_of {L : Nat} {xs : Nat → Int32} {w : am_W} {i : Nat} {F : Option Value → am_W → Prop} (v1 : vp_in (nI i + 1) L) (v2 : vp_in (nI i + 2) L) (v3 : vp_in (nI i + 3) L) (hI : INV w) (k : ∀ w2, INV w2 → am_Wp (some (L, xs)) m_L_law 28 0 0 766 [(0, .retAddr 0), (1, .ref 0), (2, .ref 35), (3, .int (nI i))] [] w2 F) : am_Wp (some (L, xs)) m_L_law 28 0 0 333 [(0, .retAddr 0), (1, .ref 0), (2, .ref 35), (3, .int (nI i))] [] w F := by
  obtain ⟨a, J, hA, hB⟩ := p_of hI (x := xs (nI i + 1).toNatClampNeg) (y := xs (nI i + 2).toNatClampNeg)
  obtain ⟨fs, hc0⟩ : ∃ fs, w[0]? = some (.inr (0, fs)) := by
    obtain ⟨n, k, P, C, kn, kk, KP, KC, ak, E, hd, hv, H, O, kn', KP', ic, fz, sm, hX, hY, hR⟩ := hI
    exact ⟨_, hX.1⟩
  refine wp_aload_n (q := 334) d_L_law_333 rfl rfl rfl ?_
  refine wp_aload_nX (q := 335) d_L_law_334 rfl rfl rfl ?_
  refine wp_iload_n (q := 336) d_L_law_335 rfl rfl rfl ?_
  refine wp_iconst (q := 337) (v := 1) d_L_law_336 rfl (by decide) ?_
  refine wp_iadd (q := 338) d_L_law_337 rfl ?_
  refine wp_sload (q := 339) d_L_law_338 rfl rfl v1 ?_
  refine wp_aload_nX (q := 340) d_L_law_339 rfl rfl rfl ?_
  refine wp_iload_n (q := 341) d_L_law_340 rfl rfl rfl ?_
  refine wp_iconst (q := 342) (v := 2) d_L_law_341 rfl (by decide) ?_
  refine wp_iadd (q := 343) d_L_law_342 rfl ?_
  refine wp_sload (q := 344) d_L_law_343 rfl rfl v2 ?_
  refine wp_cV2g (q := 347) (bc1 := 0) (bs1 := 0) d_L_law_344 rfl bd_X_of lk_L_44 im_X_of se_X_of rfl (Nat.le_of_ble_eq_true rfl) (Nat.le_of_ble_eq_true rfl) hc0 (Nat.le_of_ble_eq_true rfl) (hA) (fun v w1 hF => ?_)
  obtain ⟨rfl, hJ⟩ := hF
  obtain ⟨⟨fs2, hc2⟩, hA2⟩ := hB w1 hJ
  refine wp_aload_n (q := 348) d_L_law_347 rfl rfl rfl ?_
  refine wp_aload_nX (q := 349) d_L_law_348 rfl rfl rfl ?_
  refine wp_iload_n (q := 350) d_L_law_349 rfl rfl rfl ?_
  refine wp_iconst (q := 351) (v := 1) d_L_law_350 rfl (by decide) ?_
  refine wp_iadd (q := 352) d_L_law_351 rfl ?_
  refine wp_sload (q := 353) d_L_law_352 rfl rfl v1 ?_
  refine wp_aload_nX (q := 354) d_L_law_353 rfl rfl rfl ?_
  refine wp_iload_n (q := 355) d_L_law_354 rfl rfl rfl ?_
  refine wp_iconst (q := 356) (v := 2) d_L_law_355 rfl (by decide) ?_
  refine wp_iadd (q := 357) d_L_law_356 rfl ?_
  refine wp_sload (q := 358) d_L_law_357 rfl rfl v2 ?_
  refine wp_cV2g (q := 361) (bc1 := 0) (bs1 := 0) d_L_law_358 rfl bd_Y_of lk_L_47 im_Y_of se_Y_of rfl (Nat.le_of_ble_eq_true rfl) (Nat.le_of_ble_eq_true rfl) hc2 (Nat.le_of_ble_eq_true rfl) (hA2) (fun v w2 hF2 => ?_)
  obtain ⟨rfl, hI2⟩ := hF2
  refine wp_icmp_eq (q := 364) (tgt := 766) d_L_law_361 (by decide) rfl (fun _ => ?_) (fun c361 => absurd rfl c361)
  exact k w2 hI2
set_option maxHeartbeats 4000000 in
set_option maxRecDepth 100000 in
theorem l_separated {L : Nat} {xs : Nat → Int32} {w : am_W} {i : Nat} {F : Option Value → am_W → Prop} (v1 : vp_in (nI i + 1) L) (v2 : vp_in (nI i + 2) L) (v3 : vp_in (nI i + 3) L) (hI : INV w) (k : ∀ w2, INV w2 → am_Wp (some (L, xs)) m_L_law 28 0 0 766 [(0, .retAddr 0), (1, .ref 0), (2, .ref 35), (3, .int (nI i))] [] w2 F) : am_Wp (some (L, xs)) m_L_law 28 0 0 366 [(0, .retAddr 0), (1, .ref 0), (2, .ref 35), (3, .int (nI i))] [] w F := by
  obtain ⟨a, J, hA, hB⟩ := p_separated hI (x := xs (nI i + 1).toNatClampNeg) (y := xs (nI i + 2).toNatClampNeg) (z := xs (nI i + 3).toNatClampNeg)
  obtain ⟨fs, hc0⟩ : ∃ fs, w[0]? = some (.inr (0, fs)) := by
    obtain ⟨n, k, P, C, kn, kk, KP, KC, ak, E, hd, hv, H, O, kn', KP', ic, fz, sm, hX, hY, hR⟩ := hI
    exact ⟨_, hX.1⟩
  refine wp_aload_n (q := 367) d_L_law_366 rfl rfl rfl ?_
  refine wp_aload_nX (q := 368) d_L_law_367 rfl rfl rfl ?_
  refine wp_iload_n (q := 369) d_L_law_368 rfl rfl rfl ?_
  refine wp_iconst (q := 370) (v := 1) d_L_law_369 rfl (by decide) ?_
  refine wp_iadd (q := 371) d_L_law_370 rfl ?_
  refine wp_sload (q := 372) d_L_law_371 rfl rfl v1 ?_
  refine wp_aload_nX (q := 373) d_L_law_372 rfl rfl rfl ?_
  refine wp_iload_n (q := 374) d_L_law_373 rfl rfl rfl ?_
  refine wp_iconst (q := 375) (v := 2) d_L_law_374 rfl (by decide) ?_
  refine wp_iadd (q := 376) d_L_law_375 rfl ?_
  refine wp_sload (q := 377) d_L_law_376 rfl rfl v2 ?_
  refine wp_aload_nX (q := 378) d_L_law_377 rfl rfl rfl ?_
  refine wp_iload_n (q := 379) d_L_law_378 rfl rfl rfl ?_
  refine wp_iconst (q := 380) (v := 3) d_L_law_379 rfl (by decide) ?_
  refine wp_iadd (q := 381) d_L_law_380 rfl ?_
  refine wp_sload (q := 382) d_L_law_381 rfl rfl v3 ?_
  refine wp_cV3g (q := 385) (bc1 := 0) (bs1 := 0) d_L_law_382 rfl bd_X_separated lk_L_48 im_X_separated se_X_separated rfl (Nat.le_of_ble_eq_true rfl) (Nat.le_of_ble_eq_true rfl) hc0 (Nat.le_of_ble_eq_true rfl) (hA) (fun v w1 hF => ?_)
  obtain ⟨rfl, hJ⟩ := hF
  obtain ⟨⟨fs2, hc2⟩, hA2⟩ := hB w1 hJ
  refine wp_aload_n (q := 386) d_L_law_385 rfl rfl rfl ?_
  refine wp_aload_nX (q := 387) d_L_law_386 rfl rfl rfl ?_
  refine wp_iload_n (q := 388) d_L_law_387 rfl rfl rfl ?_
  refine wp_iconst (q := 389) (v := 1) d_L_law_388 rfl (by decide) ?_
  refine wp_iadd (q := 390) d_L_law_389 rfl ?_
  refine wp_sload (q := 391) d_L_law_390 rfl rfl v1 ?_
  refine wp_aload_nX (q := 392) d_L_law_391 rfl rfl rfl ?_
  refine wp_iload_n (q := 393) d_L_law_392 rfl rfl rfl ?_
  refine wp_iconst (q := 394) (v := 2) d_L_law_393 rfl (by decide) ?_
  refine wp_iadd (q := 395) d_L_law_394 rfl ?_
  refine wp_sload (q := 396) d_L_law_395 rfl rfl v2 ?_
  refine wp_aload_nX (q := 397) d_L_law_396 rfl rfl rfl ?_
  refine wp_iload_n (q := 398) d_L_law_397 rfl rfl rfl ?_
  refine wp_iconst (q := 399) (v := 3) d_L_law_398 rfl (by decide) ?_
  refine wp_iadd (q := 400) d_L_law_399 rfl ?_
  refine wp_sload (q := 401) d_L_law_400 rfl rfl v3 ?_
  refine wp_cV3g (q := 404) (bc1 := 0) (bs1 := 0) d_L_law_401 rfl bd_Y_separated lk_L_51 im_Y_separated se_Y_separated rfl (Nat.le_of_ble_eq_true rfl) (Nat.le_of_ble_eq_true rfl) hc2 (Nat.le_of_ble_eq_true rfl) (hA2) (fun v w2 hF2 => ?_)
  obtain ⟨rfl, hI2⟩ := hF2
  refine wp_icmp_eq (q := 407) (tgt := 766) d_L_law_404 (by decide) rfl (fun _ => ?_) (fun c404 => absurd rfl c404)
  exact k w2 hI2
set_option maxHeartbeats 4000000 in
set_option maxRecDepth 100000 in
theorem l_walk {L : Nat} {xs : Nat → Int32} {w : am_W} {i : Nat} {F : Option Value → am_W → Prop} (v1 : vp_in (nI i + 1) L) (v2 : vp_in (nI i + 2) L) (v3 : vp_in (nI i + 3) L) (hI : INV w) (k : ∀ w2, INV w2 → am_Wp (some (L, xs)) m_L_law 28 0 0 766 [(0, .retAddr 0), (1, .ref 0), (2, .ref 35), (3, .int (nI i))] [] w2 F) : am_Wp (some (L, xs)) m_L_law 28 0 0 409 [(0, .retAddr 0), (1, .ref 0), (2, .ref 35), (3, .int (nI i))] [] w F := by
  obtain ⟨a, J, hA, hB⟩ := p_walk hI (x := xs (nI i + 1).toNatClampNeg) (y := xs (nI i + 2).toNatClampNeg) (z := xs (nI i + 3).toNatClampNeg)
  obtain ⟨fs, hc0⟩ : ∃ fs, w[0]? = some (.inr (0, fs)) := by
    obtain ⟨n, k, P, C, kn, kk, KP, KC, ak, E, hd, hv, H, O, kn', KP', ic, fz, sm, hX, hY, hR⟩ := hI
    exact ⟨_, hX.1⟩
  refine wp_aload_n (q := 410) d_L_law_409 rfl rfl rfl ?_
  refine wp_aload_nX (q := 411) d_L_law_410 rfl rfl rfl ?_
  refine wp_iload_n (q := 412) d_L_law_411 rfl rfl rfl ?_
  refine wp_iconst (q := 413) (v := 1) d_L_law_412 rfl (by decide) ?_
  refine wp_iadd (q := 414) d_L_law_413 rfl ?_
  refine wp_sload (q := 415) d_L_law_414 rfl rfl v1 ?_
  refine wp_aload_nX (q := 416) d_L_law_415 rfl rfl rfl ?_
  refine wp_iload_n (q := 417) d_L_law_416 rfl rfl rfl ?_
  refine wp_iconst (q := 418) (v := 2) d_L_law_417 rfl (by decide) ?_
  refine wp_iadd (q := 419) d_L_law_418 rfl ?_
  refine wp_sload (q := 420) d_L_law_419 rfl rfl v2 ?_
  refine wp_aload_nX (q := 421) d_L_law_420 rfl rfl rfl ?_
  refine wp_iload_n (q := 422) d_L_law_421 rfl rfl rfl ?_
  refine wp_iconst (q := 423) (v := 3) d_L_law_422 rfl (by decide) ?_
  refine wp_iadd (q := 424) d_L_law_423 rfl ?_
  refine wp_sload (q := 425) d_L_law_424 rfl rfl v3 ?_
  refine wp_cV3g (q := 428) (bc1 := 0) (bs1 := 0) d_L_law_425 rfl bd_X_walk lk_L_52 im_X_walk se_X_walk rfl (Nat.le_of_ble_eq_true rfl) (Nat.le_of_ble_eq_true rfl) hc0 (Nat.le_of_ble_eq_true rfl) (hA) (fun v w1 hF => ?_)
  obtain ⟨rfl, hJ⟩ := hF
  obtain ⟨⟨fs2, hc2⟩, hA2⟩ := hB w1 hJ
  refine wp_aload_n (q := 429) d_L_law_428 rfl rfl rfl ?_
  refine wp_aload_nX (q := 430) d_L_law_429 rfl rfl rfl ?_
  refine wp_iload_n (q := 431) d_L_law_430 rfl rfl rfl ?_
  refine wp_iconst (q := 432) (v := 1) d_L_law_431 rfl (by decide) ?_
  refine wp_iadd (q := 433) d_L_law_432 rfl ?_
  refine wp_sload (q := 434) d_L_law_433 rfl rfl v1 ?_
  refine wp_aload_nX (q := 435) d_L_law_434 rfl rfl rfl ?_
  refine wp_iload_n (q := 436) d_L_law_435 rfl rfl rfl ?_
  refine wp_iconst (q := 437) (v := 2) d_L_law_436 rfl (by decide) ?_
  refine wp_iadd (q := 438) d_L_law_437 rfl ?_
  refine wp_sload (q := 439) d_L_law_438 rfl rfl v2 ?_
  refine wp_aload_nX (q := 440) d_L_law_439 rfl rfl rfl ?_
  refine wp_iload_n (q := 441) d_L_law_440 rfl rfl rfl ?_
  refine wp_iconst (q := 442) (v := 3) d_L_law_441 rfl (by decide) ?_
  refine wp_iadd (q := 443) d_L_law_442 rfl ?_
  refine wp_sload (q := 444) d_L_law_443 rfl rfl v3 ?_
  refine wp_cV3g (q := 447) (bc1 := 0) (bs1 := 0) d_L_law_444 rfl bd_Y_walk lk_L_55 im_Y_walk se_Y_walk rfl (Nat.le_of_ble_eq_true rfl) (Nat.le_of_ble_eq_true rfl) hc2 (Nat.le_of_ble_eq_true rfl) (hA2) (fun v w2 hF2 => ?_)
  obtain ⟨rfl, hI2⟩ := hF2
  refine wp_icmp_eq (q := 450) (tgt := 766) d_L_law_447 (by decide) rfl (fun _ => ?_) (fun c447 => absurd rfl c447)
  exact k w2 hI2
set_option maxHeartbeats 4000000 in
set_option maxRecDepth 100000 in
theorem l_weight {L : Nat} {xs : Nat → Int32} {w : am_W} {i : Nat} {F : Option Value → am_W → Prop} (v1 : vp_in (nI i + 1) L) (v2 : vp_in (nI i + 2) L) (v3 : vp_in (nI i + 3) L) (hI : INV w) (k : ∀ w2, INV w2 → am_Wp (some (L, xs)) m_L_law 28 0 0 766 [(0, .retAddr 0), (1, .ref 0), (2, .ref 35), (3, .int (nI i))] [] w2 F) : am_Wp (some (L, xs)) m_L_law 28 0 0 452 [(0, .retAddr 0), (1, .ref 0), (2, .ref 35), (3, .int (nI i))] [] w F := by
  obtain ⟨a, J, hA, hB⟩ := p_weight hI (x := xs (nI i + 1).toNatClampNeg) (y := xs (nI i + 2).toNatClampNeg)
  obtain ⟨fs, hc0⟩ : ∃ fs, w[0]? = some (.inr (0, fs)) := by
    obtain ⟨n, k, P, C, kn, kk, KP, KC, ak, E, hd, hv, H, O, kn', KP', ic, fz, sm, hX, hY, hR⟩ := hI
    exact ⟨_, hX.1⟩
  refine wp_aload_n (q := 453) d_L_law_452 rfl rfl rfl ?_
  refine wp_aload_nX (q := 454) d_L_law_453 rfl rfl rfl ?_
  refine wp_iload_n (q := 455) d_L_law_454 rfl rfl rfl ?_
  refine wp_iconst (q := 456) (v := 1) d_L_law_455 rfl (by decide) ?_
  refine wp_iadd (q := 457) d_L_law_456 rfl ?_
  refine wp_sload (q := 458) d_L_law_457 rfl rfl v1 ?_
  refine wp_aload_nX (q := 459) d_L_law_458 rfl rfl rfl ?_
  refine wp_iload_n (q := 460) d_L_law_459 rfl rfl rfl ?_
  refine wp_iconst (q := 461) (v := 2) d_L_law_460 rfl (by decide) ?_
  refine wp_iadd (q := 462) d_L_law_461 rfl ?_
  refine wp_sload (q := 463) d_L_law_462 rfl rfl v2 ?_
  refine wp_cV2g (q := 466) (bc1 := 0) (bs1 := 0) d_L_law_463 rfl bd_X_weight lk_L_56 im_X_weight se_X_weight rfl (Nat.le_of_ble_eq_true rfl) (Nat.le_of_ble_eq_true rfl) hc0 (Nat.le_of_ble_eq_true rfl) (hA) (fun v w1 hF => ?_)
  obtain ⟨rfl, hJ⟩ := hF
  obtain ⟨⟨fs2, hc2⟩, hA2⟩ := hB w1 hJ
  refine wp_aload_n (q := 467) d_L_law_466 rfl rfl rfl ?_
  refine wp_aload_nX (q := 468) d_L_law_467 rfl rfl rfl ?_
  refine wp_iload_n (q := 469) d_L_law_468 rfl rfl rfl ?_
  refine wp_iconst (q := 470) (v := 1) d_L_law_469 rfl (by decide) ?_
  refine wp_iadd (q := 471) d_L_law_470 rfl ?_
  refine wp_sload (q := 472) d_L_law_471 rfl rfl v1 ?_
  refine wp_aload_nX (q := 473) d_L_law_472 rfl rfl rfl ?_
  refine wp_iload_n (q := 474) d_L_law_473 rfl rfl rfl ?_
  refine wp_iconst (q := 475) (v := 2) d_L_law_474 rfl (by decide) ?_
  refine wp_iadd (q := 476) d_L_law_475 rfl ?_
  refine wp_sload (q := 477) d_L_law_476 rfl rfl v2 ?_
  refine wp_cV2g (q := 480) (bc1 := 0) (bs1 := 0) d_L_law_477 rfl bd_Y_weight lk_L_60 im_Y_weight se_Y_weight rfl (Nat.le_of_ble_eq_true rfl) (Nat.le_of_ble_eq_true rfl) hc2 (Nat.le_of_ble_eq_true rfl) (hA2) (fun v w2 hF2 => ?_)
  obtain ⟨rfl, hI2⟩ := hF2
  refine wp_lcmp (q := 481) d_L_law_480 rfl ?_
  refine wp_if_eq (q := 484) (tgt := 766) d_L_law_481 (by decide) rfl (fun _ => ?_) (fun c481 => absurd (lg_cmp_self) c481)
  exact k w2 hI2
set_option maxHeartbeats 4000000 in
set_option maxRecDepth 100000 in
theorem l_independent {L : Nat} {xs : Nat → Int32} {w : am_W} {i : Nat} {F : Option Value → am_W → Prop} (v1 : vp_in (nI i + 1) L) (v2 : vp_in (nI i + 2) L) (v3 : vp_in (nI i + 3) L) (hI : INV w) (k : ∀ w2, INV w2 → am_Wp (some (L, xs)) m_L_law 28 0 0 766 [(0, .retAddr 0), (1, .ref 0), (2, .ref 35), (3, .int (nI i))] [] w2 F) : am_Wp (some (L, xs)) m_L_law 28 0 0 486 [(0, .retAddr 0), (1, .ref 0), (2, .ref 35), (3, .int (nI i))] [] w F := by
  obtain ⟨a, J, hA, hB⟩ := p_independent hI (x := xs (nI i + 1).toNatClampNeg) (y := xs (nI i + 2).toNatClampNeg) (z := xs (nI i + 3).toNatClampNeg)
  obtain ⟨fs, hc0⟩ : ∃ fs, w[0]? = some (.inr (0, fs)) := by
    obtain ⟨n, k, P, C, kn, kk, KP, KC, ak, E, hd, hv, H, O, kn', KP', ic, fz, sm, hX, hY, hR⟩ := hI
    exact ⟨_, hX.1⟩
  refine wp_aload_n (q := 487) d_L_law_486 rfl rfl rfl ?_
  refine wp_aload_nX (q := 488) d_L_law_487 rfl rfl rfl ?_
  refine wp_iload_n (q := 489) d_L_law_488 rfl rfl rfl ?_
  refine wp_iconst (q := 490) (v := 1) d_L_law_489 rfl (by decide) ?_
  refine wp_iadd (q := 491) d_L_law_490 rfl ?_
  refine wp_sload (q := 492) d_L_law_491 rfl rfl v1 ?_
  refine wp_aload_nX (q := 493) d_L_law_492 rfl rfl rfl ?_
  refine wp_iload_n (q := 494) d_L_law_493 rfl rfl rfl ?_
  refine wp_iconst (q := 495) (v := 2) d_L_law_494 rfl (by decide) ?_
  refine wp_iadd (q := 496) d_L_law_495 rfl ?_
  refine wp_sload (q := 497) d_L_law_496 rfl rfl v2 ?_
  refine wp_aload_nX (q := 498) d_L_law_497 rfl rfl rfl ?_
  refine wp_iload_n (q := 499) d_L_law_498 rfl rfl rfl ?_
  refine wp_iconst (q := 500) (v := 3) d_L_law_499 rfl (by decide) ?_
  refine wp_iadd (q := 501) d_L_law_500 rfl ?_
  refine wp_sload (q := 502) d_L_law_501 rfl rfl v3 ?_
  refine wp_cV3g (q := 505) (bc1 := 0) (bs1 := 0) d_L_law_502 rfl bd_X_independent lk_L_61 im_X_independent se_X_independent rfl (Nat.le_of_ble_eq_true rfl) (Nat.le_of_ble_eq_true rfl) hc0 (Nat.le_of_ble_eq_true rfl) (hA) (fun v w1 hF => ?_)
  obtain ⟨rfl, hJ⟩ := hF
  obtain ⟨⟨fs2, hc2⟩, hA2⟩ := hB w1 hJ
  refine wp_aload_n (q := 506) d_L_law_505 rfl rfl rfl ?_
  refine wp_aload_nX (q := 507) d_L_law_506 rfl rfl rfl ?_
  refine wp_iload_n (q := 508) d_L_law_507 rfl rfl rfl ?_
  refine wp_iconst (q := 509) (v := 1) d_L_law_508 rfl (by decide) ?_
  refine wp_iadd (q := 510) d_L_law_509 rfl ?_
  refine wp_sload (q := 511) d_L_law_510 rfl rfl v1 ?_
  refine wp_aload_nX (q := 512) d_L_law_511 rfl rfl rfl ?_
  refine wp_iload_n (q := 513) d_L_law_512 rfl rfl rfl ?_
  refine wp_iconst (q := 514) (v := 2) d_L_law_513 rfl (by decide) ?_
  refine wp_iadd (q := 515) d_L_law_514 rfl ?_
  refine wp_sload (q := 516) d_L_law_515 rfl rfl v2 ?_
  refine wp_aload_nX (q := 517) d_L_law_516 rfl rfl rfl ?_
  refine wp_iload_n (q := 518) d_L_law_517 rfl rfl rfl ?_
  refine wp_iconst (q := 519) (v := 3) d_L_law_518 rfl (by decide) ?_
  refine wp_iadd (q := 520) d_L_law_519 rfl ?_
  refine wp_sload (q := 521) d_L_law_520 rfl rfl v3 ?_
  refine wp_cV3g (q := 524) (bc1 := 0) (bs1 := 0) d_L_law_521 rfl bd_Y_independent lk_L_64 im_Y_independent se_Y_independent rfl (Nat.le_of_ble_eq_true rfl) (Nat.le_of_ble_eq_true rfl) hc2 (Nat.le_of_ble_eq_true rfl) (hA2) (fun v w2 hF2 => ?_)
  obtain ⟨rfl, hI2⟩ := hF2
  refine wp_icmp_eq (q := 527) (tgt := 766) d_L_law_524 (by decide) rfl (fun _ => ?_) (fun c524 => absurd rfl c524)
  exact k w2 hI2
set_option maxHeartbeats 4000000 in
set_option maxRecDepth 100000 in
theorem l_differ {L : Nat} {xs : Nat → Int32} {w : am_W} {i : Nat} {F : Option Value → am_W → Prop} (v1 : vp_in (nI i + 1) L) (v2 : vp_in (nI i + 2) L) (v3 : vp_in (nI i + 3) L) (hI : INV w) (k : ∀ w2, INV w2 → am_Wp (some (L, xs)) m_L_law 28 0 0 766 [(0, .retAddr 0), (1, .ref 0), (2, .ref 35), (3, .int (nI i))] [] w2 F) : am_Wp (some (L, xs)) m_L_law 28 0 0 529 [(0, .retAddr 0), (1, .ref 0), (2, .ref 35), (3, .int (nI i))] [] w F := by
  obtain ⟨a, J, hA, hB⟩ := p_differ hI (x := xs (nI i + 1).toNatClampNeg) (y := xs (nI i + 2).toNatClampNeg) (z := xs (nI i + 3).toNatClampNeg)
  obtain ⟨fs, hc0⟩ : ∃ fs, w[0]? = some (.inr (0, fs)) := by
    obtain ⟨n, k, P, C, kn, kk, KP, KC, ak, E, hd, hv, H, O, kn', KP', ic, fz, sm, hX, hY, hR⟩ := hI
    exact ⟨_, hX.1⟩
  refine wp_aload_n (q := 530) d_L_law_529 rfl rfl rfl ?_
  refine wp_aload_nX (q := 531) d_L_law_530 rfl rfl rfl ?_
  refine wp_iload_n (q := 532) d_L_law_531 rfl rfl rfl ?_
  refine wp_iconst (q := 533) (v := 1) d_L_law_532 rfl (by decide) ?_
  refine wp_iadd (q := 534) d_L_law_533 rfl ?_
  refine wp_sload (q := 535) d_L_law_534 rfl rfl v1 ?_
  refine wp_aload_nX (q := 536) d_L_law_535 rfl rfl rfl ?_
  refine wp_iload_n (q := 537) d_L_law_536 rfl rfl rfl ?_
  refine wp_iconst (q := 538) (v := 2) d_L_law_537 rfl (by decide) ?_
  refine wp_iadd (q := 539) d_L_law_538 rfl ?_
  refine wp_sload (q := 540) d_L_law_539 rfl rfl v2 ?_
  refine wp_aload_nX (q := 541) d_L_law_540 rfl rfl rfl ?_
  refine wp_iload_n (q := 542) d_L_law_541 rfl rfl rfl ?_
  refine wp_iconst (q := 543) (v := 3) d_L_law_542 rfl (by decide) ?_
  refine wp_iadd (q := 544) d_L_law_543 rfl ?_
  refine wp_sload (q := 545) d_L_law_544 rfl rfl v3 ?_
  refine wp_cV3g (q := 548) (bc1 := 0) (bs1 := 0) d_L_law_545 rfl bd_X_differ lk_L_65 im_X_differ se_X_differ rfl (Nat.le_of_ble_eq_true rfl) (Nat.le_of_ble_eq_true rfl) hc0 (Nat.le_of_ble_eq_true rfl) (hA) (fun v w1 hF => ?_)
  obtain ⟨rfl, hJ⟩ := hF
  obtain ⟨⟨fs2, hc2⟩, hA2⟩ := hB w1 hJ
  refine wp_aload_n (q := 549) d_L_law_548 rfl rfl rfl ?_
  refine wp_aload_nX (q := 550) d_L_law_549 rfl rfl rfl ?_
  refine wp_iload_n (q := 551) d_L_law_550 rfl rfl rfl ?_
  refine wp_iconst (q := 552) (v := 1) d_L_law_551 rfl (by decide) ?_
  refine wp_iadd (q := 553) d_L_law_552 rfl ?_
  refine wp_sload (q := 554) d_L_law_553 rfl rfl v1 ?_
  refine wp_aload_nX (q := 555) d_L_law_554 rfl rfl rfl ?_
  refine wp_iload_n (q := 556) d_L_law_555 rfl rfl rfl ?_
  refine wp_iconst (q := 557) (v := 2) d_L_law_556 rfl (by decide) ?_
  refine wp_iadd (q := 558) d_L_law_557 rfl ?_
  refine wp_sload (q := 559) d_L_law_558 rfl rfl v2 ?_
  refine wp_aload_nX (q := 560) d_L_law_559 rfl rfl rfl ?_
  refine wp_iload_n (q := 561) d_L_law_560 rfl rfl rfl ?_
  refine wp_iconst (q := 562) (v := 3) d_L_law_561 rfl (by decide) ?_
  refine wp_iadd (q := 563) d_L_law_562 rfl ?_
  refine wp_sload (q := 564) d_L_law_563 rfl rfl v3 ?_
  refine wp_cV3g (q := 567) (bc1 := 0) (bs1 := 0) d_L_law_564 rfl bd_Y_differ lk_L_68 im_Y_differ se_Y_differ rfl (Nat.le_of_ble_eq_true rfl) (Nat.le_of_ble_eq_true rfl) hc2 (Nat.le_of_ble_eq_true rfl) (hA2) (fun v w2 hF2 => ?_)
  obtain ⟨rfl, hI2⟩ := hF2
  refine wp_icmp_eq (q := 570) (tgt := 766) d_L_law_567 (by decide) rfl (fun _ => ?_) (fun c567 => absurd rfl c567)
  exact k w2 hI2
set_option maxHeartbeats 4000000 in
set_option maxRecDepth 100000 in
theorem l_blanket {L : Nat} {xs : Nat → Int32} {w : am_W} {i : Nat} {F : Option Value → am_W → Prop} (v1 : vp_in (nI i + 1) L) (v2 : vp_in (nI i + 2) L) (v3 : vp_in (nI i + 3) L) (hI : INV w) (k : ∀ w2, INV w2 → am_Wp (some (L, xs)) m_L_law 28 0 0 766 [(0, .retAddr 0), (1, .ref 0), (2, .ref 35), (3, .int (nI i))] [] w2 F) : am_Wp (some (L, xs)) m_L_law 28 0 0 572 [(0, .retAddr 0), (1, .ref 0), (2, .ref 35), (3, .int (nI i))] [] w F := by
  obtain ⟨a, J, hA, hB⟩ := p_blanket hI (x := xs (nI i + 1).toNatClampNeg)
  obtain ⟨fs, hc0⟩ : ∃ fs, w[0]? = some (.inr (0, fs)) := by
    obtain ⟨n, k, P, C, kn, kk, KP, KC, ak, E, hd, hv, H, O, kn', KP', ic, fz, sm, hX, hY, hR⟩ := hI
    exact ⟨_, hX.1⟩
  refine wp_aload_n (q := 573) d_L_law_572 rfl rfl rfl ?_
  refine wp_aload_nX (q := 574) d_L_law_573 rfl rfl rfl ?_
  refine wp_iload_n (q := 575) d_L_law_574 rfl rfl rfl ?_
  refine wp_iconst (q := 576) (v := 1) d_L_law_575 rfl (by decide) ?_
  refine wp_iadd (q := 577) d_L_law_576 rfl ?_
  refine wp_sload (q := 578) d_L_law_577 rfl rfl v1 ?_
  refine wp_cV1g (q := 581) (bc1 := 0) (bs1 := 0) d_L_law_578 rfl bd_X_blanket lk_L_69 im_X_blanket se_X_blanket rfl (Nat.le_of_ble_eq_true rfl) (Nat.le_of_ble_eq_true rfl) hc0 (Nat.le_of_ble_eq_true rfl) (hA) (fun v w1 hF => ?_)
  obtain ⟨rfl, hJ⟩ := hF
  obtain ⟨⟨fs2, hc2⟩, hA2⟩ := hB w1 hJ
  refine wp_aload_n (q := 582) d_L_law_581 rfl rfl rfl ?_
  refine wp_aload_nX (q := 583) d_L_law_582 rfl rfl rfl ?_
  refine wp_iload_n (q := 584) d_L_law_583 rfl rfl rfl ?_
  refine wp_iconst (q := 585) (v := 1) d_L_law_584 rfl (by decide) ?_
  refine wp_iadd (q := 586) d_L_law_585 rfl ?_
  refine wp_sload (q := 587) d_L_law_586 rfl rfl v1 ?_
  refine wp_cV1g (q := 590) (bc1 := 0) (bs1 := 0) d_L_law_587 rfl bd_Y_blanket lk_L_73 im_Y_blanket se_Y_blanket rfl (Nat.le_of_ble_eq_true rfl) (Nat.le_of_ble_eq_true rfl) hc2 (Nat.le_of_ble_eq_true rfl) (hA2) (fun v w2 hF2 => ?_)
  obtain ⟨rfl, hI2⟩ := hF2
  refine wp_icmp_eq (q := 593) (tgt := 766) d_L_law_590 (by decide) rfl (fun _ => ?_) (fun c590 => absurd rfl c590)
  exact k w2 hI2
set_option maxHeartbeats 4000000 in
set_option maxRecDepth 100000 in
theorem l_least {L : Nat} {xs : Nat → Int32} {w : am_W} {i : Nat} {F : Option Value → am_W → Prop} (v1 : vp_in (nI i + 1) L) (v2 : vp_in (nI i + 2) L) (v3 : vp_in (nI i + 3) L) (hI : INV w) (k : ∀ w2, INV w2 → am_Wp (some (L, xs)) m_L_law 28 0 0 766 [(0, .retAddr 0), (1, .ref 0), (2, .ref 35), (3, .int (nI i))] [] w2 F) : am_Wp (some (L, xs)) m_L_law 28 0 0 595 [(0, .retAddr 0), (1, .ref 0), (2, .ref 35), (3, .int (nI i))] [] w F := by
  obtain ⟨a, J, hA, hB⟩ := p_least hI (x := xs (nI i + 1).toNatClampNeg) (y := xs (nI i + 2).toNatClampNeg)
  obtain ⟨fs, hc0⟩ : ∃ fs, w[0]? = some (.inr (0, fs)) := by
    obtain ⟨n, k, P, C, kn, kk, KP, KC, ak, E, hd, hv, H, O, kn', KP', ic, fz, sm, hX, hY, hR⟩ := hI
    exact ⟨_, hX.1⟩
  refine wp_aload_n (q := 596) d_L_law_595 rfl rfl rfl ?_
  refine wp_aload_nX (q := 597) d_L_law_596 rfl rfl rfl ?_
  refine wp_iload_n (q := 598) d_L_law_597 rfl rfl rfl ?_
  refine wp_iconst (q := 599) (v := 1) d_L_law_598 rfl (by decide) ?_
  refine wp_iadd (q := 600) d_L_law_599 rfl ?_
  refine wp_sload (q := 601) d_L_law_600 rfl rfl v1 ?_
  refine wp_aload_nX (q := 602) d_L_law_601 rfl rfl rfl ?_
  refine wp_iload_n (q := 603) d_L_law_602 rfl rfl rfl ?_
  refine wp_iconst (q := 604) (v := 2) d_L_law_603 rfl (by decide) ?_
  refine wp_iadd (q := 605) d_L_law_604 rfl ?_
  refine wp_sload (q := 606) d_L_law_605 rfl rfl v2 ?_
  refine wp_cV2g (q := 609) (bc1 := 0) (bs1 := 0) d_L_law_606 rfl bd_X_least lk_L_74 im_X_least se_X_least rfl (Nat.le_of_ble_eq_true rfl) (Nat.le_of_ble_eq_true rfl) hc0 (Nat.le_of_ble_eq_true rfl) (hA) (fun v w1 hF => ?_)
  obtain ⟨rfl, hJ⟩ := hF
  obtain ⟨⟨fs2, hc2⟩, hA2⟩ := hB w1 hJ
  refine wp_aload_n (q := 610) d_L_law_609 rfl rfl rfl ?_
  refine wp_aload_nX (q := 611) d_L_law_610 rfl rfl rfl ?_
  refine wp_iload_n (q := 612) d_L_law_611 rfl rfl rfl ?_
  refine wp_iconst (q := 613) (v := 1) d_L_law_612 rfl (by decide) ?_
  refine wp_iadd (q := 614) d_L_law_613 rfl ?_
  refine wp_sload (q := 615) d_L_law_614 rfl rfl v1 ?_
  refine wp_aload_nX (q := 616) d_L_law_615 rfl rfl rfl ?_
  refine wp_iload_n (q := 617) d_L_law_616 rfl rfl rfl ?_
  refine wp_iconst (q := 618) (v := 2) d_L_law_617 rfl (by decide) ?_
  refine wp_iadd (q := 619) d_L_law_618 rfl ?_
  refine wp_sload (q := 620) d_L_law_619 rfl rfl v2 ?_
  refine wp_cV2g (q := 623) (bc1 := 0) (bs1 := 0) d_L_law_620 rfl bd_Y_least lk_L_77 im_Y_least se_Y_least rfl (Nat.le_of_ble_eq_true rfl) (Nat.le_of_ble_eq_true rfl) hc2 (Nat.le_of_ble_eq_true rfl) (hA2) (fun v w2 hF2 => ?_)
  obtain ⟨rfl, hI2⟩ := hF2
  refine wp_icmp_eq (q := 626) (tgt := 766) d_L_law_623 (by decide) rfl (fun _ => ?_) (fun c623 => absurd rfl c623)
  exact k w2 hI2
set_option maxHeartbeats 4000000 in
set_option maxRecDepth 100000 in
theorem l_enough {L : Nat} {xs : Nat → Int32} {w : am_W} {i : Nat} {F : Option Value → am_W → Prop} (v1 : vp_in (nI i + 1) L) (v2 : vp_in (nI i + 2) L) (v3 : vp_in (nI i + 3) L) (hI : INV w) (k : ∀ w2, INV w2 → am_Wp (some (L, xs)) m_L_law 28 0 0 766 [(0, .retAddr 0), (1, .ref 0), (2, .ref 35), (3, .int (nI i))] [] w2 F) : am_Wp (some (L, xs)) m_L_law 28 0 0 628 [(0, .retAddr 0), (1, .ref 0), (2, .ref 35), (3, .int (nI i))] [] w F := by
  obtain ⟨a, J, hA, hB⟩ := p_enough hI (x := xs (nI i + 1).toNatClampNeg) (y := xs (nI i + 2).toNatClampNeg) (z := xs (nI i + 3).toNatClampNeg)
  obtain ⟨fs, hc0⟩ : ∃ fs, w[0]? = some (.inr (0, fs)) := by
    obtain ⟨n, k, P, C, kn, kk, KP, KC, ak, E, hd, hv, H, O, kn', KP', ic, fz, sm, hX, hY, hR⟩ := hI
    exact ⟨_, hX.1⟩
  refine wp_aload_n (q := 629) d_L_law_628 rfl rfl rfl ?_
  refine wp_aload_nX (q := 630) d_L_law_629 rfl rfl rfl ?_
  refine wp_iload_n (q := 631) d_L_law_630 rfl rfl rfl ?_
  refine wp_iconst (q := 632) (v := 1) d_L_law_631 rfl (by decide) ?_
  refine wp_iadd (q := 633) d_L_law_632 rfl ?_
  refine wp_sload (q := 634) d_L_law_633 rfl rfl v1 ?_
  refine wp_aload_nX (q := 635) d_L_law_634 rfl rfl rfl ?_
  refine wp_iload_n (q := 636) d_L_law_635 rfl rfl rfl ?_
  refine wp_iconst (q := 637) (v := 2) d_L_law_636 rfl (by decide) ?_
  refine wp_iadd (q := 638) d_L_law_637 rfl ?_
  refine wp_sload (q := 639) d_L_law_638 rfl rfl v2 ?_
  refine wp_aload_nX (q := 640) d_L_law_639 rfl rfl rfl ?_
  refine wp_iload_n (q := 641) d_L_law_640 rfl rfl rfl ?_
  refine wp_iconst (q := 642) (v := 3) d_L_law_641 rfl (by decide) ?_
  refine wp_iadd (q := 643) d_L_law_642 rfl ?_
  refine wp_sload (q := 644) d_L_law_643 rfl rfl v3 ?_
  refine wp_cV3g (q := 647) (bc1 := 0) (bs1 := 0) d_L_law_644 rfl bd_X_enough lk_L_78 im_X_enough se_X_enough rfl (Nat.le_of_ble_eq_true rfl) (Nat.le_of_ble_eq_true rfl) hc0 (Nat.le_of_ble_eq_true rfl) (hA) (fun v w1 hF => ?_)
  obtain ⟨rfl, hJ⟩ := hF
  obtain ⟨⟨fs2, hc2⟩, hA2⟩ := hB w1 hJ
  refine wp_aload_n (q := 648) d_L_law_647 rfl rfl rfl ?_
  refine wp_aload_nX (q := 649) d_L_law_648 rfl rfl rfl ?_
  refine wp_iload_n (q := 650) d_L_law_649 rfl rfl rfl ?_
  refine wp_iconst (q := 651) (v := 1) d_L_law_650 rfl (by decide) ?_
  refine wp_iadd (q := 652) d_L_law_651 rfl ?_
  refine wp_sload (q := 653) d_L_law_652 rfl rfl v1 ?_
  refine wp_aload_nX (q := 654) d_L_law_653 rfl rfl rfl ?_
  refine wp_iload_n (q := 655) d_L_law_654 rfl rfl rfl ?_
  refine wp_iconst (q := 656) (v := 2) d_L_law_655 rfl (by decide) ?_
  refine wp_iadd (q := 657) d_L_law_656 rfl ?_
  refine wp_sload (q := 658) d_L_law_657 rfl rfl v2 ?_
  refine wp_aload_nX (q := 659) d_L_law_658 rfl rfl rfl ?_
  refine wp_iload_n (q := 660) d_L_law_659 rfl rfl rfl ?_
  refine wp_iconst (q := 661) (v := 3) d_L_law_660 rfl (by decide) ?_
  refine wp_iadd (q := 662) d_L_law_661 rfl ?_
  refine wp_sload (q := 663) d_L_law_662 rfl rfl v3 ?_
  refine wp_cV3g (q := 666) (bc1 := 0) (bs1 := 0) d_L_law_663 rfl bd_Y_enough lk_L_81 im_Y_enough se_Y_enough rfl (Nat.le_of_ble_eq_true rfl) (Nat.le_of_ble_eq_true rfl) hc2 (Nat.le_of_ble_eq_true rfl) (hA2) (fun v w2 hF2 => ?_)
  obtain ⟨rfl, hI2⟩ := hF2
  refine wp_icmp_eq (q := 669) (tgt := 766) d_L_law_666 (by decide) rfl (fun _ => ?_) (fun c666 => absurd rfl c666)
  exact k w2 hI2
set_option maxHeartbeats 4000000 in
set_option maxRecDepth 100000 in
theorem l_keep {L : Nat} {xs : Nat → Int32} {w : am_W} {i : Nat} {F : Option Value → am_W → Prop} (v1 : vp_in (nI i + 1) L) (v2 : vp_in (nI i + 2) L) (v3 : vp_in (nI i + 3) L) (hI : INV w) (k : ∀ w2, INV w2 → am_Wp (some (L, xs)) m_L_law 28 0 0 766 [(0, .retAddr 0), (1, .ref 0), (2, .ref 35), (3, .int (nI i))] [] w2 F) : am_Wp (some (L, xs)) m_L_law 28 0 0 671 [(0, .retAddr 0), (1, .ref 0), (2, .ref 35), (3, .int (nI i))] [] w F := by
  obtain ⟨a, J, hA, hB⟩ := p_keep hI 
  obtain ⟨fs, hc0⟩ : ∃ fs, w[0]? = some (.inr (0, fs)) := by
    obtain ⟨n, k, P, C, kn, kk, KP, KC, ak, E, hd, hv, H, O, kn', KP', ic, fz, sm, hX, hY, hR⟩ := hI
    exact ⟨_, hX.1⟩
  refine wp_aload_n (q := 672) d_L_law_671 rfl rfl rfl ?_
  refine wp_cV0g (q := 675) (bc1 := 0) (bs1 := 0) d_L_law_672 rfl bd_X_keep lk_L_82 im_X_keep se_X_keep rfl (Nat.le_of_ble_eq_true rfl) (Nat.le_of_ble_eq_true rfl) hc0 (Nat.le_of_ble_eq_true rfl) (hA) (fun v w1 hF => ?_)
  obtain ⟨rfl, hJ⟩ := hF
  obtain ⟨⟨fs2, hc2⟩, hA2⟩ := hB w1 hJ
  refine wp_aload_n (q := 676) d_L_law_675 rfl rfl rfl ?_
  refine wp_cV0g (q := 679) (bc1 := 0) (bs1 := 0) d_L_law_676 rfl bd_Y_keep lk_L_85 im_Y_keep se_Y_keep rfl (Nat.le_of_ble_eq_true rfl) (Nat.le_of_ble_eq_true rfl) hc2 (Nat.le_of_ble_eq_true rfl) (hA2) (fun v w2 hF2 => ?_)
  obtain ⟨rfl, hI2⟩ := hF2
  refine wp_icmp_eq (q := 682) (tgt := 766) d_L_law_679 (by decide) rfl (fun _ => ?_) (fun c679 => absurd rfl c679)
  exact k w2 hI2
set_option maxHeartbeats 4000000 in
set_option maxRecDepth 100000 in
theorem l_alike {L : Nat} {xs : Nat → Int32} {w : am_W} {i : Nat} {F : Option Value → am_W → Prop} (v1 : vp_in (nI i + 1) L) (v2 : vp_in (nI i + 2) L) (v3 : vp_in (nI i + 3) L) (hI : INV w) (k : ∀ w2, INV w2 → am_Wp (some (L, xs)) m_L_law 28 0 0 766 [(0, .retAddr 0), (1, .ref 0), (2, .ref 35), (3, .int (nI i))] [] w2 F) : am_Wp (some (L, xs)) m_L_law 28 0 0 684 [(0, .retAddr 0), (1, .ref 0), (2, .ref 35), (3, .int (nI i))] [] w F := by
  obtain ⟨a, J, hA, hB⟩ := p_alike hI 
  obtain ⟨fs, hc0⟩ : ∃ fs, w[0]? = some (.inr (0, fs)) := by
    obtain ⟨n, k, P, C, kn, kk, KP, KC, ak, E, hd, hv, H, O, kn', KP', ic, fz, sm, hX, hY, hR⟩ := hI
    exact ⟨_, hX.1⟩
  refine wp_aload_n (q := 685) d_L_law_684 rfl rfl rfl ?_
  refine wp_cV0g (q := 688) (bc1 := 0) (bs1 := 0) d_L_law_685 rfl bd_X_alike lk_L_86 im_X_alike se_X_alike rfl (Nat.le_of_ble_eq_true rfl) (Nat.le_of_ble_eq_true rfl) hc0 (Nat.le_of_ble_eq_true rfl) (hA) (fun v w1 hF => ?_)
  obtain ⟨rfl, hJ⟩ := hF
  obtain ⟨⟨fs2, hc2⟩, hA2⟩ := hB w1 hJ
  refine wp_aload_n (q := 689) d_L_law_688 rfl rfl rfl ?_
  refine wp_cV0g (q := 692) (bc1 := 0) (bs1 := 0) d_L_law_689 rfl bd_Y_alike lk_L_89 im_Y_alike se_Y_alike rfl (Nat.le_of_ble_eq_true rfl) (Nat.le_of_ble_eq_true rfl) hc2 (Nat.le_of_ble_eq_true rfl) (hA2) (fun v w2 hF2 => ?_)
  obtain ⟨rfl, hI2⟩ := hF2
  refine wp_icmp_eq (q := 695) (tgt := 766) d_L_law_692 (by decide) rfl (fun _ => ?_) (fun c692 => absurd rfl c692)
  exact k w2 hI2
set_option maxHeartbeats 4000000 in
set_option maxRecDepth 100000 in
theorem l_settled {L : Nat} {xs : Nat → Int32} {w : am_W} {i : Nat} {F : Option Value → am_W → Prop} (v1 : vp_in (nI i + 1) L) (v2 : vp_in (nI i + 2) L) (v3 : vp_in (nI i + 3) L) (hI : INV w) (k : ∀ w2, INV w2 → am_Wp (some (L, xs)) m_L_law 28 0 0 766 [(0, .retAddr 0), (1, .ref 0), (2, .ref 35), (3, .int (nI i))] [] w2 F) : am_Wp (some (L, xs)) m_L_law 28 0 0 697 [(0, .retAddr 0), (1, .ref 0), (2, .ref 35), (3, .int (nI i))] [] w F := by
  obtain ⟨a, J, hA, hB⟩ := p_settled hI (x := xs (nI i + 1).toNatClampNeg) (y := xs (nI i + 2).toNatClampNeg)
  obtain ⟨fs, hc0⟩ : ∃ fs, w[0]? = some (.inr (0, fs)) := by
    obtain ⟨n, k, P, C, kn, kk, KP, KC, ak, E, hd, hv, H, O, kn', KP', ic, fz, sm, hX, hY, hR⟩ := hI
    exact ⟨_, hX.1⟩
  refine wp_aload_n (q := 698) d_L_law_697 rfl rfl rfl ?_
  refine wp_aload_nX (q := 699) d_L_law_698 rfl rfl rfl ?_
  refine wp_iload_n (q := 700) d_L_law_699 rfl rfl rfl ?_
  refine wp_iconst (q := 701) (v := 1) d_L_law_700 rfl (by decide) ?_
  refine wp_iadd (q := 702) d_L_law_701 rfl ?_
  refine wp_sload (q := 703) d_L_law_702 rfl rfl v1 ?_
  refine wp_aload_nX (q := 704) d_L_law_703 rfl rfl rfl ?_
  refine wp_iload_n (q := 705) d_L_law_704 rfl rfl rfl ?_
  refine wp_iconst (q := 706) (v := 2) d_L_law_705 rfl (by decide) ?_
  refine wp_iadd (q := 707) d_L_law_706 rfl ?_
  refine wp_sload (q := 708) d_L_law_707 rfl rfl v2 ?_
  refine wp_cV2g (q := 711) (bc1 := 0) (bs1 := 0) d_L_law_708 rfl bd_X_settled lk_L_90 im_X_settled se_X_settled rfl (Nat.le_of_ble_eq_true rfl) (Nat.le_of_ble_eq_true rfl) hc0 (Nat.le_of_ble_eq_true rfl) (hA) (fun v w1 hF => ?_)
  obtain ⟨rfl, hJ⟩ := hF
  obtain ⟨⟨fs2, hc2⟩, hA2⟩ := hB w1 hJ
  refine wp_aload_n (q := 712) d_L_law_711 rfl rfl rfl ?_
  refine wp_aload_nX (q := 713) d_L_law_712 rfl rfl rfl ?_
  refine wp_iload_n (q := 714) d_L_law_713 rfl rfl rfl ?_
  refine wp_iconst (q := 715) (v := 1) d_L_law_714 rfl (by decide) ?_
  refine wp_iadd (q := 716) d_L_law_715 rfl ?_
  refine wp_sload (q := 717) d_L_law_716 rfl rfl v1 ?_
  refine wp_aload_nX (q := 718) d_L_law_717 rfl rfl rfl ?_
  refine wp_iload_n (q := 719) d_L_law_718 rfl rfl rfl ?_
  refine wp_iconst (q := 720) (v := 2) d_L_law_719 rfl (by decide) ?_
  refine wp_iadd (q := 721) d_L_law_720 rfl ?_
  refine wp_sload (q := 722) d_L_law_721 rfl rfl v2 ?_
  refine wp_cV2g (q := 725) (bc1 := 0) (bs1 := 0) d_L_law_722 rfl bd_Y_settled lk_L_93 im_Y_settled se_Y_settled rfl (Nat.le_of_ble_eq_true rfl) (Nat.le_of_ble_eq_true rfl) hc2 (Nat.le_of_ble_eq_true rfl) (hA2) (fun v w2 hF2 => ?_)
  obtain ⟨rfl, hI2⟩ := hF2
  refine wp_icmp_eq (q := 728) (tgt := 766) d_L_law_725 (by decide) rfl (fun _ => ?_) (fun c725 => absurd rfl c725)
  exact k w2 hI2
set_option maxHeartbeats 4000000 in
set_option maxRecDepth 100000 in
theorem l_family {L : Nat} {xs : Nat → Int32} {w : am_W} {i : Nat} {F : Option Value → am_W → Prop} (v1 : vp_in (nI i + 1) L) (v2 : vp_in (nI i + 2) L) (v3 : vp_in (nI i + 3) L) (hI : INV w) (k : ∀ w2, INV w2 → am_Wp (some (L, xs)) m_L_law 28 0 0 766 [(0, .retAddr 0), (1, .ref 0), (2, .ref 35), (3, .int (nI i))] [] w2 F) : am_Wp (some (L, xs)) m_L_law 28 0 0 730 [(0, .retAddr 0), (1, .ref 0), (2, .ref 35), (3, .int (nI i))] [] w F := by
  obtain ⟨a, J, hA, hB⟩ := p_family hI 
  obtain ⟨fs, hc0⟩ : ∃ fs, w[0]? = some (.inr (0, fs)) := by
    obtain ⟨n, k, P, C, kn, kk, KP, KC, ak, E, hd, hv, H, O, kn', KP', ic, fz, sm, hX, hY, hR⟩ := hI
    exact ⟨_, hX.1⟩
  refine wp_aload_n (q := 731) d_L_law_730 rfl rfl rfl ?_
  refine wp_cV0g (q := 734) (bc1 := 0) (bs1 := 0) d_L_law_731 rfl bd_X_family lk_L_94 im_X_family se_X_family rfl (Nat.le_of_ble_eq_true rfl) (Nat.le_of_ble_eq_true rfl) hc0 (Nat.le_of_ble_eq_true rfl) (hA) (fun v w1 hF => ?_)
  obtain ⟨rfl, hJ⟩ := hF
  obtain ⟨⟨fs2, hc2⟩, hA2⟩ := hB w1 hJ
  refine wp_aload_n (q := 735) d_L_law_734 rfl rfl rfl ?_
  refine wp_cV0g (q := 738) (bc1 := 0) (bs1 := 0) d_L_law_735 rfl bd_Y_family lk_L_97 im_Y_family se_Y_family rfl (Nat.le_of_ble_eq_true rfl) (Nat.le_of_ble_eq_true rfl) hc2 (Nat.le_of_ble_eq_true rfl) (hA2) (fun v w2 hF2 => ?_)
  obtain ⟨rfl, hI2⟩ := hF2
  refine wp_icmp_eq (q := 741) (tgt := 766) d_L_law_738 (by decide) rfl (fun _ => ?_) (fun c738 => absurd rfl c738)
  exact k w2 hI2
set_option maxHeartbeats 4000000 in
set_option maxRecDepth 100000 in
theorem l_count {L : Nat} {xs : Nat → Int32} {w : am_W} {i : Nat} {F : Option Value → am_W → Prop} (v1 : vp_in (nI i + 1) L) (v2 : vp_in (nI i + 2) L) (v3 : vp_in (nI i + 3) L) (hI : INV w) (k : ∀ w2, INV w2 → am_Wp (some (L, xs)) m_L_law 28 0 0 766 [(0, .retAddr 0), (1, .ref 0), (2, .ref 35), (3, .int (nI i))] [] w2 F) : am_Wp (some (L, xs)) m_L_law 28 0 0 743 [(0, .retAddr 0), (1, .ref 0), (2, .ref 35), (3, .int (nI i))] [] w F := by
  obtain ⟨a, J, hA, hB⟩ := p_count hI (x := xs (nI i + 1).toNatClampNeg)
  obtain ⟨fs, hc0⟩ : ∃ fs, w[0]? = some (.inr (0, fs)) := by
    obtain ⟨n, k, P, C, kn, kk, KP, KC, ak, E, hd, hv, H, O, kn', KP', ic, fz, sm, hX, hY, hR⟩ := hI
    exact ⟨_, hX.1⟩
  refine wp_aload_n (q := 744) d_L_law_743 rfl rfl rfl ?_
  refine wp_aload_nX (q := 745) d_L_law_744 rfl rfl rfl ?_
  refine wp_iload_n (q := 746) d_L_law_745 rfl rfl rfl ?_
  refine wp_iconst (q := 747) (v := 1) d_L_law_746 rfl (by decide) ?_
  refine wp_iadd (q := 748) d_L_law_747 rfl ?_
  refine wp_sload (q := 749) d_L_law_748 rfl rfl v1 ?_
  refine wp_cV1g (q := 752) (bc1 := 0) (bs1 := 0) d_L_law_749 rfl bd_X_count lk_L_98 im_X_count se_X_count rfl (Nat.le_of_ble_eq_true rfl) (Nat.le_of_ble_eq_true rfl) hc0 (Nat.le_of_ble_eq_true rfl) (hA) (fun v w1 hF => ?_)
  obtain ⟨rfl, hJ⟩ := hF
  obtain ⟨⟨fs2, hc2⟩, hA2⟩ := hB w1 hJ
  refine wp_aload_n (q := 753) d_L_law_752 rfl rfl rfl ?_
  refine wp_aload_nX (q := 754) d_L_law_753 rfl rfl rfl ?_
  refine wp_iload_n (q := 755) d_L_law_754 rfl rfl rfl ?_
  refine wp_iconst (q := 756) (v := 1) d_L_law_755 rfl (by decide) ?_
  refine wp_iadd (q := 757) d_L_law_756 rfl ?_
  refine wp_sload (q := 758) d_L_law_757 rfl rfl v1 ?_
  refine wp_cV1g (q := 761) (bc1 := 0) (bs1 := 0) d_L_law_758 rfl bd_Y_count lk_L_101 im_Y_count se_Y_count rfl (Nat.le_of_ble_eq_true rfl) (Nat.le_of_ble_eq_true rfl) hc2 (Nat.le_of_ble_eq_true rfl) (hA2) (fun v w2 hF2 => ?_)
  obtain ⟨rfl, hI2⟩ := hF2
  refine wp_icmp_eq (q := 764) (tgt := 766) d_L_law_761 (by decide) rfl (fun _ => ?_) (fun c761 => absurd rfl c761)
  exact k w2 hI2
theorem pu_31 (x : Int32) : ∃ c, c < 32 ∧ x &&& 31 = nI c := by
  refine ⟨(x.toBitVec &&& 31#32).toNat, ?_, ?_⟩
  · rw [BitVec.toNat_and]
    exact Nat.lt_of_le_of_lt Nat.and_le_right (by decide)
  · apply Int32.toBitVec_inj.1
    show x.toBitVec &&& 31#32 = BitVec.ofNat 32 _
    rw [BitVec.ofNat_toNat, BitVec.setWidth_eq]
set_option maxHeartbeats 4000000 in
set_option maxRecDepth 100000 in
theorem l_loop {L : Nat} {xs : Nat → Int32} (hL : L ≤ 2048) : ∀ (b i : Nat) (w : am_W), L - i < b → i ≤ L + 4 → INV w → am_Wp (some (L, xs)) m_L_law 28 0 0 18 [(0, .retAddr 0), (1, .ref 0), (2, .ref 35), (3, .int (nI i))] [] w (fun v _ => v = some (.int 1)) := by
  intro b
  induction b with
  | zero => intro i w h; exact absurd h (Nat.not_lt_zero _)
  | succ b ih =>
    intro i w hb hi hI
    refine wp_iload_n (q := 19) d_L_law_18 rfl rfl rfl ?_
    refine wp_aload_nX (q := 20) d_L_law_19 rfl rfl rfl ?_
    refine wp_slen (q := 21) d_L_law_20 rfl rfl ?_
    refine wp_iconst (q := 22) (v := 4) d_L_law_21 rfl (by decide) ?_
    refine wp_isub (q := 23) d_L_law_22 rfl ?_
    refine wp_icmp_gt (q := 26) (tgt := 772) d_L_law_23 (by decide) rfl (fun c23 => ?_) (fun c23 => ?_)
    · refine wp_iconst (q := 773) (v := 1) d_L_law_772 rfl (by decide) ?_
      exact wp_zreturn rfl rfl d_L_law_773 rfl
    · have hle : i + 4 ≤ L := by
        have h1 : ¬ (nI L - nI 4).toInt < (nI i).toInt := fun q => c23 (Int32.lt_iff_toInt_lt.mpr q)
        rw [pk_sub_toInt (by omega) (by decide), nI_toInt (by omega)] at h1
        omega
      have v0 : vp_in (nI i) L := vp_in_nI (by omega) (by omega)
      have v1 : vp_in (nI i + 1) L := by rw [nI_1]; exact vp_in_nI (by omega) (by omega)
      have v2 : vp_in (nI i + 2) L := by rw [show nI i + 2 = nI (i + 2) from nI_add i 2]; exact vp_in_nI (by omega) (by omega)
      have v3 : vp_in (nI i + 3) L := by rw [show nI i + 3 = nI (i + 3) from nI_add i 3]; exact vp_in_nI (by omega) (by omega)
      refine wp_aload_nX (q := 27) d_L_law_26 rfl rfl rfl ?_
      refine wp_iload_n (q := 28) d_L_law_27 rfl rfl rfl ?_
      refine wp_sload (q := 29) d_L_law_28 rfl rfl v0 ?_
      refine wp_bipush (q := 31) (v := 31) d_L_law_29 rfl (by decide) ?_
      obtain ⟨c, hc, ec⟩ := pu_31 (xs (nI i).toNatClampNeg)
      refine wp_iand (q := 32) d_L_law_31 rfl ?_
      rw [ec]
      have nx : ∀ w2, INV w2 → am_Wp (some (L, xs)) m_L_law 28 0 0 766 [(0, .retAddr 0), (1, .ref 0), (2, .ref 35), (3, .int (nI i))] [] w2 (fun v _ => v = some (.int 1)) := by
        intro w2 hI2
        refine wp_iinc (q := 769) d_L_law_766 rfl rfl (nI_add i 4) (Nat.le_of_ble_eq_true rfl) rfl ?_
        refine wp_goto (tgt := 18) d_L_law_769 (by decide) ?_
        exact ih (i + 4) w2 (by omega) (by omega) hI2
      rcases (show c = 0 ∨ c = 1 ∨ c = 2 ∨ c = 3 ∨ c = 4 ∨ c = 5 ∨ c = 6 ∨ c = 7 ∨ c = 8 ∨ c = 9 ∨ c = 10 ∨ c = 11 ∨ c = 12 ∨ c = 13 ∨ c = 14 ∨ c = 15 ∨ c = 16 ∨ c = 17 ∨ c = 18 ∨ c = 19 ∨ c = 20 ∨ 21 ≤ c by omega) with rfl | rfl | rfl | rfl | rfl | rfl | rfl | rfl | rfl | rfl | rfl | rfl | rfl | rfl | rfl | rfl | rfl | rfl | rfl | rfl | rfl | hge
      · refine wp_tableIn (tgt := 132) (by decide) (by decide) (by rfl) (by decide) d_L_law_32 ?_
        exact l_clear v1 v2 v3 hI nx
      · refine wp_tableIn (tgt := 145) (by decide) (by decide) (by rfl) (by decide) d_L_law_32 ?_
        exact l_place v1 v2 v3 hI nx
      · refine wp_tableIn (tgt := 158) (by decide) (by decide) (by rfl) (by decide) d_L_law_32 ?_
        exact l_arc v1 v2 v3 hI nx
      · refine wp_tableIn (tgt := 191) (by decide) (by decide) (by rfl) (by decide) d_L_law_32 ?_
        exact l_cut v1 v2 v3 hI nx
      · refine wp_tableIn (tgt := 224) (by decide) (by decide) (by rfl) (by decide) d_L_law_32 ?_
        exact l_odds v1 v2 v3 hI nx
      · refine wp_tableIn (tgt := 267) (by decide) (by decide) (by rfl) (by decide) d_L_law_32 ?_
        exact l_hold v1 v2 v3 hI nx
      · refine wp_tableIn (tgt := 300) (by decide) (by decide) (by rfl) (by decide) d_L_law_32 ?_
        exact l_told v1 v2 v3 hI nx
      · refine wp_tableIn (tgt := 333) (by decide) (by decide) (by rfl) (by decide) d_L_law_32 ?_
        exact l_of v1 v2 v3 hI nx
      · refine wp_tableIn (tgt := 366) (by decide) (by decide) (by rfl) (by decide) d_L_law_32 ?_
        exact l_separated v1 v2 v3 hI nx
      · refine wp_tableIn (tgt := 409) (by decide) (by decide) (by rfl) (by decide) d_L_law_32 ?_
        exact l_walk v1 v2 v3 hI nx
      · refine wp_tableIn (tgt := 452) (by decide) (by decide) (by rfl) (by decide) d_L_law_32 ?_
        exact l_weight v1 v2 v3 hI nx
      · refine wp_tableIn (tgt := 486) (by decide) (by decide) (by rfl) (by decide) d_L_law_32 ?_
        exact l_independent v1 v2 v3 hI nx
      · refine wp_tableIn (tgt := 529) (by decide) (by decide) (by rfl) (by decide) d_L_law_32 ?_
        exact l_differ v1 v2 v3 hI nx
      · refine wp_tableIn (tgt := 572) (by decide) (by decide) (by rfl) (by decide) d_L_law_32 ?_
        exact l_blanket v1 v2 v3 hI nx
      · refine wp_tableIn (tgt := 595) (by decide) (by decide) (by rfl) (by decide) d_L_law_32 ?_
        exact l_least v1 v2 v3 hI nx
      · refine wp_tableIn (tgt := 628) (by decide) (by decide) (by rfl) (by decide) d_L_law_32 ?_
        exact l_enough v1 v2 v3 hI nx
      · refine wp_tableIn (tgt := 671) (by decide) (by decide) (by rfl) (by decide) d_L_law_32 ?_
        exact l_keep v1 v2 v3 hI nx
      · refine wp_tableIn (tgt := 684) (by decide) (by decide) (by rfl) (by decide) d_L_law_32 ?_
        exact l_alike v1 v2 v3 hI nx
      · refine wp_tableIn (tgt := 697) (by decide) (by decide) (by rfl) (by decide) d_L_law_32 ?_
        exact l_settled v1 v2 v3 hI nx
      · refine wp_tableIn (tgt := 730) (by decide) (by decide) (by rfl) (by decide) d_L_law_32 ?_
        exact l_family v1 v2 v3 hI nx
      · refine wp_tableIn (tgt := 743) (by decide) (by decide) (by rfl) (by decide) d_L_law_32 ?_
        exact l_count v1 v2 v3 hI nx
      · refine wp_tableOut (tgt := 766) (Or.inr (by rw [nI_toInt (by omega)]; omega)) (by decide) d_L_law_32 ?_
        exact nx w hI
