/-! CALLS -/
def am_Pre (tc : Nat → ClassId) (D : va_G) (r : Nat → Nat) (w : am_W) (sz : Nat) (U : State) : Prop :=
  U.heap.size = sz ∧ va_P D vwCl (am_cw tc r w) U.heap ∧ va_K D vwCl (am_tys tc) U ∧ va_D (fun _ => True) (am_cw tc r w) ∧ ∀ x ∈ am_nest, va_Nw x U
def am_Q (tc : Nat → ClassId) (D : va_G) (r : Nat → Nat) (n : Nat) (F : Option Value → am_W → Prop) (A : Nat → Prop) : Array Value → State → Outcome → State → Prop := fun _ st oc t =>
  (∃ (v : Option Value) (w1 : am_W) (r1 : Nat → Nat), oc = .returned (v.map (am_cv r1)) ∧ F v w1 ∧ am_ww w1 ∧ (∀ a, a ≤ n → r1 a = r a) ∧ n ≤ w1.length ∧ am_wo w1.length v ∧ va_P D vwCl (am_cw tc r1 w1) t.heap ∧ va_D A (am_cw tc r1 w1)) ∧ va_F A st t
/-- what the tables say of a method that may be called: n parameters -/
def am_Bd (M : am_M) (n : Nat) : Prop :=
  plainName M.1.cls = true ∧ Cond.code M.1 M.2.1 M.2.2.1 M.2.2.2 ∈ lw_tbl ∧ Cond.initialized M.1.cls ∈ lw_tbl ∧ (M.1.cls ≠ "java/lang/invoke/MethodHandle" ∧ M.1.cls ≠ "java/lang/invoke/VarHandle" ∧ (parseMethodDescriptor M.1.desc).map (fun d => d.parameters.length) = some n) ∧ M.2.2.1 ≤ 45
theorem am_args_map (r : Nat → Nat) : ∀ (as : List Value) (i : Nat), lv_args i (as.map (am_cv r)) = am_cl r (lv_args i as)
  | [], _ => rfl
  | v :: as, i => by
    rw [List.map_cons]
    show (i, am_cv r v) :: lv_args (if (am_cv r v).category = 2 then i + 2 else i + 1) (as.map (am_cv r)) = (i, am_cv r v) :: am_cl r (lv_args (if v.category = 2 then i + 2 else i + 1) as)
    rw [am_cv_cat, am_args_map r as]
theorem am_sl_len (r : Nat → Nat) : ∀ (as : List Value), (lg_sl (as.map (am_cv r))).length = (lg_sl as).length
  | [] => rfl
  | v :: as => by
    have h := am_sl_len r as
    unfold lg_sl at h ⊢
    rw [List.map_cons, List.flatMap_cons, List.flatMap_cons, List.length_append, List.length_append, h, am_cv_cat]
    by_cases hc : v.category = 2 <;> simp [hc]
theorem am_met {M : am_M} {d mc ms n : Nat} {as : List Value} {w : am_W} {F : Option Value → am_W → Prop} (hB : am_Bd M n) (hlen : (lg_sl as).length ≤ M.2.2.1) (h : am_Wp none M d mc ms 0 (lv_args 0 as) [] w F) (l : Launch) (tc : Nat → ClassId) (D : va_G) (r : Nat → Nat) (sz : Nat) (hw : am_ww w) (has : am_ws w.length as) :
    Met l M.1 (Cond.code M.1 M.2.1 M.2.2.1 M.2.2.2 :: am_good) { frames := d, cells := mc, slots := ms, locals := d * 64 } (va_Pc (as.map (am_cv r)) (am_Pre tc D r w sz)) (am_Q tc D r w.length F (va_A (am_cw tc r w) sz)) mc ms (va_A (am_cw tc r w) sz) := by
  refine Met.ofW (cc := M.2.1) (maxL := M.2.2.1) (ret := M.2.2.2) hB.1 rfl ?_
  intro p e s m args below meth c s₁ B hml hv
  obtain ⟨rfl, hsz, hP, hK, hD0, hN⟩ := hv
  have hts := atoms_spec (ws := Cond.code M.1 M.2.1 M.2.2.1 M.2.2.2 :: am_good) B.pre
  subst hsz
  have hD := hD0.self (sz := s.heap.size)
  have hA : ∀ q : Nat, s.heap.size ≤ q → va_A (am_cw tc r w) s.heap.size q := fun q h => Or.inr h
  have hl := lv_entry (as.map (am_cv r)) (n := M.2.2.1) (by rw [am_sl_len]; exact hlen)
  rw [am_args_map] at hl
  rw [lg_entry_eq]
  refine h p l e _ s m _ below meth c _ tc D (va_A (am_cw tc r w) s.heap.size) ⟨B.exec, B.bytes, B.returns, hml, findClass_of_methodNamed B.named, fun x hx => hts x (List.mem_cons_of_mem _ hx), hN, hK, B.notSynchronized, (name_of_methodNamed B.named B.method).1, hA, Nat.le_refl _, Nat.le_refl _⟩ r s.heap [] 0 0 mc ms _ ⟨hw, hP, hD, va_S.rf, trivial⟩ hl (am_wl_args 0 has) trivial (by omega) (by omega) (Nat.le_refl _) (Nat.le_refl _) ?_
  intro v w1 r1 H1 locs1 cells1 slots1 pc1 sl1 hF hS hr hle hv hc hs hret
  refine W.widen hc hs ?_
  have hq : ∀ t : State, t.heap = H1 → am_Q tc D r w.length F (va_A (am_cw tc r w) s.heap.size) (as.map (am_cv r)).toArray s (.returned (v.map (am_cv r1))) t := fun t ht => ⟨⟨v, w1, r1, rfl, hF, hS.1, hr, hle, hv, by rw [ht]; exact hS.2.1, hS.2.2.1⟩, hS.2.2.2.1.F ht⟩
  have hlk := B.notSynchronized
  rcases hret with ⟨e1, rfl, e3⟩ | ⟨ty, x, e1, rfl, e2, e3⟩ | ⟨x, e1, rfl, e3⟩ | ⟨ty, a, e1, e2, rfl, e3⟩
  · exact W.vret B.exec B.bytes (B.returns.trans e1) (fun t ht _ => hq t ht) hS.2.2.2.1.2.2 e3 hlk
  · exact W.zret B.exec B.bytes (B.returns.trans e1) e2 (fun t ht _ => hq t ht) hS.2.2.2.1.2.2 e3 hlk
  · exact W.lret B.exec B.bytes (B.returns.trans e1) (fun t ht _ => hq t ht) hS.2.2.2.1.2.2 e3 hlk
  · exact W.aret B.exec B.bytes (B.returns.trans e1) e2 (Or.inr ⟨_, rfl⟩) (fun t ht _ => hq t ht) hS.2.2.2.1.2.2 e3 hlk
section CallRules
variable {sc : am_S} {M M1 : am_M} {d bc bs bc1 bs1 pc q : Nat} {ls : am_L} {st as : List Value} {w : am_W} {F F1 : Option Value → am_W → Prop}
theorem am_free {tc : Nat → ClassId} {D : va_G} {A : Nat → Prop} {s : State} {r : Nat → Nat} {H : Heap} {locs : List Loc} (hS : am_Sm sc tc D A s r w H locs) (hA : ∀ q, s.heap.size ≤ q → A q) : ∀ q, va_A (am_cw tc r w) H.size q → A q := by
  intro q h
  rcases h with ⟨k, e, h⟩ | h
  · exact hS.2.2.1.2 k (q, e) h
  · exact hA q (Nat.le_trans hS.2.2.2.1.1 h)
theorem am_call {p : Program} {l : Launch} {e : Env} {R : Room} {s : State} {m : MethodId} {args : Array Value} {below : List Frame} {meth : Method} {c : Code} {Q : State → Prop} {tc : Nat → ClassId} {D : va_G} {A : Nat → Prop} {r : Nat → Nat} {H : Heap} {locs : List Loc} {cells slots : Nat} {sl : Array Slot} {st0 rest : List Value} {a : Array Value}
    (hr : va_Run p l e R s m args below meth c H locs cells slots bc1 bs1 (F0 m pc sl st0) rest (am_Q tc D r w.length F1 (va_A (am_cw tc r w) H.size) a) (va_A (am_cw tc r w) H.size)) (hS : am_Sm sc tc D A s r w H locs) (hA : ∀ q, s.heap.size ≤ q → A q)
    (kk : ∀ (v : Option Value) (w1 : am_W) (r1 : Nat → Nat) (H1 : Heap) (locs1 : List Loc), F1 v w1 → am_Sm sc tc D A s r1 w1 H1 locs1 → (∀ a, a ≤ w.length → r1 a = r a) → w.length ≤ w1.length → am_wo w1.length v → W p l e R s m args below meth c H1 locs1 (cells + bc1) (slots + bs1) Q (F0 m (pc + 3) sl ((v.map (am_cv r1)).toList ++ rest))) :
    W p l e R s m args below meth c H locs cells slots Q (F0 m pc sl st0) := by
  intro T hT X
  obtain ⟨v, st₀, t, T', L, h0, X', hL, e1, e2, ⟨⟨v1, w1, r1, hv, hF, hw1, hx, hle, hwo, hP1, hD1⟩, hz, hk⟩, st2⟩ := hr T hT X
  cases hv
  have hf := am_free hS hA
  rw [h0] at hz hk
  have hS1 : va_S A s.heap T'.heap (locs ++ L) := ⟨Nat.le_trans hS.2.2.2.1.1 (by rw [e1]; exact hz), fun q g1 g2 => by rw [e1, hk q (Nat.lt_of_lt_of_le g1 hS.2.2.2.1.1) (fun z => g2 (hf q z))]; exact hS.2.2.2.1.2.1 q g1 g2, fun q hq => by
    rcases List.mem_append.mp hq with h | h
    · exact hS.2.2.2.1.2.2 q h
    · exact hf _ (hL q h)⟩
  obtain ⟨t2, a1, b1⟩ := kk v1 w1 r1 T'.heap (locs ++ L) hF ⟨hw1, by rw [e1]; exact hP1, hD1.weaken (fun _ _ _ h => hf _ h), hS1, am_X_ext (hx 0 (Nat.zero_le _)) hS.2.2.2.2⟩ hx hle hwo T' rfl X'
  exact ⟨t2, st2 t2 a1, b1⟩
theorem am_cat (r : Nat → Nat) (st : List Value) : ((st.map (am_cv r)).map fun v => v.category) = st.map fun v => v.category := by
  rw [List.map_map]; apply List.map_congr_left; intro v _; exact am_cv_cat r v
theorem am_blind {tc : Nat → ClassId} {D : va_G} {r : Nat → Nat} {sz : Nat} {av : List Value} : FrameBlind (va_Pc av (am_Pre tc D r w sz)) := fun a U g mk q => by
  obtain ⟨q0, q1, qP, qK, qD, qN⟩ := q
  exact ⟨q0, q1, qP, va_K.moved (u := U) (U := U.calling g mk a) (Vm.Alike.refl U.vm) qK, qD, fun x hx => am_Nw_same (u := U) (U := U.calling g mk a) (List.mem_filter.mp hx).2 rfl (qN x hx)⟩
theorem am_pre {tc : Nat → ClassId} {D : va_G} {A : Nat → Prop} {p : Program} {R : Room} {s : State} {m : MethodId} {args : Array Value} {meth : Method} {c : Code} {r : Nat → Nat} {H : Heap} {locs : List Loc} {av : List Value} (C0 : am_Cx M d tc D A p R s m args meth c) (hS : am_Sm sc tc D A s r w H locs) : ∀ U : State, U.heap = H → s.WarmedH U.vm → va_Pc av (am_Pre tc D r w H.size) av.toArray U := fun U hU hW =>
  ⟨rfl, by rw [hU], by rw [hU]; exact hS.2.1, va_K.moved hW.alike C0.2.2.2.2.2.2.2.1, hS.2.2.1.weaken (fun _ _ _ _ => trivial), fun x hx => am_Nw_warm (List.mem_filter.mp hx).2 hW (C0.2.2.2.2.2.2.1 x hx)⟩
/-- what goes on behind a call -/
theorem am_back {p : Program} {l : Launch} {e : Env} {R : Room} {s : State} {m : MethodId} {args : Array Value} {below : List Frame} {meth : Method} {c : Code} {Q : State → Prop} {tc : Nat → ClassId} {D : va_G} {A : Nat → Prop} {r : Nat → Nat} {cells slots mc ms : Nat} {sl : Array Slot}
    (k : ∀ v w1, F1 v w1 → am_Wp sc M d bc bs (pc + 3) ls (v.toList ++ st) w1 F) (C0 : am_Cx M d tc D A p R s m args meth c) (hl : lv_has sl M.2.2.1 (am_cl r ls)) (wl : am_wl w.length ls) (ws : am_ws w.length st) (h1 : cells + (bc + bc1) ≤ mc) (h2 : slots + (bs + bs1) ≤ ms) (h3 : mc ≤ R.cells) (h4 : ms ≤ R.slots) (hE : am_End sc M p l e R s m args below meth c Q tc D A mc ms r w.length F) :
    ∀ (v : Option Value) (w1 : am_W) (r1 : Nat → Nat) (H1 : Heap) (locs1 : List Loc), F1 v w1 → am_Sm sc tc D A s r1 w1 H1 locs1 → (∀ a, a ≤ w.length → r1 a = r a) → w.length ≤ w1.length → am_wo w1.length v → W p l e R s m args below meth c H1 locs1 (cells + bc1) (slots + bs1) Q (F0 m (pc + 3) sl ((v.map (am_cv r1)).toList ++ st.map (am_cv r))) := by
  intro v w1 r1 H1 locs1 hF hS hx hle hwo
  have hst : am_ws w1.length (v.toList ++ st) := by
    cases v with
    | none => exact am_ws_mono hle ws
    | some x => exact ⟨hwo x rfl, am_ws_mono hle ws⟩
  have k9 := k v w1 hF p l e R s m args below meth c Q tc D A C0 r1 H1 locs1 (cells + bc1) (slots + bs1) mc ms sl hS (by rw [am_cl_ext hx wl]; exact hl) (am_wl_mono hle wl) hst (by omega) (by omega) h3 h4 (am_End_up hx hle hE)
  have e9 : (v.toList ++ st).map (am_cv r1) = (v.map (am_cv r1)).toList ++ st.map (am_cv r) := by
    rw [List.map_append, am_cs_ext hx ws]
    cases v <;> rfl
  rw [e9] at k9
  exact k9
theorem am_args {r : Nat → Nat} {st0 : List Value} {a : Nat} (hst : st0 = as.reverse ++ .ref a :: st) : st0.map (am_cv r) = (as.map (am_cv r)).reverse ++ .ref (r (a + 1)) :: st.map (am_cv r) := by
  rw [hst, List.map_append, List.map_reverse]; rfl
theorem am_argsS {r : Nat → Nat} {st0 : List Value} (hst : st0 = as.reverse ++ st) : st0.map (am_cv r) = (as.map (am_cv r)).reverse ++ st.map (am_cv r) := by
  rw [hst, List.map_append, List.map_reverse]
theorem am_args_ws {n a : Nat} {st0 : List Value} (hst : st0 = as.reverse ++ .ref a :: st) (h : am_ws n st0) : am_ws n (.ref a :: as) ∧ am_ws n st := by
  subst hst
  exact ⟨⟨(am_ws_r h).1, am_ws_rev (am_ws_l h)⟩, (am_ws_r h).2⟩
theorem am_argsS_ws {n : Nat} {st0 : List Value} (hst : st0 = as.reverse ++ st) (h : am_ws n st0) : am_ws n as ∧ am_ws n st := by
  subst hst
  exact ⟨am_ws_rev (am_ws_l h), am_ws_r h⟩
theorem wp_callV {n a ix ci d1 : Nat} {fs : List Value} {T : u_T} {N : Nat} {st0 : List Value} (hd : decode M.2.1 pc = .ok (.invokevirtual ix, 3)) (hq : pc + 3 = q) (hB : am_Bd M1 n) (hlink : Cond.methodLink M.1.cls ix M1.1 ∈ lw_tbl) (hin : Cond.instanceMethod M1.1 ∈ lw_tbl) (hsel : Cond.selects M1.1.cls M1.1 M1.1 ∈ lw_tbl) (hci : vwCl[ci]? = some (M1.1.cls, T, N)) 
    (hn : as.length = n) (hst : st0 = as.reverse ++ .ref a :: st) (hrm : (st.map fun v => v.category).sum ≤ 8) (hlen : (lg_sl (.ref a :: as)).length ≤ M1.2.2.1) (hc : w[a]? = some (.inr (ci, fs)))
    (hdd : d1 + 1 ≤ d) (h : am_Wp none M1 d1 bc1 bs1 0 (lv_args 0 (.ref a :: as)) [] w F1) (k : ∀ v w1, F1 v w1 → am_Wp sc M d bc bs q ls (v.toList ++ st) w1 F) : am_Wp sc M d (bc + bc1) (bs + bs1) pc ls st0 w F := by
  subst hq
  intro p l e R s m args below meth c Q tc D A C0 r H locs cells slots mc ms sl hS hl wl ws h1 h2 h3 h4 hE
  obtain ⟨wa, wst⟩ := am_args_ws hst ws
  have ht := C0.2.2.2.2.2.1
  have hfr := C0.2.2.2.2.2.2.2.2.2.2.2
  have hm := am_met hB hlen h l tc D r H.size hS.1 wa
  rw [am_args (r := r) hst]
  have hgc : Cond.code M1.1 M1.2.1 M1.2.2.1 M1.2.2.2 ∈ am_good := am_in hB.2.1 rfl
  refine am_call (F1 := F1) (va_runV (C := M1.1.cls) (As := as.map (am_cv r)) (rest := st.map (am_cv r)) (b := r (a + 1)) (n := n) ⟨C0.1, C0.2.1, C0.2.2.2.1, C0.2.2.2.2.1, ht⟩ hm
    ⟨callB_of (ws' := am_good) n ht (am_goodC hgc) rfl rfl rfl (ht _ (am_in hB.2.2.1 rfl)) (ht _ (am_in hlink rfl)) hB.2.2.2.1 ⟨by show d1 + 1 ≤ R.frames; omega, by have := hB.2.2.2.2; show 8 + (M1.2.2.1 + 11) + d1 * 64 ≤ R.locals; omega⟩, ht _ (am_in hin rfl), ht _ (am_in hsel rfl)⟩
    ⟨am_blind, va_recv C0.2.2.2.2.2.2.2.1 hS.2.1 hci (am_cw_at hc), am_pre C0 hS⟩ rfl (by rw [List.length_map]; exact hn) hl.1 rfl (lv_room (by rw [am_cat]; exact hrm)) hd ⟨by omega, by omega⟩) hS C0.2.2.2.2.2.2.2.2.2.2.1 (am_back k C0 hl wl wst h1 h2 h3 h4 hE)
theorem wp_callVN {n a ix ci d1 : Nat} {host : String} {fs : List Value} {T : u_T} {N : Nat} {st0 : List Value} (hd : decode M.2.1 pc = .ok (.invokevirtual ix, 3)) (hq : pc + 3 = q) (hB : am_Bd M1 n) (hlink : Cond.methodLinkNest M.1.cls ix M1.1 host ∈ lw_tbl) (hin : Cond.instanceMethod M1.1 ∈ lw_tbl) (hsel : Cond.selects M1.1.cls M1.1 M1.1 ∈ lw_tbl) (hci : vwCl[ci]? = some (M1.1.cls, T, N)) 
    (hn : as.length = n) (hst : st0 = as.reverse ++ .ref a :: st) (hrm : (st.map fun v => v.category).sum ≤ 8) (hlen : (lg_sl (.ref a :: as)).length ≤ M1.2.2.1) (hc : w[a]? = some (.inr (ci, fs)))
    (hdd : d1 + 1 ≤ d) (h : am_Wp none M1 d1 bc1 bs1 0 (lv_args 0 (.ref a :: as)) [] w F1) (k : ∀ v w1, F1 v w1 → am_Wp sc M d bc bs q ls (v.toList ++ st) w1 F) : am_Wp sc M d (bc + bc1) (bs + bs1) pc ls st0 w F := by
  subst hq
  intro p l e R s m args below meth c Q tc D A C0 r H locs cells slots mc ms sl hS hl wl ws h1 h2 h3 h4 hE
  obtain ⟨wa, wst⟩ := am_args_ws hst ws
  have ht := C0.2.2.2.2.2.1
  have hfr := C0.2.2.2.2.2.2.2.2.2.2.2
  have hm := am_met hB hlen h l tc D r H.size hS.1 wa
  rw [am_args (r := r) hst]
  have hgc : Cond.code M1.1 M1.2.1 M1.2.2.1 M1.2.2.2 ∈ am_good := am_in hB.2.1 rfl
  refine am_call (F1 := F1) (va_runVN (C := M1.1.cls) (As := as.map (am_cv r)) (rest := st.map (am_cv r)) (b := r (a + 1)) (n := n) ⟨C0.1, C0.2.1, C0.2.2.2.1, C0.2.2.2.2.1, ht⟩ hm
    ⟨va_cnB (ws' := am_good) n ht (am_goodC hgc) rfl rfl rfl (C0.2.2.2.2.2.2.1 _ (am_inN hlink rfl)) (ht _ (am_in hB.2.2.1 rfl)) hB.2.2.2.1 ⟨by show d1 + 1 ≤ R.frames; omega, by have := hB.2.2.2.2; show 8 + (M1.2.2.1 + 11) + d1 * 64 ≤ R.locals; omega⟩, ht _ (am_in hin rfl), ht _ (am_in hsel rfl)⟩
    ⟨am_blind, va_recv C0.2.2.2.2.2.2.2.1 hS.2.1 hci (am_cw_at hc), am_pre C0 hS⟩ rfl (by rw [List.length_map]; exact hn) hl.1 rfl (lv_room (by rw [am_cat]; exact hrm)) hd ⟨by omega, by omega⟩) hS C0.2.2.2.2.2.2.2.2.2.2.1 (am_back k C0 hl wl wst h1 h2 h3 h4 hE)
theorem wp_callS {n ix d1 : Nat} {st0 : List Value} (hd : decode M.2.1 pc = .ok (.invokestatic ix, 3)) (hq : pc + 3 = q) (hB : am_Bd M1 n) (hlink : Cond.methodLink M.1.cls ix M1.1 ∈ lw_tbl) (hsta : Cond.static M1.1 ∈ lw_tbl) 
    (hn : as.length = n) (hst : st0 = as.reverse ++ st) (hrm : (st.map fun v => v.category).sum ≤ 8) (hlen : (lg_sl as).length ≤ M1.2.2.1)
    (hdd : d1 + 1 ≤ d) (h : am_Wp none M1 d1 bc1 bs1 0 (lv_args 0 as) [] w F1) (k : ∀ v w1, F1 v w1 → am_Wp sc M d bc bs q ls (v.toList ++ st) w1 F) : am_Wp sc M d (bc + bc1) (bs + bs1) pc ls st0 w F := by
  subst hq
  intro p l e R s m args below meth c Q tc D A C0 r H locs cells slots mc ms sl hS hl wl ws h1 h2 h3 h4 hE
  obtain ⟨wa, wst⟩ := am_argsS_ws hst ws
  have ht := C0.2.2.2.2.2.1
  have hfr := C0.2.2.2.2.2.2.2.2.2.2.2
  have hm := am_met hB hlen h l tc D r H.size hS.1 wa
  rw [am_argsS (r := r) hst]
  have hgc : Cond.code M1.1 M1.2.1 M1.2.2.1 M1.2.2.2 ∈ am_good := am_in hB.2.1 rfl
  refine am_call (F1 := F1) (va_runS (As := as.map (am_cv r)) (rest := st.map (am_cv r)) (n := n) ⟨C0.1, C0.2.1, C0.2.2.2.1, C0.2.2.2.2.1, ht⟩ hm
    ⟨callB_of (ws' := am_good) n ht (am_goodC hgc) rfl rfl rfl (ht _ (am_in hB.2.2.1 rfl)) (ht _ (am_in hlink rfl)) hB.2.2.2.1 ⟨by show d1 + 1 ≤ R.frames; omega, by have := hB.2.2.2.2; show 8 + (M1.2.2.1 + 11) + d1 * 64 ≤ R.locals; omega⟩, ht _ (am_in hsta rfl)⟩
    ⟨am_blind, am_pre C0 hS⟩ rfl (by rw [List.length_map]; exact hn) hl.1 rfl (lv_room (by rw [am_cat]; exact hrm)) hd ⟨by omega, by omega⟩) hS C0.2.2.2.2.2.2.2.2.2.2.1 (am_back k C0 hl wl wst h1 h2 h3 h4 hE)
theorem wp_callSN {n ix d1 : Nat} {host : String} {st0 : List Value} (hd : decode M.2.1 pc = .ok (.invokestatic ix, 3)) (hq : pc + 3 = q) (hB : am_Bd M1 n) (hlink : Cond.methodLinkNest M.1.cls ix M1.1 host ∈ lw_tbl) (hsta : Cond.static M1.1 ∈ lw_tbl) 
    (hn : as.length = n) (hst : st0 = as.reverse ++ st) (hrm : (st.map fun v => v.category).sum ≤ 8) (hlen : (lg_sl as).length ≤ M1.2.2.1)
    (hdd : d1 + 1 ≤ d) (h : am_Wp none M1 d1 bc1 bs1 0 (lv_args 0 as) [] w F1) (k : ∀ v w1, F1 v w1 → am_Wp sc M d bc bs q ls (v.toList ++ st) w1 F) : am_Wp sc M d (bc + bc1) (bs + bs1) pc ls st0 w F := by
  subst hq
  intro p l e R s m args below meth c Q tc D A C0 r H locs cells slots mc ms sl hS hl wl ws h1 h2 h3 h4 hE
  obtain ⟨wa, wst⟩ := am_argsS_ws hst ws
  have ht := C0.2.2.2.2.2.1
  have hfr := C0.2.2.2.2.2.2.2.2.2.2.2
  have hm := am_met hB hlen h l tc D r H.size hS.1 wa
  rw [am_argsS (r := r) hst]
  have hgc : Cond.code M1.1 M1.2.1 M1.2.2.1 M1.2.2.2 ∈ am_good := am_in hB.2.1 rfl
  refine am_call (F1 := F1) (va_runSN (As := as.map (am_cv r)) (rest := st.map (am_cv r)) (n := n) ⟨C0.1, C0.2.1, C0.2.2.2.1, C0.2.2.2.2.1, ht⟩ hm
    ⟨va_cnB (ws' := am_good) n ht (am_goodC hgc) rfl rfl rfl (C0.2.2.2.2.2.2.1 _ (am_inN hlink rfl)) (ht _ (am_in hB.2.2.1 rfl)) hB.2.2.2.1 ⟨by show d1 + 1 ≤ R.frames; omega, by have := hB.2.2.2.2; show 8 + (M1.2.2.1 + 11) + d1 * 64 ≤ R.locals; omega⟩, ht _ (am_in hsta rfl), trivial⟩
    ⟨am_blind, am_pre C0 hS⟩ rfl (by rw [List.length_map]; exact hn) hl.1 rfl (lv_room (by rw [am_cat]; exact hrm)) hd ⟨by omega, by omega⟩) hS C0.2.2.2.2.2.2.2.2.2.2.1 (am_back k C0 hl wl wst h1 h2 h3 h4 hE)
theorem wp_callI {n a ix d1 : Nat} {st0 : List Value} (hd : decode M.2.1 pc = .ok (.invokespecial ix, 3)) (hq : pc + 3 = q) (hB : am_Bd M1 n) (hret : M1.2.2.2 = none) (hnm : M1.1.name = "<init>") (hlink : Cond.methodLink M.1.cls ix M1.1 ∈ lw_tbl) (hin : Cond.instanceMethod M1.1 ∈ lw_tbl) 
    (hn : as.length = n) (hst : st0 = as.reverse ++ .ref a :: st) (hrm : (st.map fun v => v.category).sum ≤ 8) (hlen : (lg_sl (.ref a :: as)).length ≤ M1.2.2.1)
    (hdd : d1 + 1 ≤ d) (h : am_Wp none M1 d1 bc1 bs1 0 (lv_args 0 (.ref a :: as)) [] w F1) (k : ∀ v w1, F1 v w1 → am_Wp sc M d bc bs q ls (v.toList ++ st) w1 F) : am_Wp sc M d (bc + bc1) (bs + bs1) pc ls st0 w F := by
  subst hq
  intro p l e R s m args below meth c Q tc D A C0 r H locs cells slots mc ms sl hS hl wl ws h1 h2 h3 h4 hE
  obtain ⟨wa, wst⟩ := am_args_ws hst ws
  have ht := C0.2.2.2.2.2.1
  have hfr := C0.2.2.2.2.2.2.2.2.2.2.2
  have hm := am_met hB hlen h l tc D r H.size hS.1 wa
  rw [am_args (r := r) hst]
  have hcode := hB.2.1
  rw [hret] at hm hcode
  have hgc : Cond.code M1.1 M1.2.1 M1.2.2.1 none ∈ am_good := am_in hcode rfl
  refine am_call (F1 := F1) (va_runI (As := as.map (am_cv r)) (rest := st.map (am_cv r)) (b := r (a + 1)) (n := n) ⟨C0.1, C0.2.1, C0.2.2.2.1, C0.2.2.2.2.1, ht⟩ hm
    ⟨callB_of (ws' := am_good) n ht (am_goodC hgc) rfl rfl rfl (ht _ (am_in hB.2.2.1 rfl)) (ht _ (am_in hlink rfl)) hB.2.2.2.1 ⟨by show d1 + 1 ≤ R.frames; omega, by have := hB.2.2.2.2; show 8 + (M1.2.2.1 + 11) + d1 * 64 ≤ R.locals; omega⟩, hnm, ht _ (am_in hin rfl)⟩
    ⟨am_blind, am_pre C0 hS⟩ rfl (by rw [List.length_map]; exact hn) hl.1 rfl (lv_room (by rw [am_cat]; exact hrm)) hd ⟨by omega, by omega⟩) hS C0.2.2.2.2.2.2.2.2.2.2.1 (am_back k C0 hl wl wst h1 h2 h3 h4 hE)
theorem wp_callIN {n a ix d1 : Nat} {host : String} {st0 : List Value} (hd : decode M.2.1 pc = .ok (.invokespecial ix, 3)) (hq : pc + 3 = q) (hB : am_Bd M1 n) (hret : M1.2.2.2 = none) (hnm : M1.1.name = "<init>") (hlink : Cond.methodLinkNest M.1.cls ix M1.1 host ∈ lw_tbl) (hin : Cond.instanceMethod M1.1 ∈ lw_tbl) 
    (hn : as.length = n) (hst : st0 = as.reverse ++ .ref a :: st) (hrm : (st.map fun v => v.category).sum ≤ 8) (hlen : (lg_sl (.ref a :: as)).length ≤ M1.2.2.1)
    (hdd : d1 + 1 ≤ d) (h : am_Wp none M1 d1 bc1 bs1 0 (lv_args 0 (.ref a :: as)) [] w F1) (k : ∀ v w1, F1 v w1 → am_Wp sc M d bc bs q ls (v.toList ++ st) w1 F) : am_Wp sc M d (bc + bc1) (bs + bs1) pc ls st0 w F := by
  subst hq
  intro p l e R s m args below meth c Q tc D A C0 r H locs cells slots mc ms sl hS hl wl ws h1 h2 h3 h4 hE
  obtain ⟨wa, wst⟩ := am_args_ws hst ws
  have ht := C0.2.2.2.2.2.1
  have hfr := C0.2.2.2.2.2.2.2.2.2.2.2
  have hm := am_met hB hlen h l tc D r H.size hS.1 wa
  rw [am_args (r := r) hst]
  have hcode := hB.2.1
  rw [hret] at hm hcode
  have hgc : Cond.code M1.1 M1.2.1 M1.2.2.1 none ∈ am_good := am_in hcode rfl
  refine am_call (F1 := F1) (va_runIN (As := as.map (am_cv r)) (rest := st.map (am_cv r)) (b := r (a + 1)) (n := n) ⟨C0.1, C0.2.1, C0.2.2.2.1, C0.2.2.2.2.1, ht⟩ hm
    ⟨va_cnB (ws' := am_good) n ht (am_goodC hgc) rfl rfl rfl (C0.2.2.2.2.2.2.1 _ (am_inN hlink rfl)) (ht _ (am_in hB.2.2.1 rfl)) hB.2.2.2.1 ⟨by show d1 + 1 ≤ R.frames; omega, by have := hB.2.2.2.2; show 8 + (M1.2.2.1 + 11) + d1 * 64 ≤ R.locals; omega⟩, hnm, ht _ (am_in hin rfl)⟩
    ⟨am_blind, am_pre C0 hS⟩ rfl (by rw [List.length_map]; exact hn) hl.1 rfl (lv_room (by rw [am_cat]; exact hrm)) hd ⟨by omega, by omega⟩) hS C0.2.2.2.2.2.2.2.2.2.2.1 (am_back k C0 hl wl wst h1 h2 h3 h4 hE)
/-- System.arraycopy between two rows of ints -/
theorem wp_copyi {a b n0 n1 ix : Nat} {f g : Nat → Int32} {sp dp n : Int32} {w' : am_W} (hd : decode M.2.1 pc = .ok (.invokestatic ix, 3)) (hq : pc + 3 = q) (hlink : Cond.methodLink M.1.cls ix arraycopyName ∈ lw_tbl) (hnat : Cond.native arraycopyName ∈ lw_tbl) (hsta : Cond.static arraycopyName ∈ lw_tbl) (hini : Cond.initialized "java/lang/System" ∈ lw_tbl) 
    (hc0 : w[a]? = some (.inl (0, n0, .inl f))) (hc1 : w[b]? = some (.inl (0, n1, .inl g))) (g1 : ¬ sp < 0) (g2 : ¬ dp < 0) (g3 : ¬ n < 0) (g4 : sp.toNatClampNeg + n.toNatClampNeg ≤ n0) (g5 : dp.toNatClampNeg + n.toNatClampNeg ≤ n1) (hrm : (st.map fun v => v.category).sum ≤ 8) (hdd : 1 ≤ d)
    (hw : w.set b (.inl (0, n1, .inl (va_cpy f g sp.toNatClampNeg dp.toNatClampNeg n.toNatClampNeg))) = w') (k : am_Wp sc M d bc bs q ls st w' F) : am_Wp sc M d bc bs pc ls (.int n :: .int dp :: .ref b :: .int sp :: .ref a :: st) w F := by
  subst hq
  subst hw
  intro p l e R s m args below meth c Q tc D A C0 r H locs cells slots mc ms sl hS hl wl ws h1 h2 h3 h4 hE
  have ht := C0.2.2.2.2.2.1
  have hfr := C0.2.2.2.2.2.2.2.2.2.2.2
  have hnw : nativeFrameWords "java/lang/System" "arraycopy" 5 ≤ 40 := by decide +kernel
  refine va_copyi C0.1 C0.2.1 (by rw [C0.2.2.2.1]; exact hl.1.symm) C0.2.2.2.2.1 (ht _ (am_in hlink rfl)) (ht _ (am_in hnat rfl)) (ht _ (am_in hsta rfl)) (ht _ (am_in hini rfl)) C0.2.2.2.2.2.2.2.1 hS.2.1 hS.2.2.1 hS.2.2.2.1 a b 0 0 (am_cw_at hc0) (am_cw_at hc1) (am_tys0 tc) (am_tys0 tc) rfl g1 g2 g3 g4 g5 (fun i hi => rfl) (by omega) (by rw [am_cat]; omega) hd (fun H1 locs1 hP hD hS1 => ?_)
  exact k p l e R s m args below meth c Q tc D A C0 r H1 locs1 cells slots mc ms sl (am_Sm_set hS trivial hP hD hS1) hl (by rw [List.length_set]; exact wl) (by rw [List.length_set]; exact ws.2.2.2.2.2) h1 h2 h3 h4 (by rw [List.length_set]; exact hE)
/-- just this answer, just this world -/
def am_R (v : Option Value) (w : am_W) : Option Value → am_W → Prop := fun v1 w1 => v1 = v ∧ w1 = w
theorem wp_cVr {n a ix ci d1 : Nat} {fs : List Value} {T : u_T} {N : Nat} {st0 : List Value} {w' : am_W} {x : Value} (hd : decode M.2.1 pc = .ok (.invokevirtual ix, 3)) (hq : pc + 3 = q) (hB : am_Bd M1 n) (hlink : Cond.methodLink M.1.cls ix M1.1 ∈ lw_tbl) (hin : Cond.instanceMethod M1.1 ∈ lw_tbl) (hsel : Cond.selects M1.1.cls M1.1 M1.1 ∈ lw_tbl) (hci : vwCl[ci]? = some (M1.1.cls, T, N)) (hn : as.length = n) (hst : st0 = as.reverse ++ (.ref a :: st)) (hrm : (st.map fun v => v.category).sum ≤ 8) (hlen : (lg_sl (.ref a :: as)).length ≤ M1.2.2.1) (hc : w[a]? = some (.inr (ci, fs))) (hdd : d1 + 1 ≤ d) (h : am_Wp none M1 d1 0 0 0 (lv_args 0 (.ref a :: as)) [] w (am_R (some x) w')) (k : am_Wp sc M d bc bs q ls (x :: st) w' F) : am_Wp sc M d bc bs pc ls st0 w F :=
  wp_callV (bc1 := 0) (bs1 := 0) hd hq hB hlink hin hsel hci hn hst hrm hlen hc hdd h (fun v w1 e => by obtain ⟨rfl, rfl⟩ := e; exact k)
theorem wp_cVv {n a ix ci d1 : Nat} {fs : List Value} {T : u_T} {N : Nat} {st0 : List Value} {w' : am_W} (hd : decode M.2.1 pc = .ok (.invokevirtual ix, 3)) (hq : pc + 3 = q) (hB : am_Bd M1 n) (hlink : Cond.methodLink M.1.cls ix M1.1 ∈ lw_tbl) (hin : Cond.instanceMethod M1.1 ∈ lw_tbl) (hsel : Cond.selects M1.1.cls M1.1 M1.1 ∈ lw_tbl) (hci : vwCl[ci]? = some (M1.1.cls, T, N)) (hn : as.length = n) (hst : st0 = as.reverse ++ (.ref a :: st)) (hrm : (st.map fun v => v.category).sum ≤ 8) (hlen : (lg_sl (.ref a :: as)).length ≤ M1.2.2.1) (hc : w[a]? = some (.inr (ci, fs))) (hdd : d1 + 1 ≤ d) (h : am_Wp none M1 d1 0 0 0 (lv_args 0 (.ref a :: as)) [] w (am_R (none) w')) (k : am_Wp sc M d bc bs q ls st w' F) : am_Wp sc M d bc bs pc ls st0 w F :=
  wp_callV (bc1 := 0) (bs1 := 0) hd hq hB hlink hin hsel hci hn hst hrm hlen hc hdd h (fun v w1 e => by obtain ⟨rfl, rfl⟩ := e; exact k)
theorem wp_cVNr {n a ix ci d1 : Nat} {host : String} {fs : List Value} {T : u_T} {N : Nat} {st0 : List Value} {w' : am_W} {x : Value} (hd : decode M.2.1 pc = .ok (.invokevirtual ix, 3)) (hq : pc + 3 = q) (hB : am_Bd M1 n) (hlink : Cond.methodLinkNest M.1.cls ix M1.1 host ∈ lw_tbl) (hin : Cond.instanceMethod M1.1 ∈ lw_tbl) (hsel : Cond.selects M1.1.cls M1.1 M1.1 ∈ lw_tbl) (hci : vwCl[ci]? = some (M1.1.cls, T, N)) (hn : as.length = n) (hst : st0 = as.reverse ++ (.ref a :: st)) (hrm : (st.map fun v => v.category).sum ≤ 8) (hlen : (lg_sl (.ref a :: as)).length ≤ M1.2.2.1) (hc : w[a]? = some (.inr (ci, fs))) (hdd : d1 + 1 ≤ d) (h : am_Wp none M1 d1 0 0 0 (lv_args 0 (.ref a :: as)) [] w (am_R (some x) w')) (k : am_Wp sc M d bc bs q ls (x :: st) w' F) : am_Wp sc M d bc bs pc ls st0 w F :=
  wp_callVN (bc1 := 0) (bs1 := 0) hd hq hB hlink hin hsel hci hn hst hrm hlen hc hdd h (fun v w1 e => by obtain ⟨rfl, rfl⟩ := e; exact k)
theorem wp_cVNv {n a ix ci d1 : Nat} {host : String} {fs : List Value} {T : u_T} {N : Nat} {st0 : List Value} {w' : am_W} (hd : decode M.2.1 pc = .ok (.invokevirtual ix, 3)) (hq : pc + 3 = q) (hB : am_Bd M1 n) (hlink : Cond.methodLinkNest M.1.cls ix M1.1 host ∈ lw_tbl) (hin : Cond.instanceMethod M1.1 ∈ lw_tbl) (hsel : Cond.selects M1.1.cls M1.1 M1.1 ∈ lw_tbl) (hci : vwCl[ci]? = some (M1.1.cls, T, N)) (hn : as.length = n) (hst : st0 = as.reverse ++ (.ref a :: st)) (hrm : (st.map fun v => v.category).sum ≤ 8) (hlen : (lg_sl (.ref a :: as)).length ≤ M1.2.2.1) (hc : w[a]? = some (.inr (ci, fs))) (hdd : d1 + 1 ≤ d) (h : am_Wp none M1 d1 0 0 0 (lv_args 0 (.ref a :: as)) [] w (am_R (none) w')) (k : am_Wp sc M d bc bs q ls st w' F) : am_Wp sc M d bc bs pc ls st0 w F :=
  wp_callVN (bc1 := 0) (bs1 := 0) hd hq hB hlink hin hsel hci hn hst hrm hlen hc hdd h (fun v w1 e => by obtain ⟨rfl, rfl⟩ := e; exact k)
theorem wp_cSr {n ix d1 : Nat} {st0 : List Value} {w' : am_W} {x : Value} (hd : decode M.2.1 pc = .ok (.invokestatic ix, 3)) (hq : pc + 3 = q) (hB : am_Bd M1 n) (hlink : Cond.methodLink M.1.cls ix M1.1 ∈ lw_tbl) (hsta : Cond.static M1.1 ∈ lw_tbl) (hn : as.length = n) (hst : st0 = as.reverse ++ (st)) (hrm : (st.map fun v => v.category).sum ≤ 8) (hlen : (lg_sl (as)).length ≤ M1.2.2.1)  (hdd : d1 + 1 ≤ d) (h : am_Wp none M1 d1 0 0 0 (lv_args 0 (as)) [] w (am_R (some x) w')) (k : am_Wp sc M d bc bs q ls (x :: st) w' F) : am_Wp sc M d bc bs pc ls st0 w F :=
  wp_callS (bc1 := 0) (bs1 := 0) hd hq hB hlink hsta hn hst hrm hlen  hdd h (fun v w1 e => by obtain ⟨rfl, rfl⟩ := e; exact k)
theorem wp_cSv {n ix d1 : Nat} {st0 : List Value} {w' : am_W} (hd : decode M.2.1 pc = .ok (.invokestatic ix, 3)) (hq : pc + 3 = q) (hB : am_Bd M1 n) (hlink : Cond.methodLink M.1.cls ix M1.1 ∈ lw_tbl) (hsta : Cond.static M1.1 ∈ lw_tbl) (hn : as.length = n) (hst : st0 = as.reverse ++ (st)) (hrm : (st.map fun v => v.category).sum ≤ 8) (hlen : (lg_sl (as)).length ≤ M1.2.2.1)  (hdd : d1 + 1 ≤ d) (h : am_Wp none M1 d1 0 0 0 (lv_args 0 (as)) [] w (am_R (none) w')) (k : am_Wp sc M d bc bs q ls st w' F) : am_Wp sc M d bc bs pc ls st0 w F :=
  wp_callS (bc1 := 0) (bs1 := 0) hd hq hB hlink hsta hn hst hrm hlen  hdd h (fun v w1 e => by obtain ⟨rfl, rfl⟩ := e; exact k)
theorem wp_cSNr {n ix d1 : Nat} {host : String} {st0 : List Value} {w' : am_W} {x : Value} (hd : decode M.2.1 pc = .ok (.invokestatic ix, 3)) (hq : pc + 3 = q) (hB : am_Bd M1 n) (hlink : Cond.methodLinkNest M.1.cls ix M1.1 host ∈ lw_tbl) (hsta : Cond.static M1.1 ∈ lw_tbl) (hn : as.length = n) (hst : st0 = as.reverse ++ (st)) (hrm : (st.map fun v => v.category).sum ≤ 8) (hlen : (lg_sl (as)).length ≤ M1.2.2.1)  (hdd : d1 + 1 ≤ d) (h : am_Wp none M1 d1 0 0 0 (lv_args 0 (as)) [] w (am_R (some x) w')) (k : am_Wp sc M d bc bs q ls (x :: st) w' F) : am_Wp sc M d bc bs pc ls st0 w F :=
  wp_callSN (bc1 := 0) (bs1 := 0) hd hq hB hlink hsta hn hst hrm hlen  hdd h (fun v w1 e => by obtain ⟨rfl, rfl⟩ := e; exact k)
theorem wp_cSNv {n ix d1 : Nat} {host : String} {st0 : List Value} {w' : am_W} (hd : decode M.2.1 pc = .ok (.invokestatic ix, 3)) (hq : pc + 3 = q) (hB : am_Bd M1 n) (hlink : Cond.methodLinkNest M.1.cls ix M1.1 host ∈ lw_tbl) (hsta : Cond.static M1.1 ∈ lw_tbl) (hn : as.length = n) (hst : st0 = as.reverse ++ (st)) (hrm : (st.map fun v => v.category).sum ≤ 8) (hlen : (lg_sl (as)).length ≤ M1.2.2.1)  (hdd : d1 + 1 ≤ d) (h : am_Wp none M1 d1 0 0 0 (lv_args 0 (as)) [] w (am_R (none) w')) (k : am_Wp sc M d bc bs q ls st w' F) : am_Wp sc M d bc bs pc ls st0 w F :=
  wp_callSN (bc1 := 0) (bs1 := 0) hd hq hB hlink hsta hn hst hrm hlen  hdd h (fun v w1 e => by obtain ⟨rfl, rfl⟩ := e; exact k)
end CallRules
