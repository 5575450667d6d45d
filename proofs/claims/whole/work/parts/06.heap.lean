/-! FIELDS, NEW CELLS, CALLS -/
/-- what is known of a sort of objects: its place in vwCl, its words, its fields' types -/
def am_Ok (ci : Nat) (C : String) (T : u_T) (N : Nat) (ty : Nat → FieldType) : Prop :=
  vwCl[ci]? = some (C, T, N) ∧ (∀ w ∈ u_ws C T N, w ∈ am_good) ∧ (∀ k, k < N → parseFieldDescriptor (T k).2.2.1 = some (ty k)) ∧ (∀ a, a < N → ∀ b, b < N → a ≠ b → (T a).2.1 ≠ (T b).2.1)
section HeapRules
variable {sc : am_S} {M : am_M} {d bc bs pc q : Nat} {ls : am_L} {st : List Value} {w : am_W} {F : Option Value → am_W → Prop}
variable {ci : Nat} {C : String} {T : u_T} {N : Nat} {ty : Nat → FieldType}
theorem am_fs_at {fs : List Value} {k : Nat} {v : Value} {r : Nat → Nat} (h : fs[k]? = some v) : (fs.map (am_cv r))[k]? = some (am_cv r v) := by
  rw [List.getElem?_map, h]; rfl
theorem am_ws_at {n : Nat} {fs : List Value} {k : Nat} {v : Value} (hw : am_ws n fs) (h : fs[k]? = some v) : am_wv n v := am_ws_mem hw (List.mem_of_getElem? h)
theorem am_ws_set {n : Nat} {v : Value} (hv : am_wv n v) : ∀ {fs : List Value} {k : Nat}, am_ws n fs → am_ws n (fs.set k v)
  | [], _, _ => trivial
  | _ :: _, 0, h => ⟨hv, h.2⟩
  | _ :: _, _ + 1, h => ⟨h.1, am_ws_set hv h.2⟩
theorem wp_get {a k ix : Nat} {fs : List Value} {v : Value} (hd : decode M.2.1 pc = .ok (.getfield ix, 3)) (hq : pc + 3 = q) (hO : am_Ok ci C T N ty) (hk : k < N) (hlink : Cond.fieldLink M.1.cls ix (T k).1 (T k).2.1 (T k).2.2.1 ∈ lw_tbl) (hc : w[a]? = some (.inr (ci, fs))) (hv : fs[k]? = some v) (kk : am_Wp sc M d bc bs q ls (v :: st) w F) : am_Wp sc M d bc bs pc ls (.ref a :: st) w F := by
  subst hq
  intro p l e R s m args below meth c Q tc D A C0 r H locs cells slots mc ms sl hS hl wl ws h1 h2 h3 h4 hE
  exact va_get C0.1 C0.2.1 C0.2.2.2.2.2.1 hO.2.1 C0.2.2.2.2.1 C0.2.2.2.2.2.2.2.1 hS.2.1 a (am_cw_at hc) hO.1 k hk (C0.2.2.2.2.2.1 _ (am_in hlink rfl)) (fun _ h9 => h9) (am_fs_at hv) hd (kk p l e R s m args below meth c Q tc D A C0 r H locs cells slots mc ms sl hS hl wl ⟨am_ws_at (hS.1 a _ hc) hv, ws.2⟩ h1 h2 h3 h4 hE)
theorem wp_getN {a k ix : Nat} {host : String} {fs : List Value} {v : Value} (hd : decode M.2.1 pc = .ok (.getfield ix, 3)) (hq : pc + 3 = q) (hO : am_Ok ci C T N ty) (hk : k < N) (hlink : Cond.fieldLinkNest M.1.cls ix (T k).1 (T k).2.1 (T k).2.2.1 host ∈ lw_tbl) (hc : w[a]? = some (.inr (ci, fs))) (hv : fs[k]? = some v) (kk : am_Wp sc M d bc bs q ls (v :: st) w F) : am_Wp sc M d bc bs pc ls (.ref a :: st) w F := by
  subst hq
  intro p l e R s m args below meth c Q tc D A C0 r H locs cells slots mc ms sl hS hl wl ws h1 h2 h3 h4 hE
  exact va_getN C0.1 C0.2.1 C0.2.2.2.2.2.1 hO.2.1 C0.2.2.2.2.1 C0.2.2.2.2.2.2.2.1 hS.2.1 a (am_cw_at hc) hO.1 k hk (va_Nw.use rfl (C0.2.2.2.2.2.2.1 _ (am_inN hlink rfl))) (fun _ h9 => h9) (am_fs_at hv) hd (kk p l e R s m args below meth c Q tc D A C0 r H locs cells slots mc ms sl hS hl wl ⟨am_ws_at (hS.1 a _ hc) hv, ws.2⟩ h1 h2 h3 h4 hE)
/-- what may be stored in a field of this type: a number that fits, or a reference -/
def am_fit (t : FieldType) (v : Value) : Prop := ∀ r, narrow t (am_cv r v) = am_cv r v ∧ fits t (am_cv r v) = true
theorem am_ce_set {tc : Nat → ClassId} {r : Nat → Nat} {fs : List Value} {k : Nat} {v : Value} : am_ce tc r (.inr (ci, fs.set k v)) = .inr (ci, (fs.map (am_cv r)).set k (am_cv r v)) := by
  show Sum.inr (ci, (fs.set k v).map (am_cv r)) = _
  rw [List.map_set]
theorem wp_put {a k ix : Nat} {fs : List Value} {v : Value} {w' : am_W} (hd : decode M.2.1 pc = .ok (.putfield ix, 3)) (hq : pc + 3 = q) (hO : am_Ok ci C T N ty) (hk : k < N) (hlink : Cond.fieldLink M.1.cls ix (T k).1 (T k).2.1 (T k).2.2.1 ∈ lw_tbl) (hfin : (T k).2.2.2 = false) (hfit : am_fit (ty k) v) (hc : w[a]? = some (.inr (ci, fs))) (hl9 : k < fs.length) (hw : w.set a (.inr (ci, fs.set k v)) = w') (kk : am_Wp sc M d bc bs q ls st w' F) : am_Wp sc M d bc bs pc ls (v :: .ref a :: st) w F := by
  subst hq
  subst hw
  intro p l e R s m args below meth c Q tc D A C0 r H locs cells slots mc ms sl hS hl wl ws h1 h2 h3 h4 hE
  refine va_put C0.1 C0.2.1 C0.2.2.2.2.2.1 hO.2.1 ty hO.2.2.1 hO.2.2.2 C0.2.2.2.2.1 C0.2.2.2.2.2.2.2.1 hS.2.1 hS.2.2.1 hS.2.2.2.1 a (am_cw_at hc) hO.1 k hk (C0.2.2.2.2.2.1 _ (am_in hlink rfl)) (fun _ h9 => h9) hfin (hO.2.2.1 k hk) (hfit r).1 (hfit r).2 (by rw [List.length_map]; exact hl9) hd (fun H1 locs1 hP hD hS1 => ?_)
  rw [← am_ce_set (tc := tc)] at hP hD
  exact kk p l e R s m args below meth c Q tc D A C0 r H1 locs1 cells slots mc ms sl (am_Sm_set hS (am_ws_set ws.1 (hS.1 a _ hc)) hP hD hS1) hl (by rw [List.length_set]; exact wl) (by rw [List.length_set]; exact ws.2.2) h1 h2 h3 h4 (by rw [List.length_set]; exact hE)
theorem wp_putN {a k ix : Nat} {host : String} {fs : List Value} {v : Value} {w' : am_W} (hd : decode M.2.1 pc = .ok (.putfield ix, 3)) (hq : pc + 3 = q) (hO : am_Ok ci C T N ty) (hk : k < N) (hlink : Cond.fieldLinkNest M.1.cls ix (T k).1 (T k).2.1 (T k).2.2.1 host ∈ lw_tbl) (hfin : (T k).2.2.2 = false) (hfit : am_fit (ty k) v) (hc : w[a]? = some (.inr (ci, fs))) (hl9 : k < fs.length) (hw : w.set a (.inr (ci, fs.set k v)) = w') (kk : am_Wp sc M d bc bs q ls st w' F) : am_Wp sc M d bc bs pc ls (v :: .ref a :: st) w F := by
  subst hq
  subst hw
  intro p l e R s m args below meth c Q tc D A C0 r H locs cells slots mc ms sl hS hl wl ws h1 h2 h3 h4 hE
  refine va_putN C0.1 C0.2.1 C0.2.2.2.2.2.1 hO.2.1 ty hO.2.2.1 hO.2.2.2 C0.2.2.2.2.1 C0.2.2.2.2.2.2.2.1 hS.2.1 hS.2.2.1 hS.2.2.2.1 a (am_cw_at hc) hO.1 k hk (va_Nw.use rfl (C0.2.2.2.2.2.2.1 _ (am_inN hlink rfl))) (fun _ h9 => h9) hfin (hO.2.2.1 k hk) (hfit r).1 (hfit r).2 (by rw [List.length_map]; exact hl9) hd (fun H1 locs1 hP hD hS1 => ?_)
  rw [← am_ce_set (tc := tc)] at hP hD
  exact kk p l e R s m args below meth c Q tc D A C0 r H1 locs1 cells slots mc ms sl (am_Sm_set hS (am_ws_set ws.1 (hS.1 a _ hc)) hP hD hS1) hl (by rw [List.length_set]; exact wl) (by rw [List.length_set]; exact ws.2.2) h1 h2 h3 h4 (by rw [List.length_set]; exact hE)
theorem wp_putF {a k ix : Nat} {fs : List Value} {v : Value} {w' : am_W} (hd : decode M.2.1 pc = .ok (.putfield ix, 3)) (hq : pc + 3 = q) (hO : am_Ok ci C T N ty) (hk : k < N) (hlink : Cond.fieldLink M.1.cls ix (T k).1 (T k).2.1 (T k).2.2.1 ∈ lw_tbl) (hfin : (T k).2.2.2 = true) (hnm : M.1.name = "<init>") (hdecl : (T k).1 = M.1.cls) (hfit : am_fit (ty k) v) (hc : w[a]? = some (.inr (ci, fs))) (hl9 : k < fs.length) (hw : w.set a (.inr (ci, fs.set k v)) = w') (kk : am_Wp sc M d bc bs q ls st w' F) : am_Wp sc M d bc bs pc ls (v :: .ref a :: st) w F := by
  subst hq
  subst hw
  intro p l e R s m args below meth c Q tc D A C0 r H locs cells slots mc ms sl hS hl wl ws h1 h2 h3 h4 hE
  refine va_putF C0.1 C0.2.1 C0.2.2.2.2.2.1 hO.2.1 ty hO.2.2.1 hO.2.2.2 C0.2.2.2.2.1 C0.2.2.2.2.2.2.2.1 hS.2.1 hS.2.2.1 hS.2.2.2.1 a (am_cw_at hc) hO.1 k hk (C0.2.2.2.2.2.1 _ (am_in hlink rfl)) (fun _ h9 => h9) hfin (C0.2.2.2.2.2.2.2.2.2.1.trans hnm) hdecl (hO.2.2.1 k hk) (hfit r).1 (hfit r).2 (by rw [List.length_map]; exact hl9) hd (fun H1 locs1 hP hD hS1 => ?_)
  rw [← am_ce_set (tc := tc)] at hP hD
  exact kk p l e R s m args below meth c Q tc D A C0 r H1 locs1 cells slots mc ms sl (am_Sm_set hS (am_ws_set ws.1 (hS.1 a _ hc)) hP hD hS1) hl (by rw [List.length_set]; exact wl) (by rw [List.length_set]; exact ws.2.2) h1 h2 h3 h4 (by rw [List.length_set]; exact hE)
/-- the naming, with one cell more -/
def am_up (r : Nat → Nat) (n a : Nat) : Nat → Nat := fun j => if j = n then a else r j
theorem am_up_ext {r : Nat → Nat} {n a : Nat} : ∀ j, j ≤ n → am_up r (n + 1) a j = r j := fun j hj => by
  unfold am_up; rw [if_neg (by omega)]
theorem am_up_self {r : Nat → Nat} {n a : Nat} : am_up r n a n = a := by unfold am_up; rw [if_pos rfl]
theorem am_X_ext {A : Nat → Prop} {s : State} {r r1 : Nat → Nat} (h : r1 0 = r 0) (hX : am_X sc A s r) : am_X sc A s r1 := by
  cases sc with
  | none => trivial
  | some x => show va_X (r1 0) x.1 x.2 s s.heap ∧ r1 0 < s.heap.size ∧ ¬ A (r1 0); rw [h]; exact hX
theorem am_Sm_push {tc : Nat → ClassId} {D : va_G} {A : Nat → Prop} {s : State} {r : Nat → Nat} {H H1 : Heap} {locs locs1 : List Loc} {a : Nat} {x : am_C} (hS : am_Sm sc tc D A s r w H locs) (hx : am_wc w.length x) (hP : va_P D vwCl (am_cw tc r w ++ [(a, am_ce tc r x)]) H1) (hD : va_D A (am_cw tc r w ++ [(a, am_ce tc r x)])) (hS1 : va_S A s.heap H1 locs1) : am_Sm sc tc D A s (am_up r (w.length + 1) a) (w ++ [x]) H1 locs1 := by
  have e : am_cw tc (am_up r (w.length + 1) a) (w ++ [x]) = am_cw tc r w ++ [(a, am_ce tc r x)] := by
    rw [am_cw_push, am_cw_ext am_up_ext hS.1, am_ce_ext am_up_ext hx, am_up_self]
  refine ⟨am_ww_push hS.1 hx, ?_, ?_, hS1, am_X_ext (am_up_ext 0 (Nat.zero_le _)) hS.2.2.2.2⟩
  · rw [e]; exact hP
  · rw [e]; exact hD
theorem am_End_up {M : am_M} {p : Program} {l : Launch} {e : Env} {R : Room} {s : State} {m : MethodId} {args : Array Value} {below : List Frame} {meth : Method} {c : Code} {Q : State → Prop} {tc : Nat → ClassId} {D : va_G} {A : Nat → Prop} {mc ms : Nat} {r r1 : Nat → Nat} {n n1 : Nat} (h : ∀ a, a ≤ n → r1 a = r a) (hn : n ≤ n1) (hE : am_End sc M p l e R s m args below meth c Q tc D A mc ms r n F) : am_End sc M p l e R s m args below meth c Q tc D A mc ms r1 n1 F :=
  fun v w1 r2 H1 locs1 cells1 slots1 pc1 sl1 hF hS hr hl hv hc hs ht => hE v w1 r2 H1 locs1 cells1 slots1 pc1 sl1 hF hS (fun a ha => (hr a (Nat.le_trans ha hn)).trans (h a ha)) (Nat.le_trans hn hl) hv hc hs ht
theorem wp_new {ix : Nat} {fs : List Value} (hd : decode M.2.1 pc = .ok (.new ix, 3)) (hq : pc + 3 = q) (hO : am_Ok ci C T N ty) (hlink : Cond.classLink M.1.cls ix C ∈ lw_tbl) (hinst : Cond.instantiable C N ∈ lw_tbl) (hini : Cond.initialized C ∈ lw_tbl) (hfs : ∀ j, j < N → defaultValue (ty j) = vp_V fs j) (hfw : am_ws 0 fs) (hfr : ∀ r, fs.map (am_cv r) = fs) (kk : am_Wp sc M d bc bs q ls (.ref w.length :: st) (w ++ [.inr (ci, fs)]) F) : am_Wp sc M d (bc + 1) (bs + N) pc ls st w F := by
  subst hq
  intro p l e R s m args below meth c Q tc D A C0 r H locs cells slots mc ms sl hS hl wl ws h1 h2 h3 h4 hE
  refine va_new (ci := ci) (fs := fs) C0.1 C0.2.1 C0.2.2.2.2.2.1 hO.2.1 ty hO.2.2.1 C0.2.2.2.2.1 (C0.2.2.2.2.2.1 _ (am_in hlink rfl)) (C0.2.2.2.2.2.1 _ (am_in hinst rfl)) (C0.2.2.2.2.2.1 _ (am_in hini rfl)) C0.2.2.2.2.2.2.2.1 hS.2.1 hS.2.2.1 hS.2.2.2.1 C0.2.2.2.2.2.2.2.2.2.2.1 hO.1 hfs (by omega) (by omega) hd (fun a H1 hP hD hS1 => ?_)
  have hfs' : am_wc w.length (.inr (ci, fs)) := am_ws_mono (Nat.zero_le _) hfw
  have ee : (Sum.inr (ci, fs) : va_E) = am_ce tc r (.inr (ci, fs)) := by show _ = Sum.inr (ci, fs.map (am_cv r)); rw [hfr]
  rw [ee] at hP hD
  have hx : ∀ j, j ≤ w.length → am_up r (w.length + 1) a j = r j := am_up_ext
  have hlen : w.length ≤ (w ++ [(.inr (ci, fs) : am_C)]).length := by rw [List.length_append]; exact Nat.le_add_right _ _
  have k9 := kk p l e R s m args below meth c Q tc D A C0 (am_up r (w.length + 1) a) H1 locs (cells + 1) (slots + N) mc ms sl (am_Sm_push hS hfs' hP hD hS1) (by rw [am_cl_ext hx wl]; exact hl) (am_wl_mono hlen wl) ⟨(by rw [List.length_append]; exact Nat.lt_succ_self _), am_ws_mono hlen ws⟩ (by omega) (by omega) h3 h4 (am_End_up hx hlen hE)
  rw [List.map_cons, am_cs_ext hx ws] at k9
  rw [show am_cv (am_up r (w.length + 1) a) (.ref w.length) = .ref a from congrArg Value.ref am_up_self] at k9
  exact k9
/-- a new array of numbers -/
def am_kind (t : Nat) : FieldType := match t with
  | 0 => .int
  | 1 => .long
  | 2 => .boolean
  | _ => .array .int
def am_zero (t n : Nat) : vp_A := match t with
  | 1 => (n, .inr (.inl (fun _ => 0)))
  | 3 => (n, .inr (.inr (.inr (.inr (fun _ => none)))))
  | _ => (n, .inl (fun _ => 0))
theorem wp_newa {at_ : ArrayType} {t : Nat} {n : Int32} {N' : Nat} (hd : decode M.2.1 pc = .ok (.newarray at_, 2)) (hq : pc + 2 = q) (ht : t < 3) (hty : newarray.typeOf at_ = am_kind t) (harr : Cond.arrayClass (am_kind t) ∈ lw_tbl) (hn : ¬ n < 0) (hN : n.toNatClampNeg = N') (hb : N' * componentBytes (am_kind t) ≤ 536870912) (kk : am_Wp sc M d bc bs q ls (.ref w.length :: st) (w ++ [.inl (t, am_zero t N')]) F) : am_Wp sc M d (bc + 1) (bs + N') pc ls (.int n :: st) w F := by
  subst hq
  intro p l e R s m args below meth c Q tc D A C0 r H locs cells slots mc ms sl hS hl wl ws h1 h2 h3 h4 hE
  have hK := C0.2.2.2.2.2.2.2.1
  have hz : ∀ cA : ClassId, vp_cell cA (am_zero t N') = arrV cA N' (fun _ => defaultValue (am_kind t)) := by
    intro cA
    rcases (show t = 0 ∨ t = 1 ∨ t = 2 by omega) with rfl | rfl | rfl <;> rfl
  have hg : goodWord (Cond.arrayClass (am_kind t)) = true := rfl
  refine va_newa (ty := am_kind t) (a0 := am_zero t N') C0.1 C0.2.1 (by rw [hty]; exact C0.2.2.2.2.2.1 _ (am_in harr hg)) hty hK hS.2.1 hS.2.2.1 hS.2.2.2.1 C0.2.2.2.2.2.2.2.2.2.2.1 hz hn hN hb (by omega) (by omega) hd (fun a cA H1 hK1 hP hD hS1 => ?_)
  have hcA : cA = tc t := by
    have e1 := (hK1.2 4 (cA, am_kind t) (by rfl)).2
    rcases (show t = 0 ∨ t = 1 ∨ t = 2 by omega) with rfl | rfl | rfl
    · exact Option.some.inj (e1.symm.trans (hK.2 0 _ rfl).2)
    · exact Option.some.inj (e1.symm.trans (hK.2 1 _ rfl).2)
    · exact Option.some.inj (e1.symm.trans (hK.2 2 _ rfl).2)
  subst hcA
  have hw0 : am_wc w.length (.inl (t, am_zero t N')) := by
    rcases (show t = 0 ∨ t = 1 ∨ t = 2 by omega) with rfl | rfl | rfl <;> exact trivial
  have ee : (Sum.inl (tc t, am_zero t N') : va_E) = am_ce tc r (.inl (t, am_zero t N')) := by
    rcases (show t = 0 ∨ t = 1 ∨ t = 2 by omega) with rfl | rfl | rfl <;> rfl
  rw [ee] at hP hD
  have hx : ∀ j, j ≤ w.length → am_up r (w.length + 1) a j = r j := am_up_ext
  have hlen : w.length ≤ (w ++ [(.inl (t, am_zero t N') : am_C)]).length := by rw [List.length_append]; exact Nat.le_add_right _ _
  have k9 := kk p l e R s m args below meth c Q tc D A C0 (am_up r (w.length + 1) a) H1 locs (cells + 1) (slots + N') mc ms sl (am_Sm_push hS hw0 hP hD hS1) (by rw [am_cl_ext hx wl]; exact hl) (am_wl_mono hlen wl) ⟨(by rw [List.length_append]; exact Nat.lt_succ_self _), am_ws_mono hlen ws.2⟩ (by omega) (by omega) h3 h4 (am_End_up hx hlen hE)
  rw [List.map_cons, am_cs_ext hx ws.2] at k9
  rw [show am_cv (am_up r (w.length + 1) a) (.ref w.length) = .ref a from congrArg Value.ref am_up_self] at k9
  exact k9
theorem wp_objInit {a ix : Nat} (hd : decode M.2.1 pc = .ok (.invokespecial ix, 3)) (hq : pc + 3 = q) (hlink : Cond.methodLink M.1.cls ix Lib.objectInit ∈ lw_tbl) (hinst : Cond.instanceMethod Lib.objectInit ∈ lw_tbl) (hcode : Cond.code Lib.objectInit ⟨#[0xb1]⟩ 1 none ∈ lw_tbl) (hrm : (st.map fun v => v.category).sum ≤ 8) (hdd : 1 ≤ d) (kk : am_Wp sc M d bc bs q ls st w F) : am_Wp sc M d bc bs pc ls (.ref a :: st) w F := by
  subst hq
  intro p l e R s m args below meth c Q tc D A C0 r H locs cells slots mc ms sl hS hl wl ws h1 h2 h3 h4 hE
  have hfr := C0.2.2.2.2.2.2.2.2.2.2.2
  have hcat : ((st.map (am_cv r)).map fun v => v.category).sum = (st.map fun v => v.category).sum := by
    rw [List.map_map]; congr 1; apply List.map_congr_left; intro v _; exact am_cv_cat r v
  refine W.objInit C0.1 C0.2.1 C0.2.2.2.2.1 (C0.2.2.2.2.2.1 _ (am_in hlink rfl)) (C0.2.2.2.2.2.1 _ (am_in hinst rfl)) (C0.2.2.2.2.2.1 _ (am_in hcode rfl)) rfl (by rw [C0.2.2.2.1]; exact hl.1) rfl hd (by omega) (by show 2 * 0 + _ + 12 ≤ _; rw [hcat]; omega) ?_
  exact kk p l e R s m args below meth c Q tc D A C0 r H locs cells slots mc ms sl hS hl wl ws.2 h1 h2 h3 h4 hE
/-- the rows of a new int[n][k], and what holds them -/
def am_rows (n k b : Nat) : am_W := (.inl (3, n, .inr (.inr (.inr (.inr (fun i => if i < n then some (b + 1 + i) else none))))) : am_C) :: List.replicate n (.inl (0, k, .inl (fun _ => 0)))
theorem am_mapIdx_rep {α β : Type} (f : Nat → α → β) (x : α) : ∀ (n o : Nat), (List.replicate n x).mapIdx (fun i c => f (o + i) c) = (List.range n).map (fun i => f (o + i) x) := by
  intro n o
  apply List.ext_getElem?
  intro i
  rw [List.getElem?_mapIdx, List.getElem?_map, List.getElem?_replicate]
  by_cases h : i < n
  · rw [if_pos h, List.getElem?_range h]; rfl
  · rw [if_neg h, List.getElem?_eq_none (by rw [List.length_range]; omega)]; rfl
def am_upm (r : Nat → Nat) (b a n : Nat) (rr : Nat → Nat) : Nat → Nat := fun j => if j ≤ b then r j else if j = b + 1 then a else rr (j - (b + 2))
theorem wp_multi {ix : Nat} {n k : Int32} {N' K' : Nat} (hd : decode M.2.1 pc = .ok (.multianewarray ix 2, 4)) (hq : pc + 4 = q) (hlink : Cond.classLink M.1.cls ix "[[I" ∈ lw_tbl) (hover : Cond.arrayOver (.array .int) ∈ lw_tbl) (harr : Cond.arrayClass .int ∈ lw_tbl) (hn : ¬ n < 0) (hk : ¬ k < 0) (hN : n.toNatClampNeg = N') (hM : k.toNatClampNeg = K') (hb1 : N' * 4 ≤ 536870912) (hb2 : K' * 4 ≤ 536870912)
    (kk : am_Wp sc M d bc bs q ls (.ref w.length :: st) (w ++ am_rows N' K' w.length) F) : am_Wp sc M d (bc + (1 + N')) (bs + (N' + N' * K')) pc ls (.int k :: .int n :: st) w F := by
  subst hq
  intro p l e R s m args below meth c Q tc D A C0 r H locs cells slots mc ms sl hS hl wl ws h1 h2 h3 h4 hE
  have hK := C0.2.2.2.2.2.2.2.1
  have hcy : s.vm.findClass (FieldType.array .int).toString = some (tc 0) := (hK.2 0 _ (am_tys0 tc)).2
  have hP0 : va_P D vwCl (am_cw tc r w ++ va_pl [] (fun _ => .inr (0, []))) H := by show va_P D vwCl (am_cw tc r w ++ []) H; rw [List.append_nil]; exact hS.2.1
  have hD0 : va_D A (am_cw tc r w ++ va_pl [] (fun _ => .inr (0, []))) := by show va_D A (am_cw tc r w ++ []); rw [List.append_nil]; exact hS.2.2.1
  refine va_mna (ty := .int) (cy := tc 0) (z := (K', .inl (fun _ => 0))) C0.1 C0.2.1 C0.2.2.2.2.1 (C0.2.2.2.2.2.1 _ (am_in hlink rfl)) (C0.2.2.2.2.2.2.1 _ (am_inN hover rfl)) (C0.2.2.2.2.2.1 _ (am_in harr rfl)) hcy hK hP0 hD0 hS.2.2.2.1 C0.2.2.2.2.2.2.2.2.2.2.1 hn hk hN hM hb1 (by show K' * 4 ≤ _; exact hb2) (by omega) rfl rfl (by omega) (by omega) (fun c => by show ({ cls := c, slots := Array.replicate K' (Value.int 0), vm := .none } : Cell) = _; rw [arrV_new]; rfl) hd (fun a rr cA H1 _ _ hK1 hP hD hS1 => ?_)
  have hcA : cA = tc 3 := by
    have e1 := (hK1.2 4 (cA, .array .int) (by rfl)).2
    exact Option.some.inj (e1.symm.trans (hK.2 3 _ (am_tys3 tc)).2)
  subst hcA
  have hx : ∀ j, j ≤ w.length → am_upm r w.length a N' rr j = r j := fun j hj => by unfold am_upm; rw [if_pos hj]
  have e0 : am_upm r w.length a N' rr (w.length + 1) = a := by unfold am_upm; rw [if_neg (by omega), if_pos rfl]
  have er : ∀ i, am_upm r w.length a N' rr (w.length + 2 + i) = rr i := fun i => by unfold am_upm; rw [if_neg (by omega), if_neg (by omega)]; congr 1; omega
  have hlr : (am_rows N' K' w.length).length = N' + 1 := by simp [am_rows]
  have hwf : am_ww (w ++ am_rows N' K' w.length) := by
    intro j x hj
    rw [List.length_append, hlr]
    by_cases hl9 : j < w.length
    · rw [List.getElem?_append_left hl9] at hj
      exact am_wc_mono (Nat.le_add_right _ _) (hS.1 j x hj)
    · rw [List.getElem?_append_right (Nat.not_lt.mp hl9)] at hj
      cases hz : j - w.length with
      | zero =>
        rw [hz] at hj
        cases hj
        intro i b hb
        by_cases hi : i < N'
        · have hb : (if i < N' then some (w.length + 1 + i) else none) = some b := hb
          rw [if_pos hi] at hb
          cases hb
          omega
        · have hb : (if i < N' then some (w.length + 1 + i) else none) = some b := hb
          rw [if_neg hi] at hb
          cases hb
      | succ z =>
        rw [hz] at hj
        have hj : (List.replicate N' (.inl (0, K', .inl (fun _ => 0)) : am_C))[z]? = some x := hj
        rw [List.getElem?_replicate] at hj
        by_cases hz2 : z < N'
        · rw [if_pos hz2] at hj
          cases hj
          exact trivial
        · rw [if_neg hz2] at hj
          cases hj
  have ecw : am_cw tc (am_upm r w.length a N' rr) (w ++ am_rows N' K' w.length) = (am_cw tc r w ++ [(a, .inl (tc 3, N', .inr (.inr (.inr (.inr (fun i => if i < N' then some (rr i) else none))))))]) ++ va_pl ([] ++ (List.range N').map rr) (vr_up (fun _ => .inr (0, [])) ((List.range N').map rr) (.inl (tc 0, K', .inl (fun _ => 0)))) := by
    have e1 : am_cw tc (am_upm r w.length a N' rr) w = am_cw tc r w := am_cw_ext hx hS.1
    have e2 : am_cw tc (am_upm r w.length a N' rr) (w ++ am_rows N' K' w.length) = am_cw tc (am_upm r w.length a N' rr) w ++ (am_rows N' K' w.length).mapIdx (fun i c => (am_upm r w.length a N' rr (i + w.length + 1), am_ce tc (am_upm r w.length a N' rr) c)) := by
      unfold am_cw
      rw [List.mapIdx_append]
    rw [e2, e1, List.append_assoc]
    congr 1
    show List.mapIdx _ (_ :: _) = _ :: _
    rw [List.mapIdx_cons]
    congr 1
    · rw [Nat.zero_add, e0]
      show (a, Sum.inl (tc 3, am_ca _ _)) = _
      have e3 : (fun j => (if j < N' then some (w.length + 1 + j) else none).map (fun a_1 => am_upm r w.length a N' rr (a_1 + 1))) = (fun i => if i < N' then some (rr i) else none) := by
        funext j
        by_cases hj : j < N'
        · rw [if_pos hj, if_pos hj]
          show some (am_upm r w.length a N' rr (w.length + 1 + j + 1)) = some (rr j)
          rw [show w.length + 1 + j + 1 = w.length + 2 + j by omega, er]
        · rw [if_neg hj, if_neg hj]; rfl
      simp only [am_ca, e3]
    · unfold va_pl
      rw [List.nil_append, List.map_map]
      apply List.ext_getElem?
      intro i
      rw [List.getElem?_mapIdx]
      show _ = (List.map _ (List.range N'))[i]?
      rw [List.getElem?_map, List.getElem?_replicate]
      by_cases hi : i < N'
      · rw [if_pos hi, List.getElem?_range hi]
        show some (am_upm r w.length a N' rr (i + 1 + w.length + 1), _) = some (rr i, vr_up _ _ _ (rr i))
        rw [show i + 1 + w.length + 1 = w.length + 2 + i by omega, er, vr_up_in (List.mem_map.mpr ⟨i, List.mem_range.mpr hi, rfl⟩)]
        rfl
      · rw [if_neg hi, List.getElem?_eq_none (by rw [List.length_range]; omega)]; rfl
  have hlen : w.length ≤ (w ++ am_rows N' K' w.length).length := by rw [List.length_append]; exact Nat.le_add_right _ _
  have k9 := kk p l e R s m args below meth c Q tc D A C0 (am_upm r w.length a N' rr) H1 locs (cells + 1 + N') (slots + N' + N' * K') mc ms sl ⟨hwf, by rw [ecw]; exact hP, by rw [ecw]; exact hD, hS1, am_X_ext (hx 0 (Nat.zero_le _)) hS.2.2.2.2⟩ (by rw [am_cl_ext hx wl]; exact hl) (am_wl_mono hlen wl) ⟨(by rw [List.length_append, hlr]; show w.length < _; omega), am_ws_mono hlen ws.2.2⟩ (by omega) (by omega) h3 h4 (am_End_up hx hlen hE)
  rw [List.map_cons, am_cs_ext hx ws.2.2] at k9
  rw [show am_cv (am_upm r w.length a N' rr) (.ref w.length) = .ref a from congrArg Value.ref e0] at k9
  exact k9
/-- an array's contents beyond its length don't matter -/
theorem wp_chg {a t n : Nat} {f g : Nat → Int32} {w' : am_W} (hc : w[a]? = some (.inl (t, n, .inl f))) (hfg : ∀ j, j < n → f j = g j) (hw : w.set a (.inl (t, n, .inl g)) = w') (k : am_Wp sc M d bc bs pc ls st w' F) : am_Wp sc M d bc bs pc ls st w F := by
  subst hw
  intro p l e R s m args below meth c Q tc D A C0 r H locs cells slots mc ms sl hS hl wl ws h1 h2 h3 h4 hE
  have ha : H[r (a + 1)]? = some (vp_cell (tc t) (n, .inl f)) := hS.2.1 a _ (am_cw_at hc)
  have e9 : vp_cell (tc t) (n, .inl f) = vp_cell (tc t) (n, .inl g) := by
    rw [vp_cell_i, vp_cell_i]
    unfold arrV
    congr 2
    funext j
    exact congrArg Value.int (hfg j.val j.isLt)
  have hP : va_P D vwCl ((am_cw tc r w).set a (r (a + 1), am_ce tc r (.inl (t, n, .inl g)))) H := hS.2.1.set hS.2.2.1 (am_cw_at hc) (show H[r (a + 1)]? = some (vp_cell (tc t) (n, .inl g)) by rw [ha, e9]) (fun _ _ => rfl)
  exact k p l e R s m args below meth c Q tc D A C0 r H locs cells slots mc ms sl (am_Sm_set hS trivial hP (hS.2.2.1.set (am_cw_at hc)) hS.2.2.2.1) hl (by rw [List.length_set]; exact wl) (by rw [List.length_set]; exact ws) h1 h2 h3 h4 (by rw [List.length_set]; exact hE)
theorem wp_chgL {a t n : Nat} {f g : Nat → Int64} {w' : am_W} (hc : w[a]? = some (.inl (t, n, .inr (.inl f)))) (hfg : ∀ j, j < n → f j = g j) (hw : w.set a (.inl (t, n, .inr (.inl g))) = w') (k : am_Wp sc M d bc bs pc ls st w' F) : am_Wp sc M d bc bs pc ls st w F := by
  subst hw
  intro p l e R s m args below meth c Q tc D A C0 r H locs cells slots mc ms sl hS hl wl ws h1 h2 h3 h4 hE
  have ha : H[r (a + 1)]? = some (vp_cell (tc t) (n, .inr (.inl f))) := hS.2.1 a _ (am_cw_at hc)
  have e9 : vp_cell (tc t) (n, .inr (.inl f)) = vp_cell (tc t) (n, .inr (.inl g)) := by
    rw [vp_cell_l, vp_cell_l]
    unfold arrV
    congr 2
    funext j
    exact congrArg Value.long (hfg j.val j.isLt)
  have hP : va_P D vwCl ((am_cw tc r w).set a (r (a + 1), am_ce tc r (.inl (t, n, .inr (.inl g))))) H := hS.2.1.set hS.2.2.1 (am_cw_at hc) (show H[r (a + 1)]? = some (vp_cell (tc t) (n, .inr (.inl g))) by rw [ha, e9]) (fun _ _ => rfl)
  exact k p l e R s m args below meth c Q tc D A C0 r H locs cells slots mc ms sl (am_Sm_set hS trivial hP (hS.2.2.1.set (am_cw_at hc)) hS.2.2.2.1) hl (by rw [List.length_set]; exact wl) (by rw [List.length_set]; exact ws) h1 h2 h3 h4 (by rw [List.length_set]; exact hE)
/-- deeper is easier; more room is easier; a weaker end is easier -/
theorem wp_deep {d1 : Nat} (h : d1 ≤ d) (k : am_Wp sc M d1 bc bs pc ls st w F) : am_Wp sc M d bc bs pc ls st w F := by
  intro p l e R s m args below meth c Q tc D A C0 r H locs cells slots mc ms sl hS hl wl ws h1 h2 h3 h4 hE
  obtain ⟨c1, c2, c3, c4, c5, c6, c7, c8, c9, c10, c11, c12, c13⟩ := C0
  exact k p l e R s m args below meth c Q tc D A ⟨c1, c2, c3, c4, c5, c6, c7, c8, c9, c10, c11, by omega, by omega⟩ r H locs cells slots mc ms sl hS hl wl ws h1 h2 h3 h4 hE
theorem wp_more {bc1 bs1 : Nat} (hb : bc1 ≤ bc) (hs : bs1 ≤ bs) (k : am_Wp sc M d bc1 bs1 pc ls st w F) : am_Wp sc M d bc bs pc ls st w F := by
  intro p l e R s m args below meth c Q tc D A C0 r H locs cells slots mc ms sl hS hl wl ws h1 h2 h3 h4 hE
  exact k p l e R s m args below meth c Q tc D A C0 r H locs cells slots mc ms sl hS hl wl ws (by omega) (by omega) h3 h4 hE
theorem wp_post {F1 : Option Value → am_W → Prop} (h : ∀ v w1, F1 v w1 → F v w1) (k : am_Wp sc M d bc bs pc ls st w F1) : am_Wp sc M d bc bs pc ls st w F := by
  intro p l e R s m args below meth c Q tc D A C0 r H locs cells slots mc ms sl hS hl wl ws h1 h2 h3 h4 hE
  exact k p l e R s m args below meth c Q tc D A C0 r H locs cells slots mc ms sl hS hl wl ws h1 h2 h3 h4 (fun v w1 r1 H1 locs1 cells1 slots1 pc1 sl1 hF => hE v w1 r1 H1 locs1 cells1 slots1 pc1 sl1 (h v w1 hF))
/-- fewer locals are enough -/
theorem wp_ls {ls' : am_L} (h : ∀ q, q ∈ ls' → q ∈ ls) (k : am_Wp sc M d bc bs pc ls' st w F) : am_Wp sc M d bc bs pc ls st w F := by
  intro p l e R s m args below meth c Q tc D A C0 r H locs cells slots mc ms sl hS hl wl ws h1 h2 h3 h4 hE
  refine k p l e R s m args below meth c Q tc D A C0 r H locs cells slots mc ms sl hS ⟨hl.1, hl.2.1, fun q hq => ?_⟩ (am_wl_of (fun q hq => am_wl_mem wl (h q hq))) ws h1 h2 h3 h4 hE
  obtain ⟨x, hx, rfl⟩ := List.mem_map.mp hq
  exact hl.2.2 _ (List.mem_map.mpr ⟨x, h x hx, rfl⟩)
end HeapRules
/-! small rows for the walks -/
theorem am_fit_i {x : Int32} : am_fit .int (.int x) := fun _ => ⟨rfl, rfl⟩
theorem am_fit_l {x : Int64} : am_fit .long (.long x) := fun _ => ⟨rfl, rfl⟩
theorem am_fit_o {n : String} {a : Nat} : am_fit (.object n) (.ref a) := fun _ => ⟨rfl, rfl⟩
theorem am_fit_a {t : FieldType} {a : Nat} : am_fit (.array t) (.ref a) := fun _ => ⟨rfl, rfl⟩
theorem am_fit_b {b : Bool} : am_fit .boolean (.int (if b then 1 else 0)) := fun _ => by cases b <;> exact ⟨rfl, rfl⟩
theorem am_at_eq {w : am_W} {a : Nat} {c x : am_C} (h : w[a]? = some c) : (w.set a x)[a]? = some x := by
  rw [List.getElem?_set]; simp [am_ww_len h]
theorem am_at_ne {w : am_W} {a b : Nat} {c x : am_C} (hn : a ≠ b) (h : w[b]? = some c) : (w.set a x)[b]? = some c := by
  rw [List.getElem?_set, if_neg hn]; exact h
