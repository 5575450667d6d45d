/-! THE LOGIC OF WORLDS: a cell is known by its number (the order in which the run made it); am_Wp says that a method's walk from here ends as F says. Every rule below is one instruction. -/
/-- a method: its name, its bytes, its locals, what it answers -/
abbrev am_M : Type := MethodName × ByteArray × Nat × Option FieldType
/-- a cell: an array (the number of its kind, its contents) or an object (the number of its sort, its fields) -/
abbrev am_C : Type := (Nat × vp_A) ⊕ (Nat × List Value)
abbrev am_W : Type := List am_C
abbrev am_L : Type := List (Nat × Value)
/-- the kinds of arrays -/
def am_tys (tc : Nat → ClassId) : List (ClassId × FieldType) := [(tc 0, .int), (tc 1, .long), (tc 2, .boolean), (tc 3, .array .int)]
def am_cv (r : Nat → Nat) (v : Value) : Value := match v with
  | .ref a => .ref (r (a + 1))
  | .retAddr _ => .ref (r 0)
  | .int x => .int x
  | .long x => .long x
  | .float x => .float x
  | .double x => .double x
  | .null => .null
def am_ca (r : Nat → Nat) (a : vp_A) : vp_A := match a with
  | (n, .inr (.inr (.inr (.inr f)))) => (n, .inr (.inr (.inr (.inr (fun j => (f j).map (fun a => r (a + 1)))))))
  | (n, .inl f) => (n, .inl f)
  | (n, .inr (.inl f)) => (n, .inr (.inl f))
  | (n, .inr (.inr (.inl f))) => (n, .inr (.inr (.inl f)))
  | (n, .inr (.inr (.inr (.inl f)))) => (n, .inr (.inr (.inr (.inl f))))
def am_ce (tc : Nat → ClassId) (r : Nat → Nat) (c : am_C) : va_E := match c with
  | .inl (t, a) => .inl (tc t, am_ca r a)
  | .inr (i, fs) => .inr (i, fs.map (am_cv r))
def am_cw (tc : Nat → ClassId) (r : Nat → Nat) (w : am_W) : va_W := w.mapIdx (fun i c => (r (i + 1), am_ce tc r c))
def am_cl (r : Nat → Nat) (ls : am_L) : List (Nat × Value) := ls.map (fun q => (q.1, am_cv r q.2))
/-- no reference beyond n -/
def am_wv (n : Nat) (v : Value) : Prop := match v with
  | .ref a => a < n
  | _ => True
def am_ws (n : Nat) : List Value → Prop
  | [] => True
  | v :: l => am_wv n v ∧ am_ws n l
def am_wl (n : Nat) : am_L → Prop
  | [] => True
  | q :: l => am_wv n q.2 ∧ am_wl n l
def am_wa (n : Nat) (a : vp_A) : Prop := match a with
  | (_, .inr (.inr (.inr (.inr f)))) => ∀ j b, f j = some b → b < n
  | _ => True
def am_wc (n : Nat) (c : am_C) : Prop := match c with
  | .inl (_, a) => am_wa n a
  | .inr (_, fs) => am_ws n fs
def am_ww (w : am_W) : Prop := ∀ (i : Nat) (c : am_C), w[i]? = some c → am_wc w.length c
def am_wo (n : Nat) (v : Option Value) : Prop := ∀ x, v = some x → am_wv n x
theorem am_wv_mono {n k : Nat} (h : n ≤ k) {v : Value} (hv : am_wv n v) : am_wv k v := by
  cases v <;> first | exact trivial | exact Nat.lt_of_lt_of_le hv h
theorem am_ws_mono {n k : Nat} (h : n ≤ k) : ∀ {l : List Value}, am_ws n l → am_ws k l
  | [], _ => trivial
  | _ :: _, q => ⟨am_wv_mono h q.1, am_ws_mono h q.2⟩
theorem am_wl_mono {n k : Nat} (h : n ≤ k) : ∀ {l : am_L}, am_wl n l → am_wl k l
  | [], _ => trivial
  | _ :: _, q => ⟨am_wv_mono h q.1, am_wl_mono h q.2⟩
theorem am_wa_mono {n k : Nat} (h : n ≤ k) {a : vp_A} (ha : am_wa n a) : am_wa k a := by
  obtain ⟨m, f | f | f | f | f⟩ := a
  · exact trivial
  · exact trivial
  · exact trivial
  · exact trivial
  · exact fun j b q => Nat.lt_of_lt_of_le (ha j b q) h
theorem am_wc_mono {n k : Nat} (h : n ≤ k) {c : am_C} (hc : am_wc n c) : am_wc k c := by
  obtain ⟨t, a⟩ | ⟨i, fs⟩ := c
  · exact am_wa_mono h hc
  · exact am_ws_mono h hc
theorem am_ws_app {n : Nat} : ∀ {l k : List Value}, am_ws n l → am_ws n k → am_ws n (l ++ k)
  | [], _, _, h => h
  | _ :: _, _, h, g => ⟨h.1, am_ws_app h.2 g⟩
theorem am_ws_r {n : Nat} : ∀ {l k : List Value}, am_ws n (l ++ k) → am_ws n k
  | [], _, h => h
  | _ :: _, _, h => am_ws_r h.2
theorem am_ws_l {n : Nat} : ∀ {l k : List Value}, am_ws n (l ++ k) → am_ws n l
  | [], _, _ => trivial
  | _ :: _, _, h => ⟨h.1, am_ws_l h.2⟩
theorem am_ws_mem {n : Nat} : ∀ {l : List Value} {v : Value}, am_ws n l → v ∈ l → am_wv n v
  | _ :: _, _, h, hv => by
    rcases List.mem_cons.mp hv with rfl | hv
    · exact h.1
    · exact am_ws_mem h.2 hv
theorem am_ws_of {n : Nat} : ∀ {l : List Value}, (∀ v, v ∈ l → am_wv n v) → am_ws n l
  | [], _ => trivial
  | _ :: _, h => ⟨h _ List.mem_cons_self, am_ws_of (fun v hv => h v (List.mem_cons_of_mem _ hv))⟩
theorem am_ws_rev {n : Nat} {l : List Value} (h : am_ws n l.reverse) : am_ws n l :=
  am_ws_of (fun v hv => am_ws_mem h (List.mem_reverse.mpr hv))
theorem am_wl_mem {n : Nat} : ∀ {l : am_L} {q : Nat × Value}, am_wl n l → q ∈ l → am_wv n q.2
  | _ :: _, _, h, hv => by
    rcases List.mem_cons.mp hv with rfl | hv
    · exact h.1
    · exact am_wl_mem h.2 hv
theorem am_wl_of {n : Nat} : ∀ {l : am_L}, (∀ q, q ∈ l → am_wv n q.2) → am_wl n l
  | [], _ => trivial
  | _ :: _, h => ⟨h _ List.mem_cons_self, am_wl_of (fun v hv => h v (List.mem_cons_of_mem _ hv))⟩
theorem am_wl_args {n : Nat} : ∀ {l : List Value} (i : Nat), am_ws n l → am_wl n (lv_args i l)
  | [], _, _ => trivial
  | _ :: _, _, h => ⟨h.1, am_wl_args _ h.2⟩
/-! another naming that agrees below n -/
theorem am_cv_ext {n : Nat} {r r1 : Nat → Nat} (h : ∀ a, a ≤ n → r1 a = r a) {v : Value} (hv : am_wv n v) : am_cv r1 v = am_cv r v := by
  cases v <;> first | rfl | exact congrArg Value.ref (h _ (Nat.zero_le _)) | exact congrArg Value.ref (h _ hv)
theorem am_cs_ext {n : Nat} {r r1 : Nat → Nat} (h : ∀ a, a ≤ n → r1 a = r a) : ∀ {l : List Value}, am_ws n l → l.map (am_cv r1) = l.map (am_cv r)
  | [], _ => rfl
  | v :: l, q => by rw [List.map_cons, List.map_cons, am_cv_ext h q.1, am_cs_ext h q.2]
theorem am_cl_ext {n : Nat} {r r1 : Nat → Nat} (h : ∀ a, a ≤ n → r1 a = r a) : ∀ {l : am_L}, am_wl n l → am_cl r1 l = am_cl r l
  | [], _ => rfl
  | v :: l, q => by
    show (v.1, am_cv r1 v.2) :: am_cl r1 l = (v.1, am_cv r v.2) :: am_cl r l
    rw [am_cv_ext h q.1, am_cl_ext h q.2]
theorem am_ce_ext {tc : Nat → ClassId} {n : Nat} {r r1 : Nat → Nat} (h : ∀ a, a ≤ n → r1 a = r a) {c : am_C} (hc : am_wc n c) : am_ce tc r1 c = am_ce tc r c := by
  obtain ⟨t, m, f | f | f | f | f⟩ | ⟨i, fs⟩ := c
  · rfl
  · rfl
  · rfl
  · rfl
  · show Sum.inl (tc t, am_ca r1 _) = Sum.inl (tc t, am_ca r _)
    have e : (fun j => (f j).map (fun a => r1 (a + 1))) = (fun j => (f j).map (fun a => r (a + 1))) := by
      funext j
      cases hj : f j with
      | none => rfl
      | some b => exact congrArg some (h _ (hc j b hj))
    simp only [am_ca, e]
  · show Sum.inr (i, fs.map (am_cv r1)) = Sum.inr (i, fs.map (am_cv r))
    rw [am_cs_ext h hc]
theorem am_cw_at {tc : Nat → ClassId} {r : Nat → Nat} {w : am_W} {i : Nat} {c : am_C} (h : w[i]? = some c) : (am_cw tc r w)[i]? = some (r (i + 1), am_ce tc r c) := by
  unfold am_cw
  rw [List.getElem?_mapIdx, h]
  rfl
theorem am_cw_of {tc : Nat → ClassId} {r : Nat → Nat} {w : am_W} {i : Nat} {x : Nat × va_E} (h : (am_cw tc r w)[i]? = some x) : ∃ c, w[i]? = some c ∧ x = (r (i + 1), am_ce tc r c) := by
  unfold am_cw at h
  rw [List.getElem?_mapIdx] at h
  cases hc : w[i]? with
  | none => rw [hc] at h; cases h
  | some c => rw [hc] at h; exact ⟨c, rfl, (Option.some.inj h).symm⟩
theorem am_cw_ext {tc : Nat → ClassId} {r r1 : Nat → Nat} {w : am_W} (h : ∀ a, a ≤ w.length → r1 a = r a) (hw : am_ww w) : am_cw tc r1 w = am_cw tc r w := by
  apply List.ext_getElem?
  intro i
  cases hc : w[i]? with
  | none =>
    unfold am_cw
    rw [List.getElem?_mapIdx, List.getElem?_mapIdx, hc]
    rfl
  | some c =>
    have hi : i < w.length := (List.getElem?_eq_some_iff.mp hc).1
    rw [am_cw_at hc, am_cw_at hc, am_ce_ext h (hw i c hc), h _ hi]
theorem am_cw_set {tc : Nat → ClassId} {r : Nat → Nat} {w : am_W} {i : Nat} {c : am_C} : am_cw tc r (w.set i c) = (am_cw tc r w).set i (r (i + 1), am_ce tc r c) := by
  apply List.ext_getElem?
  intro j
  unfold am_cw
  rw [List.getElem?_mapIdx, List.getElem?_set, List.getElem?_set, List.getElem?_mapIdx, List.length_mapIdx]
  by_cases hj : i = j
  · subst hj
    by_cases hl : i < w.length
    · simp [hl]
    · simp [hl]
  · simp [hj]
theorem am_cw_push {tc : Nat → ClassId} {r : Nat → Nat} {w : am_W} {c : am_C} : am_cw tc r (w ++ [c]) = am_cw tc r w ++ [(r (w.length + 1), am_ce tc r c)] := by
  unfold am_cw
  rw [List.mapIdx_append]
  simp
theorem am_ww_set {w : am_W} {i : Nat} {c : am_C} (h : am_ww w) (hc : am_wc w.length c) : am_ww (w.set i c) := by
  intro j x hx
  rw [List.length_set]
  rw [List.getElem?_set] at hx
  by_cases hj : i = j
  · rw [if_pos hj] at hx
    by_cases hl : i < w.length
    · rw [if_pos hl] at hx
      exact Option.some.inj hx ▸ hc
    · rw [if_neg hl] at hx; cases hx
  · rw [if_neg hj] at hx
    exact h j x hx
theorem am_ww_push {w : am_W} {c : am_C} (h : am_ww w) (hc : am_wc w.length c) : am_ww (w ++ [c]) := by
  intro j x hx
  rw [List.length_append]
  by_cases hl : j < w.length
  · rw [List.getElem?_append_left hl] at hx
    exact am_wc_mono (Nat.le_add_right _ _) (h j x hx)
  · rw [List.getElem?_append_right (Nat.not_lt.mp hl)] at hx
    have hz : j - w.length < 1 := (List.getElem?_eq_some_iff.mp hx).1
    rw [show j - w.length = 0 by omega] at hx
    exact Option.some.inj hx ▸ am_wc_mono (Nat.le_add_right _ _) hc
theorem am_ww_len {w : am_W} {i : Nat} {c : am_C} (h : w[i]? = some c) : i < w.length := (List.getElem?_eq_some_iff.mp h).1
/-! the words -/
def am_good : List Cond := lw_tbl.filter goodWord
def am_isN : Cond → Bool
  | .fieldLinkNest .. => true
  | .methodLinkNest .. => true
  | .arrayOver (.array .int) => true
  | _ => false
def am_nest : List Cond := lw_tbl.filter am_isN
theorem am_in {w : Cond} (h : w ∈ lw_tbl) (g : goodWord w = true) : w ∈ am_good := List.mem_filter.mpr ⟨h, g⟩
theorem am_inN {w : Cond} (h : w ∈ lw_tbl) (g : am_isN w = true) : w ∈ am_nest := List.mem_filter.mpr ⟨h, g⟩
theorem am_goodIn {w : Cond} (h : w ∈ am_good) : w ∈ am_good ∧ ((w.onTables && w.keeps) = true ∨ ∃ ty, w = .arrayClass ty) := ⟨h, good_of_word (List.mem_filter.mp h).2⟩
theorem am_goodC {w : Cond} (h : w ∈ am_good) : GoodIn am_good (w :: am_good) := by
  intro x hx
  rcases List.mem_cons.mp hx with rfl | hx
  · exact am_goodIn h
  · exact am_goodIn hx
theorem am_AOA_moved {u U : State} (hvm : u.vm.Alike U.vm) (h : va_Nw (.arrayOver (.array .int)) u) : va_Nw (.arrayOver (.array .int)) U := by
  obtain ⟨comp, c, k, h1, h2, h3, h4, h5⟩ := arrayOverA_spec (t := .int) h
  obtain ⟨k', hk', he⟩ := hvm.2.2 _ _ h3
  have hi : (U.vm.classes.findIdx? fun (x : Class) => match x.kind with | .array component _ => component == comp | _ => false) = some c := by
    rw [hvm.findIdx?_eq _ (fun _ => rfl)]
    exact h2
  have hkind : k'.kind = .array comp (.array .int) := by rw [he]; exact h4
  have f1 : U.vm.findClass (FieldType.array .int).toString = some comp := by rw [hvm.findClass]; exact h1
  have f2 : U.vm.findClass ("[" ++ (FieldType.array .int).toString) = some c := by rw [hvm.findClass]; exact h5
  unfold va_Nw Cond.before Cond.holds
  simp only [Cond.value]
  rw [f1, Option.bind_some]
  refine (congrArg (fun o : Option Nat => (o.bind (fun c => (U.vm.classes[c]?).map fun (k : Class) => match k.kind with | .array _ ty => decide (ty = FieldType.array .int) && decide (U.vm.findClass ("[" ++ (FieldType.array .int).toString) = some c) | _ => false) == some true)) hi).trans ?_
  simp [hk', hkind, f2]
theorem am_alike_of {u U : State} (h : u.vm = U.vm) : u.vm.Alike U.vm := by rw [h]; exact Vm.Alike.refl _
theorem am_Nw_same {w : Cond} (h : am_isN w = true) {u U : State} (hv : u.vm = U.vm) (hZ : va_Nw w u) : va_Nw w U := by
  unfold am_isN at h
  split at h
  · exact va_Nw.same rfl hv hZ
  · exact va_Nw.same rfl hv hZ
  · exact am_AOA_moved (am_alike_of hv) hZ
  · cases h
theorem am_Nw_warm {w : Cond} (h : am_isN w = true) {s U : State} (hW : s.WarmedH U.vm) (hZ : va_Nw w s) : va_Nw w U := by
  unfold am_isN at h
  split at h
  · exact va_Nw.warmF hW hZ
  · exact va_Nw.warmM hW hZ
  · exact am_AOA_moved hW.alike hZ
  · cases h
/-! the surroundings -/
/-- the script: how long it is, what stands in it -/
abbrev am_S : Type := Option (Nat × (Nat → Int32))
def am_X (sc : am_S) (A : Nat → Prop) (s : State) (r : Nat → Nat) : Prop := match sc with
  | none => True
  | some (L, xs) => va_X (r 0) L xs s s.heap ∧ r 0 < s.heap.size ∧ ¬ A (r 0)
def am_Sm (sc : am_S) (tc : Nat → ClassId) (D : va_G) (A : Nat → Prop) (s : State) (r : Nat → Nat) (w : am_W) (H : Heap) (locs : List Loc) : Prop :=
  am_ww w ∧ va_P D vwCl (am_cw tc r w) H ∧ va_D A (am_cw tc r w) ∧ va_S A s.heap H locs ∧ am_X sc A s r
def am_Cx (M : am_M) (d : Nat) (tc : Nat → ClassId) (D : va_G) (A : Nat → Prop) (p : Program) (R : Room) (s : State) (m : MethodId) (args : Array Value) (meth : Method) (c : Code) : Prop :=
  p.tables.exec = Jvm.exec ∧ c.code = M.2.1 ∧ meth.sig.returnType = M.2.2.2 ∧ c.maxLocals = M.2.2.1 ∧ s.vm.findClass M.1.cls = some m.cls ∧ (∀ w ∈ am_good, w.before args s = true) ∧ (∀ w ∈ am_nest, va_Nw w s) ∧ va_K D vwCl (am_tys tc) s ∧ meth.locks = false ∧ meth.name = M.1.name ∧ (∀ q, s.heap.size ≤ q → A q) ∧ d ≤ R.frames ∧ d * 64 ≤ R.locals
/-- the instruction at pc is the method's return, and v fits it -/
def am_ret (M : am_M) (pc : Nat) (v : Option Value) : Prop :=
  (M.2.2.2 = none ∧ v = none ∧ decode M.2.1 pc = .ok (.return_, 1)) ∨
  (∃ ty x, M.2.2.2 = some ty ∧ v = some (.int x) ∧ narrow ty (.int x) = .int x ∧ decode M.2.1 pc = .ok (.ireturn, 1)) ∨
  (∃ x, M.2.2.2 = some .long ∧ v = some (.long x) ∧ decode M.2.1 pc = .ok (.lreturn, 1)) ∨
  (∃ ty a, M.2.2.2 = some ty ∧ ((∃ n, ty = .object n) ∨ ∃ t, ty = .array t) ∧ v = some (.ref a) ∧ decode M.2.1 pc = .ok (.areturn, 1))
def am_End (sc : am_S) (M : am_M) (p : Program) (l : Launch) (e : Env) (R : Room) (s : State) (m : MethodId) (args : Array Value) (below : List Frame) (meth : Method) (c : Code) (Q : State → Prop) (tc : Nat → ClassId) (D : va_G) (A : Nat → Prop) (mc ms : Nat) (r : Nat → Nat) (n : Nat) (F : Option Value → am_W → Prop) : Prop :=
  ∀ (v : Option Value) (w1 : am_W) (r1 : Nat → Nat) (H1 : Heap) (locs1 : List Loc) (cells1 slots1 pc1 : Nat) (sl1 : Array Slot), F v w1 → am_Sm sc tc D A s r1 w1 H1 locs1 → (∀ a, a ≤ n → r1 a = r a) → n ≤ w1.length → am_wo w1.length v → cells1 ≤ mc → slots1 ≤ ms → am_ret M pc1 v →
    W p l e R s m args below meth c H1 locs1 cells1 slots1 Q (F0 m pc1 sl1 ((v.map (am_cv r1)).toList))
/-- the walk of M from pc, with these locals, this stack, this world: it ends, and F says how; it makes at most bc cells of bs slots, and calls at most d deep -/
def am_Wp (sc : am_S) (M : am_M) (d bc bs pc : Nat) (ls : am_L) (st : List Value) (w : am_W) (F : Option Value → am_W → Prop) : Prop :=
  ∀ (p : Program) (l : Launch) (e : Env) (R : Room) (s : State) (m : MethodId) (args : Array Value) (below : List Frame) (meth : Method) (c : Code) (Q : State → Prop) (tc : Nat → ClassId) (D : va_G) (A : Nat → Prop),
    am_Cx M d tc D A p R s m args meth c → ∀ (r : Nat → Nat) (H : Heap) (locs : List Loc) (cells slots mc ms : Nat) (sl : Array Slot), am_Sm sc tc D A s r w H locs → lv_has sl M.2.2.1 (am_cl r ls) → am_wl w.length ls → am_ws w.length st → cells + bc ≤ mc → slots + bs ≤ ms → mc ≤ R.cells → ms ≤ R.slots →
    am_End sc M p l e R s m args below meth c Q tc D A mc ms r w.length F →
    W p l e R s m args below meth c H locs cells slots Q (F0 m pc sl (st.map (am_cv r)))
