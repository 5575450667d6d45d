/-! THE RULES: one instruction each -/
theorem am_pure {sc : am_S} {M : am_M} {d bc bs pc q : Nat} {ls : am_L} {st st' : List Value} {w : am_W} {F : Option Value → am_W → Prop} (k : am_Wp sc M d bc bs q ls st' w F) (hst : ∀ n, am_wl n ls → am_ws n st → am_ws n st')
    (hW : ∀ (p : Program) (l : Launch) (e : Env) (R : Room) (s : State) (m : MethodId) (args : Array Value) (below : List Frame) (meth : Method) (c : Code) (H : Heap) (locs : List Loc) (cells slots : Nat) (Q : State → Prop) (r : Nat → Nat) (sl : Array Slot), p.tables.exec = Jvm.exec → c.code = M.2.1 → lv_has sl M.2.2.1 (am_cl r ls) → s.vm.findClass M.1.cls = some m.cls → (∀ x ∈ am_good, x.before args s = true) → W p l e R s m args below meth c H locs cells slots Q (F0 m q sl (st'.map (am_cv r))) → W p l e R s m args below meth c H locs cells slots Q (F0 m pc sl (st.map (am_cv r)))) : am_Wp sc M d bc bs pc ls st w F := by
  intro p l e R s m args below meth c Q tc D A C r H locs cells slots mc ms sl hS hl wl ws h1 h2 h3 h4 hE
  exact hW p l e R s m args below meth c H locs cells slots Q r sl C.1 C.2.1 hl C.2.2.2.2.1 C.2.2.2.2.2.1 (k p l e R s m args below meth c Q tc D A C r H locs cells slots mc ms sl hS hl wl (hst _ wl ws) h1 h2 h3 h4 hE)
/-- the value of a local -/
def am_get (i : Nat) : am_L → Option Value
  | [] => none
  | q :: l => if q.1 = i then some q.2 else am_get i l
theorem am_get_mem {i : Nat} {v : Value} : ∀ {l : am_L}, am_get i l = some v → (i, v) ∈ l
  | q :: l, h => by
    unfold am_get at h
    by_cases hq : q.1 = i
    · rw [if_pos hq] at h
      rw [← hq, ← Option.some.inj h]
      exact List.mem_cons_self
    · rw [if_neg hq] at h
      exact List.mem_cons_of_mem _ (am_get_mem h)
theorem am_get_at {i : Nat} {v : Value} {l : am_L} {r : Nat → Nat} {sl : Array Slot} {n : Nat} (h : am_get i l = some v) (hl : lv_has sl n (am_cl r l)) : sl[i]? = some (.val (am_cv r v)) :=
  hl.2.2 (i, am_cv r v) (List.mem_map.mpr ⟨(i, v), am_get_mem h, rfl⟩)
theorem am_get_w {i n : Nat} {v : Value} {l : am_L} (h : am_get i l = some v) (hl : am_wl n l) : am_wv n v := am_wl_mem hl (am_get_mem h)
/-- a local is written -/
def am_kp (i : Nat) (v : Value) (q : Nat × Value) : Bool := !(q.1 == i) && (!(v.category == 2 && q.1 == i + 1) && !(q.1 + 1 == i && q.2.category == 2))
def am_ins (i : Nat) (v : Value) : am_L → am_L
  | [] => [(i, v)]
  | q :: l => if q.1 < i then q :: am_ins i v l else (i, v) :: q :: l
def am_sto (i : Nat) (v : Value) (l : am_L) : am_L := am_ins i v (l.filter (am_kp i v))
theorem am_ins_mem {i : Nat} {v : Value} {q : Nat × Value} : ∀ {l : am_L}, q ∈ am_ins i v l → q = (i, v) ∨ q ∈ l
  | [], h => Or.inl (List.mem_singleton.mp h)
  | x :: l, h => by
    unfold am_ins at h
    by_cases hx : x.1 < i
    · rw [if_pos hx] at h
      rcases List.mem_cons.mp h with rfl | h
      · exact Or.inr List.mem_cons_self
      · rcases am_ins_mem h with h | h
        · exact Or.inl h
        · exact Or.inr (List.mem_cons_of_mem _ h)
    · rw [if_neg hx] at h
      rcases List.mem_cons.mp h with rfl | h
      · exact Or.inl rfl
      · exact Or.inr h
theorem am_sto_mem {i : Nat} {v : Value} {l : am_L} {q : Nat × Value} (h : q ∈ am_sto i v l) : q = (i, v) ∨ (q ∈ l ∧ am_kp i v q = true) := by
  rcases am_ins_mem h with h | h
  · exact Or.inl h
  · exact Or.inr (List.mem_filter.mp h)
theorem am_cv_cat (r : Nat → Nat) (v : Value) : (am_cv r v).category = v.category := by cases v <;> rfl
theorem am_sto_w {i n : Nat} {v : Value} {l : am_L} (hl : am_wl n l) (hv : am_wv n v) : am_wl n (am_sto i v l) := by
  refine am_wl_of (fun q hq => ?_)
  rcases am_sto_mem hq with rfl | ⟨h, -⟩
  · exact hv
  · exact am_wl_mem hl h
theorem am_sto1 {i n : Nat} {v : Value} {l : am_L} {r : Nat → Nat} {sl : Array Slot} (h : lv_has sl n ((i, am_cv r v) :: (am_cl r l).filter (fun q => !(q.1 == i) && !(q.1 + 1 == i && q.2.category == 2)))) : lv_has sl n (am_cl r (am_sto i v l)) := by
  refine ⟨h.1, h.2.1, fun q hq => h.2.2 q ?_⟩
  obtain ⟨x, hx, rfl⟩ := List.mem_map.mp hq
  rcases am_sto_mem hx with rfl | ⟨h1, h2⟩
  · exact List.mem_cons_self
  · refine List.mem_cons_of_mem _ (List.mem_filter.mpr ⟨List.mem_map.mpr ⟨x, h1, rfl⟩, ?_⟩)
    simp only [am_kp, Bool.and_eq_true] at h2
    simp only [am_cv_cat, Bool.and_eq_true]
    exact ⟨h2.1, h2.2.2⟩
theorem am_sto2 {i n : Nat} {v : Value} {l : am_L} {r : Nat → Nat} {sl : Array Slot} (hv : v.category = 2) (h : lv_has sl n ((i, am_cv r v) :: (am_cl r l).filter (fun q => !(q.1 == i) && (!(q.1 == i + 1) && !(q.1 + 1 == i && q.2.category == 2))))) : lv_has sl n (am_cl r (am_sto i v l)) := by
  refine ⟨h.1, h.2.1, fun q hq => h.2.2 q ?_⟩
  obtain ⟨x, hx, rfl⟩ := List.mem_map.mp hq
  rcases am_sto_mem hx with rfl | ⟨h1, h2⟩
  · exact List.mem_cons_self
  · refine List.mem_cons_of_mem _ (List.mem_filter.mpr ⟨List.mem_map.mpr ⟨x, h1, rfl⟩, ?_⟩)
    simp only [am_kp, Bool.and_eq_true, hv, beq_self_eq_true, Bool.true_and] at h2
    simp only [am_cv_cat, Bool.and_eq_true]
    exact ⟨h2.1, h2.2.1, h2.2.2⟩
section Rules
variable {sc : am_S} {M : am_M} {d bc bs pc q : Nat} {ls : am_L} {st : List Value} {w : am_W} {F : Option Value → am_W → Prop}
theorem wp_iconst {n : Int} {v : Int32} (hd : decode M.2.1 pc = .ok (.iconst n, 1)) (hq : pc + 1 = q) (hv : Int32.ofInt n = v) (k : am_Wp sc M d bc bs q ls (.int v :: st) w F) : am_Wp sc M d bc bs pc ls (st) w F := by
  subst hq
  exact am_pure k (fun n wl ws => ⟨trivial, ws⟩) (fun p l e R s m args below meth c H locs cells slots Q r sl hx hb hl ho ht kk => lv_iconst hx hb hd hv kk)
theorem wp_bipush {n : Int} {v : Int32} (hd : decode M.2.1 pc = .ok (.bipush n, 2)) (hq : pc + 2 = q) (hv : (Int8.ofInt n).toInt32 = v) (k : am_Wp sc M d bc bs q ls (.int v :: st) w F) : am_Wp sc M d bc bs pc ls (st) w F := by
  subst hq
  exact am_pure k (fun n wl ws => ⟨trivial, ws⟩) (fun p l e R s m args below meth c H locs cells slots Q r sl hx hb hl ho ht kk => lv_bipush hx hb hd hv kk)
theorem wp_sipush {n : Int} {v : Int32} (hd : decode M.2.1 pc = .ok (.sipush n, 3)) (hq : pc + 3 = q) (hv : (Int16.ofInt n).toInt32 = v) (k : am_Wp sc M d bc bs q ls (.int v :: st) w F) : am_Wp sc M d bc bs pc ls (st) w F := by
  subst hq
  exact am_pure k (fun n wl ws => ⟨trivial, ws⟩) (fun p l e R s m args below meth c H locs cells slots Q r sl hx hb hl ho ht kk => lv_sipush hx hb hd hv kk)
theorem wp_lconst {n : Fin 2} {v : Int64} (hd : decode M.2.1 pc = .ok (.lconst n, 1)) (hq : pc + 1 = q) (hv : Int64.ofNat (n : Nat) = v) (k : am_Wp sc M d bc bs q ls (.long v :: st) w F) : am_Wp sc M d bc bs pc ls (st) w F := by
  subst hq
  exact am_pure k (fun n wl ws => ⟨trivial, ws⟩) (fun p l e R s m args below meth c H locs cells slots Q r sl hx hb hl ho ht kk => lv_lconst hx hb hd hv kk)
theorem wp_ldc {ix : Nat} {v : Int32} (hd : decode M.2.1 pc = .ok (.ldc ix, 2)) (hq : pc + 2 = q) (hc : Cond.constant M.1.cls ix v ∈ lw_tbl) (k : am_Wp sc M d bc bs q ls (.int v :: st) w F) : am_Wp sc M d bc bs pc ls (st) w F := by
  subst hq
  exact am_pure k (fun n wl ws => ⟨trivial, ws⟩) (fun p l e R s m args below meth c H locs cells slots Q r sl hx hb hl ho ht kk => lv_ldc hx hb ho (ht _ (am_in hc rfl)) hd kk)
theorem wp_ldcw {ix : Nat} {v : Int32} (hd : decode M.2.1 pc = .ok (.ldc_w ix, 3)) (hq : pc + 3 = q) (hc : Cond.constant M.1.cls ix v ∈ lw_tbl) (k : am_Wp sc M d bc bs q ls (.int v :: st) w F) : am_Wp sc M d bc bs pc ls (st) w F := by
  subst hq
  exact am_pure k (fun n wl ws => ⟨trivial, ws⟩) (fun p l e R s m args below meth c H locs cells slots Q r sl hx hb hl ho ht kk => lv_ldcw hx hb ho (ht _ (am_in hc rfl)) hd kk)
theorem wp_ldc2 {ix : Nat} {v : Int64} (hd : decode M.2.1 pc = .ok (.ldc2_w ix, 3)) (hq : pc + 3 = q) (hc : Cond.constantLong M.1.cls ix v ∈ lw_tbl) (k : am_Wp sc M d bc bs q ls (.long v :: st) w F) : am_Wp sc M d bc bs pc ls (st) w F := by
  subst hq
  exact am_pure k (fun n wl ws => ⟨trivial, ws⟩) (fun p l e R s m args below meth c H locs cells slots Q r sl hx hb hl ho ht kk => lv_ldc2 hx hb ho (ht _ (am_in hc rfl)) hd kk)
theorem wp_iload_n {j : Fin 4} {i : Nat} {x : Int32} (hd : decode M.2.1 pc = .ok (.iload_n j, 1)) (hq : pc + 1 = q) (hi : (j : Nat) = i) (hv : am_get i ls = some (.int x)) (k : am_Wp sc M d bc bs q ls (.int x :: st) w F) : am_Wp sc M d bc bs pc ls (st) w F := by
  subst hq
  exact am_pure k (fun n wl ws => ⟨trivial, ws⟩) (fun p l e R s m args below meth c H locs cells slots Q r sl hx hb hl ho ht kk => lv_iload_n hx hb hd hi (am_get_at hv hl) kk)
theorem wp_iload {i : Nat} {x : Int32} (hd : decode M.2.1 pc = .ok (.iload i, 2)) (hq : pc + 2 = q) (hv : am_get i ls = some (.int x)) (k : am_Wp sc M d bc bs q ls (.int x :: st) w F) : am_Wp sc M d bc bs pc ls (st) w F := by
  subst hq
  exact am_pure k (fun n wl ws => ⟨trivial, ws⟩) (fun p l e R s m args below meth c H locs cells slots Q r sl hx hb hl ho ht kk => lv_iload hx hb hd (am_get_at hv hl) kk)
theorem wp_lload_n {j : Fin 4} {i : Nat} {x : Int64} (hd : decode M.2.1 pc = .ok (.lload_n j, 1)) (hq : pc + 1 = q) (hi : (j : Nat) = i) (hv : am_get i ls = some (.long x)) (k : am_Wp sc M d bc bs q ls (.long x :: st) w F) : am_Wp sc M d bc bs pc ls (st) w F := by
  subst hq
  exact am_pure k (fun n wl ws => ⟨trivial, ws⟩) (fun p l e R s m args below meth c H locs cells slots Q r sl hx hb hl ho ht kk => lv_lload_n hx hb hd hi (am_get_at hv hl) kk)
theorem wp_lload {i : Nat} {x : Int64} (hd : decode M.2.1 pc = .ok (.lload i, 2)) (hq : pc + 2 = q) (hv : am_get i ls = some (.long x)) (k : am_Wp sc M d bc bs q ls (.long x :: st) w F) : am_Wp sc M d bc bs pc ls (st) w F := by
  subst hq
  exact am_pure k (fun n wl ws => ⟨trivial, ws⟩) (fun p l e R s m args below meth c H locs cells slots Q r sl hx hb hl ho ht kk => lv_lload hx hb hd (am_get_at hv hl) kk)
theorem wp_aload_n {j : Fin 4} {i a : Nat} (hd : decode M.2.1 pc = .ok (.aload_n j, 1)) (hq : pc + 1 = q) (hi : (j : Nat) = i) (hv : am_get i ls = some (.ref a)) (k : am_Wp sc M d bc bs q ls (.ref a :: st) w F) : am_Wp sc M d bc bs pc ls (st) w F := by
  subst hq
  exact am_pure k (fun n wl ws => ⟨am_get_w hv wl, ws⟩) (fun p l e R s m args below meth c H locs cells slots Q r sl hx hb hl ho ht kk => lv_aload_n hx hb hd hi (am_get_at hv hl) kk)
theorem wp_aload {i a : Nat} (hd : decode M.2.1 pc = .ok (.aload i, 2)) (hq : pc + 2 = q) (hv : am_get i ls = some (.ref a)) (k : am_Wp sc M d bc bs q ls (.ref a :: st) w F) : am_Wp sc M d bc bs pc ls (st) w F := by
  subst hq
  exact am_pure k (fun n wl ws => ⟨am_get_w hv wl, ws⟩) (fun p l e R s m args below meth c H locs cells slots Q r sl hx hb hl ho ht kk => lv_aload hx hb hd (am_get_at hv hl) kk)
theorem wp_aload_nX {j : Fin 4} {i a : Nat} (hd : decode M.2.1 pc = .ok (.aload_n j, 1)) (hq : pc + 1 = q) (hi : (j : Nat) = i) (hv : am_get i ls = some (.retAddr a)) (k : am_Wp sc M d bc bs q ls (.retAddr a :: st) w F) : am_Wp sc M d bc bs pc ls (st) w F := by
  subst hq
  exact am_pure k (fun n wl ws => ⟨trivial, ws⟩) (fun p l e R s m args below meth c H locs cells slots Q r sl hx hb hl ho ht kk => lv_aload_n hx hb hd hi (am_get_at hv hl) kk)
theorem wp_iadd {x y : Int32} (hd : decode M.2.1 pc = .ok (.iadd, 1)) (hq : pc + 1 = q) (k : am_Wp sc M d bc bs q ls (.int (x + y) :: st) w F) : am_Wp sc M d bc bs pc ls (.int y :: .int x :: st) w F := by
  subst hq
  exact am_pure k (fun n wl ws => ⟨trivial, ws.2.2⟩) (fun p l e R s m args below meth c H locs cells slots Q r sl hx hb hl ho ht kk => lv_iadd hx hb hd kk)
theorem wp_isub {x y : Int32} (hd : decode M.2.1 pc = .ok (.isub, 1)) (hq : pc + 1 = q) (k : am_Wp sc M d bc bs q ls (.int (x - y) :: st) w F) : am_Wp sc M d bc bs pc ls (.int y :: .int x :: st) w F := by
  subst hq
  exact am_pure k (fun n wl ws => ⟨trivial, ws.2.2⟩) (fun p l e R s m args below meth c H locs cells slots Q r sl hx hb hl ho ht kk => lv_isub hx hb hd kk)
theorem wp_imul {x y : Int32} (hd : decode M.2.1 pc = .ok (.imul, 1)) (hq : pc + 1 = q) (k : am_Wp sc M d bc bs q ls (.int (x * y) :: st) w F) : am_Wp sc M d bc bs pc ls (.int y :: .int x :: st) w F := by
  subst hq
  exact am_pure k (fun n wl ws => ⟨trivial, ws.2.2⟩) (fun p l e R s m args below meth c H locs cells slots Q r sl hx hb hl ho ht kk => lv_imul hx hb hd kk)
theorem wp_iand {x y : Int32} (hd : decode M.2.1 pc = .ok (.iand, 1)) (hq : pc + 1 = q) (k : am_Wp sc M d bc bs q ls (.int (x &&& y) :: st) w F) : am_Wp sc M d bc bs pc ls (.int y :: .int x :: st) w F := by
  subst hq
  exact am_pure k (fun n wl ws => ⟨trivial, ws.2.2⟩) (fun p l e R s m args below meth c H locs cells slots Q r sl hx hb hl ho ht kk => lv_iand hx hb hd kk)
theorem wp_ior {x y : Int32} (hd : decode M.2.1 pc = .ok (.ior, 1)) (hq : pc + 1 = q) (k : am_Wp sc M d bc bs q ls (.int (x ||| y) :: st) w F) : am_Wp sc M d bc bs pc ls (.int y :: .int x :: st) w F := by
  subst hq
  exact am_pure k (fun n wl ws => ⟨trivial, ws.2.2⟩) (fun p l e R s m args below meth c H locs cells slots Q r sl hx hb hl ho ht kk => lv_ior hx hb hd kk)
theorem wp_ixor {x y : Int32} (hd : decode M.2.1 pc = .ok (.ixor, 1)) (hq : pc + 1 = q) (k : am_Wp sc M d bc bs q ls (.int (x ^^^ y) :: st) w F) : am_Wp sc M d bc bs pc ls (.int y :: .int x :: st) w F := by
  subst hq
  exact am_pure k (fun n wl ws => ⟨trivial, ws.2.2⟩) (fun p l e R s m args below meth c H locs cells slots Q r sl hx hb hl ho ht kk => lv_ixor hx hb hd kk)
theorem wp_ishl {x y : Int32} (hd : decode M.2.1 pc = .ok (.ishl, 1)) (hq : pc + 1 = q) (k : am_Wp sc M d bc bs q ls (.int (x <<< (y &&& 31)) :: st) w F) : am_Wp sc M d bc bs pc ls (.int y :: .int x :: st) w F := by
  subst hq
  exact am_pure k (fun n wl ws => ⟨trivial, ws.2.2⟩) (fun p l e R s m args below meth c H locs cells slots Q r sl hx hb hl ho ht kk => lv_ishl hx hb hd kk)
theorem wp_ishr {x y : Int32} (hd : decode M.2.1 pc = .ok (.ishr, 1)) (hq : pc + 1 = q) (k : am_Wp sc M d bc bs q ls (.int (x >>> (y &&& 31)) :: st) w F) : am_Wp sc M d bc bs pc ls (.int y :: .int x :: st) w F := by
  subst hq
  exact am_pure k (fun n wl ws => ⟨trivial, ws.2.2⟩) (fun p l e R s m args below meth c H locs cells slots Q r sl hx hb hl ho ht kk => lv_ishr hx hb hd kk)
theorem wp_iushr {x y : Int32} (hd : decode M.2.1 pc = .ok (.iushr, 1)) (hq : pc + 1 = q) (k : am_Wp sc M d bc bs q ls (.int ((x.toUInt32 >>> (y.toUInt32 &&& Int32.toUInt32 31)).toInt32) :: st) w F) : am_Wp sc M d bc bs pc ls (.int y :: .int x :: st) w F := by
  subst hq
  exact am_pure k (fun n wl ws => ⟨trivial, ws.2.2⟩) (fun p l e R s m args below meth c H locs cells slots Q r sl hx hb hl ho ht kk => lv_iushr hx hb hd rfl kk)
theorem wp_ineg {x : Int32} (hd : decode M.2.1 pc = .ok (.ineg, 1)) (hq : pc + 1 = q) (k : am_Wp sc M d bc bs q ls (.int (-x) :: st) w F) : am_Wp sc M d bc bs pc ls (.int x :: st) w F := by
  subst hq
  exact am_pure k (fun n wl ws => ⟨trivial, ws.2⟩) (fun p l e R s m args below meth c H locs cells slots Q r sl hx hb hl ho ht kk => lv_ineg hx hb hd kk)
theorem wp_idiv {x y : Int32} (hd : decode M.2.1 pc = .ok (.idiv, 1)) (hq : pc + 1 = q) (hne : ¬ y = 0) (k : am_Wp sc M d bc bs q ls (.int (x / y) :: st) w F) : am_Wp sc M d bc bs pc ls (.int y :: .int x :: st) w F := by
  subst hq
  exact am_pure k (fun n wl ws => ⟨trivial, ws.2.2⟩) (fun p l e R s m args below meth c H locs cells slots Q r sl hx hb hl ho ht kk => lv_idiv hx hb hd hne kk)
theorem wp_irem {x y : Int32} (hd : decode M.2.1 pc = .ok (.irem, 1)) (hq : pc + 1 = q) (hne : ¬ y = 0) (k : am_Wp sc M d bc bs q ls (.int (x - x / y * y) :: st) w F) : am_Wp sc M d bc bs pc ls (.int y :: .int x :: st) w F := by
  subst hq
  exact am_pure k (fun n wl ws => ⟨trivial, ws.2.2⟩) (fun p l e R s m args below meth c H locs cells slots Q r sl hx hb hl ho ht kk => lv_irem hx hb hd hne kk)
theorem wp_ladd {x y : Int64} (hd : decode M.2.1 pc = .ok (.ladd, 1)) (hq : pc + 1 = q) (k : am_Wp sc M d bc bs q ls (.long (x + y) :: st) w F) : am_Wp sc M d bc bs pc ls (.long y :: .long x :: st) w F := by
  subst hq
  exact am_pure k (fun n wl ws => ⟨trivial, ws.2.2⟩) (fun p l e R s m args below meth c H locs cells slots Q r sl hx hb hl ho ht kk => lv_ladd hx hb hd kk)
theorem wp_lsub {x y : Int64} (hd : decode M.2.1 pc = .ok (.lsub, 1)) (hq : pc + 1 = q) (k : am_Wp sc M d bc bs q ls (.long (x - y) :: st) w F) : am_Wp sc M d bc bs pc ls (.long y :: .long x :: st) w F := by
  subst hq
  exact am_pure k (fun n wl ws => ⟨trivial, ws.2.2⟩) (fun p l e R s m args below meth c H locs cells slots Q r sl hx hb hl ho ht kk => lv_lsub hx hb hd kk)
theorem wp_lmul {x y : Int64} (hd : decode M.2.1 pc = .ok (.lmul, 1)) (hq : pc + 1 = q) (k : am_Wp sc M d bc bs q ls (.long (x * y) :: st) w F) : am_Wp sc M d bc bs pc ls (.long y :: .long x :: st) w F := by
  subst hq
  exact am_pure k (fun n wl ws => ⟨trivial, ws.2.2⟩) (fun p l e R s m args below meth c H locs cells slots Q r sl hx hb hl ho ht kk => lv_lmul hx hb hd kk)
theorem wp_land {x y : Int64} (hd : decode M.2.1 pc = .ok (.land, 1)) (hq : pc + 1 = q) (k : am_Wp sc M d bc bs q ls (.long (x &&& y) :: st) w F) : am_Wp sc M d bc bs pc ls (.long y :: .long x :: st) w F := by
  subst hq
  exact am_pure k (fun n wl ws => ⟨trivial, ws.2.2⟩) (fun p l e R s m args below meth c H locs cells slots Q r sl hx hb hl ho ht kk => lv_land hx hb hd kk)
theorem wp_lor {x y : Int64} (hd : decode M.2.1 pc = .ok (.lor, 1)) (hq : pc + 1 = q) (k : am_Wp sc M d bc bs q ls (.long (x ||| y) :: st) w F) : am_Wp sc M d bc bs pc ls (.long y :: .long x :: st) w F := by
  subst hq
  exact am_pure k (fun n wl ws => ⟨trivial, ws.2.2⟩) (fun p l e R s m args below meth c H locs cells slots Q r sl hx hb hl ho ht kk => lv_lor hx hb hd kk)
theorem wp_lxor {x y : Int64} (hd : decode M.2.1 pc = .ok (.lxor, 1)) (hq : pc + 1 = q) (k : am_Wp sc M d bc bs q ls (.long (x ^^^ y) :: st) w F) : am_Wp sc M d bc bs pc ls (.long y :: .long x :: st) w F := by
  subst hq
  exact am_pure k (fun n wl ws => ⟨trivial, ws.2.2⟩) (fun p l e R s m args below meth c H locs cells slots Q r sl hx hb hl ho ht kk => lv_lxor hx hb hd kk)
theorem wp_lshl {x : Int64} {y : Int32} (hd : decode M.2.1 pc = .ok (.lshl, 1)) (hq : pc + 1 = q) (k : am_Wp sc M d bc bs q ls (.long (x <<< (y.toInt64 &&& 63)) :: st) w F) : am_Wp sc M d bc bs pc ls (.int y :: .long x :: st) w F := by
  subst hq
  exact am_pure k (fun n wl ws => ⟨trivial, ws.2.2⟩) (fun p l e R s m args below meth c H locs cells slots Q r sl hx hb hl ho ht kk => lv_lshl hx hb hd rfl kk)
theorem wp_lshr {x : Int64} {y : Int32} (hd : decode M.2.1 pc = .ok (.lshr, 1)) (hq : pc + 1 = q) (k : am_Wp sc M d bc bs q ls (.long (x >>> (y.toInt64 &&& 63)) :: st) w F) : am_Wp sc M d bc bs pc ls (.int y :: .long x :: st) w F := by
  subst hq
  exact am_pure k (fun n wl ws => ⟨trivial, ws.2.2⟩) (fun p l e R s m args below meth c H locs cells slots Q r sl hx hb hl ho ht kk => lv_lshr hx hb hd rfl kk)
theorem wp_i2l {x : Int32} (hd : decode M.2.1 pc = .ok (.i2l, 1)) (hq : pc + 1 = q) (k : am_Wp sc M d bc bs q ls (.long x.toInt64 :: st) w F) : am_Wp sc M d bc bs pc ls (.int x :: st) w F := by
  subst hq
  exact am_pure k (fun n wl ws => ⟨trivial, ws.2⟩) (fun p l e R s m args below meth c H locs cells slots Q r sl hx hb hl ho ht kk => lv_i2l hx hb hd rfl kk)
theorem wp_l2i {x : Int64} (hd : decode M.2.1 pc = .ok (.l2i, 1)) (hq : pc + 1 = q) (k : am_Wp sc M d bc bs q ls (.int x.toInt32 :: st) w F) : am_Wp sc M d bc bs pc ls (.long x :: st) w F := by
  subst hq
  exact am_pure k (fun n wl ws => ⟨trivial, ws.2⟩) (fun p l e R s m args below meth c H locs cells slots Q r sl hx hb hl ho ht kk => lv_l2i hx hb hd rfl kk)
theorem wp_lcmp {x y : Int64} (hd : decode M.2.1 pc = .ok (.lcmp, 1)) (hq : pc + 1 = q) (k : am_Wp sc M d bc bs q ls (.int (lg_cmp x y) :: st) w F) : am_Wp sc M d bc bs pc ls (.long y :: .long x :: st) w F := by
  subst hq
  exact am_pure k (fun n wl ws => ⟨trivial, ws.2.2⟩) (fun p l e R s m args below meth c H locs cells slots Q r sl hx hb hl ho ht kk => W.lcmp hx hb hd kk)
theorem wp_dup {v : Value} (hd : decode M.2.1 pc = .ok (.dup, 1)) (hq : pc + 1 = q) (hv : v.category = 1) (k : am_Wp sc M d bc bs q ls (v :: v :: st) w F) : am_Wp sc M d bc bs pc ls (v :: st) w F := by
  subst hq
  exact am_pure k (fun n wl ws => ⟨ws.1, ws⟩) (fun p l e R s m args below meth c H locs cells slots Q r sl hx hb hl ho ht kk => lv_dup hx hb hd ((am_cv_cat r v).trans hv) kk)
theorem wp_pop {v : Value} (hd : decode M.2.1 pc = .ok (.pop, 1)) (hq : pc + 1 = q) (hv : v.category = 1) (k : am_Wp sc M d bc bs q ls (st) w F) : am_Wp sc M d bc bs pc ls (v :: st) w F := by
  subst hq
  exact am_pure k (fun n wl ws => ws.2) (fun p l e R s m args below meth c H locs cells slots Q r sl hx hb hl ho ht kk => lv_pop hx hb hd ((am_cv_cat r v).trans hv) kk)
theorem wp_dup_x1 {v u : Value} (hd : decode M.2.1 pc = .ok (.dup_x1, 1)) (hq : pc + 1 = q) (hv : v.category = 1) (hu : u.category = 1) (k : am_Wp sc M d bc bs q ls (v :: u :: v :: st) w F) : am_Wp sc M d bc bs pc ls (v :: u :: st) w F := by
  subst hq
  exact am_pure k (fun n wl ws => ⟨ws.1, ws.2.1, ws.1, ws.2.2⟩) (fun p l e R s m args below meth c H locs cells slots Q r sl hx hb hl ho ht kk => lv_dup_x1 hx hb hd ((am_cv_cat r v).trans hv) ((am_cv_cat r u).trans hu) kk)
theorem wp_dup_x2 {v u t : Value} (hd : decode M.2.1 pc = .ok (.dup_x2, 1)) (hq : pc + 1 = q) (hv : v.category = 1) (hu : u.category = 1) (htt : t.category = 1) (k : am_Wp sc M d bc bs q ls (v :: u :: t :: v :: st) w F) : am_Wp sc M d bc bs pc ls (v :: u :: t :: st) w F := by
  subst hq
  exact am_pure k (fun n wl ws => ⟨ws.1, ws.2.1, ws.2.2.1, ws.1, ws.2.2.2⟩) (fun p l e R s m args below meth c H locs cells slots Q r sl hx hb hl ho ht kk => lv_dup_x2 hx hb hd ((am_cv_cat r v).trans hv) ((am_cv_cat r u).trans hu) ((am_cv_cat r t).trans htt) kk)
theorem wp_dup2 {v u : Value} (hd : decode M.2.1 pc = .ok (.dup2, 1)) (hq : pc + 1 = q) (hv : v.category = 1) (hu : u.category = 1) (k : am_Wp sc M d bc bs q ls (v :: u :: v :: u :: st) w F) : am_Wp sc M d bc bs pc ls (v :: u :: st) w F := by
  subst hq
  exact am_pure k (fun n wl ws => ⟨ws.1, ws.2.1, ws⟩) (fun p l e R s m args below meth c H locs cells slots Q r sl hx hb hl ho ht kk => lv_dup2_11 hx hb hd ((am_cv_cat r v).trans hv) ((am_cv_cat r u).trans hu) kk)
theorem wp_dup2L {v : Value} (hd : decode M.2.1 pc = .ok (.dup2, 1)) (hq : pc + 1 = q) (hv : v.category = 2) (k : am_Wp sc M d bc bs q ls (v :: v :: st) w F) : am_Wp sc M d bc bs pc ls (v :: st) w F := by
  subst hq
  exact am_pure k (fun n wl ws => ⟨ws.1, ws⟩) (fun p l e R s m args below meth c H locs cells slots Q r sl hx hb hl ho ht kk => lv_dup2_2 hx hb hd ((am_cv_cat r v).trans hv) kk)
theorem wp_pop2L {v : Value} (hd : decode M.2.1 pc = .ok (.pop2, 1)) (hq : pc + 1 = q) (hv : v.category = 2) (k : am_Wp sc M d bc bs q ls (st) w F) : am_Wp sc M d bc bs pc ls (v :: st) w F := by
  subst hq
  exact am_pure k (fun n wl ws => ws.2) (fun p l e R s m args below meth c H locs cells slots Q r sl hx hb hl ho ht kk => lv_pop2_2 hx hb hd ((am_cv_cat r v).trans hv) kk)
theorem wp_istore_n {j : Fin 4} {i : Nat} {x : Int32} {ls' : am_L} (hd : decode M.2.1 pc = .ok (.istore_n j, 1)) (hq : pc + 1 = q) (hi : (j : Nat) = i) (hn : i < M.2.2.1) (hl' : am_sto i (.int x) ls = ls') (k : am_Wp sc M d bc bs q ls' st w F) : am_Wp sc M d bc bs pc ls ((.int x) :: st) w F := by
  subst hq
  subst hl'
  intro p l e R s m args below meth c Q tc D A C r H locs cells slots mc ms sl hS hl wl ws h1 h2 h3 h4 hE
  exact lv_istore_n C.1 C.2.1 hd hi hl hn rfl (fun sl' h' => k p l e R s m args below meth c Q tc D A C r H locs cells slots mc ms sl' hS (am_sto1 h') (am_sto_w wl ws.1) ws.2 h1 h2 h3 h4 hE)
theorem wp_istore {i : Nat} {x : Int32} {ls' : am_L} (hd : decode M.2.1 pc = .ok (.istore i, 2)) (hq : pc + 2 = q) (hn : i < M.2.2.1) (hl' : am_sto i (.int x) ls = ls') (k : am_Wp sc M d bc bs q ls' st w F) : am_Wp sc M d bc bs pc ls ((.int x) :: st) w F := by
  subst hq
  subst hl'
  intro p l e R s m args below meth c Q tc D A C r H locs cells slots mc ms sl hS hl wl ws h1 h2 h3 h4 hE
  exact lv_istore C.1 C.2.1 hd hl hn rfl (fun sl' h' => k p l e R s m args below meth c Q tc D A C r H locs cells slots mc ms sl' hS (am_sto1 h') (am_sto_w wl ws.1) ws.2 h1 h2 h3 h4 hE)
theorem wp_lstore_n {j : Fin 4} {i : Nat} {x : Int64} {ls' : am_L} (hd : decode M.2.1 pc = .ok (.lstore_n j, 1)) (hq : pc + 1 = q) (hi : (j : Nat) = i) (hn : i + 1 < M.2.2.1) (hl' : am_sto i (.long x) ls = ls') (k : am_Wp sc M d bc bs q ls' st w F) : am_Wp sc M d bc bs pc ls ((.long x) :: st) w F := by
  subst hq
  subst hl'
  intro p l e R s m args below meth c Q tc D A C r H locs cells slots mc ms sl hS hl wl ws h1 h2 h3 h4 hE
  exact lv_lstore_n C.1 C.2.1 hd hi hl hn rfl (fun sl' h' => k p l e R s m args below meth c Q tc D A C r H locs cells slots mc ms sl' hS (am_sto2 rfl h') (am_sto_w wl ws.1) ws.2 h1 h2 h3 h4 hE)
theorem wp_lstore {i : Nat} {x : Int64} {ls' : am_L} (hd : decode M.2.1 pc = .ok (.lstore i, 2)) (hq : pc + 2 = q) (hn : i + 1 < M.2.2.1) (hl' : am_sto i (.long x) ls = ls') (k : am_Wp sc M d bc bs q ls' st w F) : am_Wp sc M d bc bs pc ls ((.long x) :: st) w F := by
  subst hq
  subst hl'
  intro p l e R s m args below meth c Q tc D A C r H locs cells slots mc ms sl hS hl wl ws h1 h2 h3 h4 hE
  exact lv_lstore C.1 C.2.1 hd hl hn rfl (fun sl' h' => k p l e R s m args below meth c Q tc D A C r H locs cells slots mc ms sl' hS (am_sto2 rfl h') (am_sto_w wl ws.1) ws.2 h1 h2 h3 h4 hE)
theorem wp_astore_n {j : Fin 4} {i a : Nat} {ls' : am_L} (hd : decode M.2.1 pc = .ok (.astore_n j, 1)) (hq : pc + 1 = q) (hi : (j : Nat) = i) (hn : i < M.2.2.1) (hl' : am_sto i (.ref a) ls = ls') (k : am_Wp sc M d bc bs q ls' st w F) : am_Wp sc M d bc bs pc ls ((.ref a) :: st) w F := by
  subst hq
  subst hl'
  intro p l e R s m args below meth c Q tc D A C r H locs cells slots mc ms sl hS hl wl ws h1 h2 h3 h4 hE
  exact lv_astore_n C.1 C.2.1 hd hi hl hn rfl (fun sl' h' => k p l e R s m args below meth c Q tc D A C r H locs cells slots mc ms sl' hS (am_sto1 h') (am_sto_w wl ws.1) ws.2 h1 h2 h3 h4 hE)
theorem wp_astore {i a : Nat} {ls' : am_L} (hd : decode M.2.1 pc = .ok (.astore i, 2)) (hq : pc + 2 = q) (hn : i < M.2.2.1) (hl' : am_sto i (.ref a) ls = ls') (k : am_Wp sc M d bc bs q ls' st w F) : am_Wp sc M d bc bs pc ls ((.ref a) :: st) w F := by
  subst hq
  subst hl'
  intro p l e R s m args below meth c Q tc D A C r H locs cells slots mc ms sl hS hl wl ws h1 h2 h3 h4 hE
  exact lv_astore C.1 C.2.1 hd hl hn rfl (fun sl' h' => k p l e R s m args below meth c Q tc D A C r H locs cells slots mc ms sl' hS (am_sto1 h') (am_sto_w wl ws.1) ws.2 h1 h2 h3 h4 hE)
theorem am_cl_get {i : Nat} {v : Value} {l : am_L} {r : Nat → Nat} (h : am_get i l = some v) : ∃ k : Nat, (am_cl r l)[k]? = some (i, am_cv r v) :=
  List.getElem?_of_mem (List.mem_map.mpr ⟨(i, v), am_get_mem h, rfl⟩)
theorem wp_iinc {i : Nat} {n : Int} {x v : Int32} {ls' : am_L} (hd : decode M.2.1 pc = .ok (.iinc i n, 3)) (hq : pc + 3 = q) (hg : am_get i ls = some (.int x)) (hv : x + Int32.ofInt n = v) (hn : i < M.2.2.1) (hl' : am_sto i (.int v) ls = ls') (k : am_Wp sc M d bc bs q ls' st w F) : am_Wp sc M d bc bs pc ls st w F := by
  subst hq
  subst hl'
  intro p l e R s m args below meth c Q tc D A C r H locs cells slots mc ms sl hS hl wl ws h1 h2 h3 h4 hE
  obtain ⟨k0, hk0⟩ := am_cl_get (r := r) hg
  exact lv_iinc C.1 C.2.1 hd hl hk0 hv hn rfl (fun sl' h' => k p l e R s m args below meth c Q tc D A C r H locs cells slots mc ms sl' hS (am_sto1 h') (am_sto_w wl trivial) ws h1 h2 h3 h4 hE)
theorem wp_inc1 {i : Nat} {x v : Int32} {ls' : am_L} (hd : decode M.2.1 pc = .ok (.iinc i 1, 3)) (hq : pc + 3 = q) (hg : am_get i ls = some (.int x)) (hv : x + 1 = v) (hn : i < M.2.2.1) (hl' : am_sto i (.int v) ls = ls') (k : am_Wp sc M d bc bs q ls' st w F) : am_Wp sc M d bc bs pc ls st w F :=
  wp_iinc hd hq hg (show x + Int32.ofInt 1 = v from hv) hn hl' k
theorem wp_if_eq {x : Int32} {off : Int} {tgt : Nat} (hd : decode M.2.1 pc = .ok (.ifCond .eq off, 3)) (ht : (pc : Int) + off = (tgt : Int)) (hq : pc + 3 = q) (kt : x = 0 → am_Wp sc M d bc bs tgt ls st w F) (kf : ¬ x = 0 → am_Wp sc M d bc bs q ls st w F) : am_Wp sc M d bc bs pc ls (.int x :: st) w F := by
  subst hq
  intro p l e R s m args below meth c Q tc D A C r H locs cells slots mc ms sl hS hl wl ws h1 h2 h3 h4 hE
  exact lv_if_eq C.1 C.2.1 hd ht (fun hc => kt hc p l e R s m args below meth c Q tc D A C r H locs cells slots mc ms sl hS hl wl ws.2 h1 h2 h3 h4 hE) (fun hc => kf hc p l e R s m args below meth c Q tc D A C r H locs cells slots mc ms sl hS hl wl ws.2 h1 h2 h3 h4 hE)
theorem wp_icmp_eq {x y : Int32} {off : Int} {tgt : Nat} (hd : decode M.2.1 pc = .ok (.if_icmp .eq off, 3)) (ht : (pc : Int) + off = (tgt : Int)) (hq : pc + 3 = q) (kt : x = y → am_Wp sc M d bc bs tgt ls st w F) (kf : ¬ x = y → am_Wp sc M d bc bs q ls st w F) : am_Wp sc M d bc bs pc ls (.int y :: .int x :: st) w F := by
  subst hq
  intro p l e R s m args below meth c Q tc D A C r H locs cells slots mc ms sl hS hl wl ws h1 h2 h3 h4 hE
  exact lv_icmp_eq C.1 C.2.1 hd ht (fun hc => kt hc p l e R s m args below meth c Q tc D A C r H locs cells slots mc ms sl hS hl wl ws.2.2 h1 h2 h3 h4 hE) (fun hc => kf hc p l e R s m args below meth c Q tc D A C r H locs cells slots mc ms sl hS hl wl ws.2.2 h1 h2 h3 h4 hE)
theorem wp_if_ne {x : Int32} {off : Int} {tgt : Nat} (hd : decode M.2.1 pc = .ok (.ifCond .ne off, 3)) (ht : (pc : Int) + off = (tgt : Int)) (hq : pc + 3 = q) (kt : ¬ x = 0 → am_Wp sc M d bc bs tgt ls st w F) (kf : x = 0 → am_Wp sc M d bc bs q ls st w F) : am_Wp sc M d bc bs pc ls (.int x :: st) w F := by
  subst hq
  intro p l e R s m args below meth c Q tc D A C r H locs cells slots mc ms sl hS hl wl ws h1 h2 h3 h4 hE
  exact lv_if_ne C.1 C.2.1 hd ht (fun hc => kt hc p l e R s m args below meth c Q tc D A C r H locs cells slots mc ms sl hS hl wl ws.2 h1 h2 h3 h4 hE) (fun hc => kf hc p l e R s m args below meth c Q tc D A C r H locs cells slots mc ms sl hS hl wl ws.2 h1 h2 h3 h4 hE)
theorem wp_icmp_ne {x y : Int32} {off : Int} {tgt : Nat} (hd : decode M.2.1 pc = .ok (.if_icmp .ne off, 3)) (ht : (pc : Int) + off = (tgt : Int)) (hq : pc + 3 = q) (kt : ¬ x = y → am_Wp sc M d bc bs tgt ls st w F) (kf : x = y → am_Wp sc M d bc bs q ls st w F) : am_Wp sc M d bc bs pc ls (.int y :: .int x :: st) w F := by
  subst hq
  intro p l e R s m args below meth c Q tc D A C r H locs cells slots mc ms sl hS hl wl ws h1 h2 h3 h4 hE
  exact lv_icmp_ne C.1 C.2.1 hd ht (fun hc => kt hc p l e R s m args below meth c Q tc D A C r H locs cells slots mc ms sl hS hl wl ws.2.2 h1 h2 h3 h4 hE) (fun hc => kf hc p l e R s m args below meth c Q tc D A C r H locs cells slots mc ms sl hS hl wl ws.2.2 h1 h2 h3 h4 hE)
theorem wp_if_lt {x : Int32} {off : Int} {tgt : Nat} (hd : decode M.2.1 pc = .ok (.ifCond .lt off, 3)) (ht : (pc : Int) + off = (tgt : Int)) (hq : pc + 3 = q) (kt : x < 0 → am_Wp sc M d bc bs tgt ls st w F) (kf : ¬ x < 0 → am_Wp sc M d bc bs q ls st w F) : am_Wp sc M d bc bs pc ls (.int x :: st) w F := by
  subst hq
  intro p l e R s m args below meth c Q tc D A C r H locs cells slots mc ms sl hS hl wl ws h1 h2 h3 h4 hE
  exact lv_if_lt C.1 C.2.1 hd ht (fun hc => kt hc p l e R s m args below meth c Q tc D A C r H locs cells slots mc ms sl hS hl wl ws.2 h1 h2 h3 h4 hE) (fun hc => kf hc p l e R s m args below meth c Q tc D A C r H locs cells slots mc ms sl hS hl wl ws.2 h1 h2 h3 h4 hE)
theorem wp_icmp_lt {x y : Int32} {off : Int} {tgt : Nat} (hd : decode M.2.1 pc = .ok (.if_icmp .lt off, 3)) (ht : (pc : Int) + off = (tgt : Int)) (hq : pc + 3 = q) (kt : x < y → am_Wp sc M d bc bs tgt ls st w F) (kf : ¬ x < y → am_Wp sc M d bc bs q ls st w F) : am_Wp sc M d bc bs pc ls (.int y :: .int x :: st) w F := by
  subst hq
  intro p l e R s m args below meth c Q tc D A C r H locs cells slots mc ms sl hS hl wl ws h1 h2 h3 h4 hE
  exact lv_icmp_lt C.1 C.2.1 hd ht (fun hc => kt hc p l e R s m args below meth c Q tc D A C r H locs cells slots mc ms sl hS hl wl ws.2.2 h1 h2 h3 h4 hE) (fun hc => kf hc p l e R s m args below meth c Q tc D A C r H locs cells slots mc ms sl hS hl wl ws.2.2 h1 h2 h3 h4 hE)
theorem wp_if_ge {x : Int32} {off : Int} {tgt : Nat} (hd : decode M.2.1 pc = .ok (.ifCond .ge off, 3)) (ht : (pc : Int) + off = (tgt : Int)) (hq : pc + 3 = q) (kt : 0 ≤ x → am_Wp sc M d bc bs tgt ls st w F) (kf : ¬ 0 ≤ x → am_Wp sc M d bc bs q ls st w F) : am_Wp sc M d bc bs pc ls (.int x :: st) w F := by
  subst hq
  intro p l e R s m args below meth c Q tc D A C r H locs cells slots mc ms sl hS hl wl ws h1 h2 h3 h4 hE
  exact lv_if_ge C.1 C.2.1 hd ht (fun hc => kt hc p l e R s m args below meth c Q tc D A C r H locs cells slots mc ms sl hS hl wl ws.2 h1 h2 h3 h4 hE) (fun hc => kf hc p l e R s m args below meth c Q tc D A C r H locs cells slots mc ms sl hS hl wl ws.2 h1 h2 h3 h4 hE)
theorem wp_icmp_ge {x y : Int32} {off : Int} {tgt : Nat} (hd : decode M.2.1 pc = .ok (.if_icmp .ge off, 3)) (ht : (pc : Int) + off = (tgt : Int)) (hq : pc + 3 = q) (kt : y ≤ x → am_Wp sc M d bc bs tgt ls st w F) (kf : ¬ y ≤ x → am_Wp sc M d bc bs q ls st w F) : am_Wp sc M d bc bs pc ls (.int y :: .int x :: st) w F := by
  subst hq
  intro p l e R s m args below meth c Q tc D A C r H locs cells slots mc ms sl hS hl wl ws h1 h2 h3 h4 hE
  exact lv_icmp_ge C.1 C.2.1 hd ht (fun hc => kt hc p l e R s m args below meth c Q tc D A C r H locs cells slots mc ms sl hS hl wl ws.2.2 h1 h2 h3 h4 hE) (fun hc => kf hc p l e R s m args below meth c Q tc D A C r H locs cells slots mc ms sl hS hl wl ws.2.2 h1 h2 h3 h4 hE)
theorem wp_if_gt {x : Int32} {off : Int} {tgt : Nat} (hd : decode M.2.1 pc = .ok (.ifCond .gt off, 3)) (ht : (pc : Int) + off = (tgt : Int)) (hq : pc + 3 = q) (kt : 0 < x → am_Wp sc M d bc bs tgt ls st w F) (kf : ¬ 0 < x → am_Wp sc M d bc bs q ls st w F) : am_Wp sc M d bc bs pc ls (.int x :: st) w F := by
  subst hq
  intro p l e R s m args below meth c Q tc D A C r H locs cells slots mc ms sl hS hl wl ws h1 h2 h3 h4 hE
  exact lv_if_gt C.1 C.2.1 hd ht (fun hc => kt hc p l e R s m args below meth c Q tc D A C r H locs cells slots mc ms sl hS hl wl ws.2 h1 h2 h3 h4 hE) (fun hc => kf hc p l e R s m args below meth c Q tc D A C r H locs cells slots mc ms sl hS hl wl ws.2 h1 h2 h3 h4 hE)
theorem wp_icmp_gt {x y : Int32} {off : Int} {tgt : Nat} (hd : decode M.2.1 pc = .ok (.if_icmp .gt off, 3)) (ht : (pc : Int) + off = (tgt : Int)) (hq : pc + 3 = q) (kt : y < x → am_Wp sc M d bc bs tgt ls st w F) (kf : ¬ y < x → am_Wp sc M d bc bs q ls st w F) : am_Wp sc M d bc bs pc ls (.int y :: .int x :: st) w F := by
  subst hq
  intro p l e R s m args below meth c Q tc D A C r H locs cells slots mc ms sl hS hl wl ws h1 h2 h3 h4 hE
  exact lv_icmp_gt C.1 C.2.1 hd ht (fun hc => kt hc p l e R s m args below meth c Q tc D A C r H locs cells slots mc ms sl hS hl wl ws.2.2 h1 h2 h3 h4 hE) (fun hc => kf hc p l e R s m args below meth c Q tc D A C r H locs cells slots mc ms sl hS hl wl ws.2.2 h1 h2 h3 h4 hE)
theorem wp_if_le {x : Int32} {off : Int} {tgt : Nat} (hd : decode M.2.1 pc = .ok (.ifCond .le off, 3)) (ht : (pc : Int) + off = (tgt : Int)) (hq : pc + 3 = q) (kt : x ≤ 0 → am_Wp sc M d bc bs tgt ls st w F) (kf : ¬ x ≤ 0 → am_Wp sc M d bc bs q ls st w F) : am_Wp sc M d bc bs pc ls (.int x :: st) w F := by
  subst hq
  intro p l e R s m args below meth c Q tc D A C r H locs cells slots mc ms sl hS hl wl ws h1 h2 h3 h4 hE
  exact lv_if_le C.1 C.2.1 hd ht (fun hc => kt hc p l e R s m args below meth c Q tc D A C r H locs cells slots mc ms sl hS hl wl ws.2 h1 h2 h3 h4 hE) (fun hc => kf hc p l e R s m args below meth c Q tc D A C r H locs cells slots mc ms sl hS hl wl ws.2 h1 h2 h3 h4 hE)
theorem wp_icmp_le {x y : Int32} {off : Int} {tgt : Nat} (hd : decode M.2.1 pc = .ok (.if_icmp .le off, 3)) (ht : (pc : Int) + off = (tgt : Int)) (hq : pc + 3 = q) (kt : x ≤ y → am_Wp sc M d bc bs tgt ls st w F) (kf : ¬ x ≤ y → am_Wp sc M d bc bs q ls st w F) : am_Wp sc M d bc bs pc ls (.int y :: .int x :: st) w F := by
  subst hq
  intro p l e R s m args below meth c Q tc D A C r H locs cells slots mc ms sl hS hl wl ws h1 h2 h3 h4 hE
  exact lv_icmp_le C.1 C.2.1 hd ht (fun hc => kt hc p l e R s m args below meth c Q tc D A C r H locs cells slots mc ms sl hS hl wl ws.2.2 h1 h2 h3 h4 hE) (fun hc => kf hc p l e R s m args below meth c Q tc D A C r H locs cells slots mc ms sl hS hl wl ws.2.2 h1 h2 h3 h4 hE)
theorem wp_goto {off : Int} {tgt : Nat} (hd : decode M.2.1 pc = .ok (.goto off, 3)) (ht : (pc : Int) + off = (tgt : Int)) (k : am_Wp sc M d bc bs tgt ls st w F) : am_Wp sc M d bc bs pc ls st w F :=
  am_pure k (fun n wl ws => ws) (fun p l e R s m args below meth c H locs cells slots Q r sl hx hb hl ho htt kk => lv_goto hx hb hd ht kk)
theorem wp_tableIn {dflt lo hi off : Int} {offs : Array Int} {len tgt : Nat} {x : Int32} (h1 : ¬ x.toInt < lo) (h2 : ¬ hi < x.toInt) (ho : offs[(x.toInt - lo).toNat]? = some off) (ht : (pc : Int) + off = (tgt : Int)) (hd : decode M.2.1 pc = .ok (.tableswitch dflt lo hi offs, len)) (k : am_Wp sc M d bc bs tgt ls st w F) : am_Wp sc M d bc bs pc ls (.int x :: st) w F :=
  am_pure k (fun n wl ws => ws.2) (fun p l e R s m args below meth c H locs cells slots Q r sl hx hb hl ho1 htt kk => lv_tableIn hx hb hd h1 h2 ho ht kk)
theorem wp_tableOut {dflt lo hi : Int} {offs : Array Int} {len tgt : Nat} {x : Int32} (h : x.toInt < lo ∨ hi < x.toInt) (ht : (pc : Int) + dflt = (tgt : Int)) (hd : decode M.2.1 pc = .ok (.tableswitch dflt lo hi offs, len)) (k : am_Wp sc M d bc bs tgt ls st w F) : am_Wp sc M d bc bs pc ls (.int x :: st) w F :=
  am_pure k (fun n wl ws => ws.2) (fun p l e R s m args below meth c H locs cells slots Q r sl hx hb hl ho1 htt kk => lv_tableOut hx hb hd h ht kk)
theorem am_fin {v : Option Value} (hF : F v w) (hr : am_ret M pc v) : am_Wp sc M d bc bs pc ls v.toList w F := by
  intro p l e R s m args below meth c Q tc D A C r H locs cells slots mc ms sl hS hl wl ws h1 h2 h3 h4 hE
  have hv : am_wo w.length v := fun x hx => by subst hx; exact ws.1
  have h := hE v w r H locs cells slots pc sl hF hS (fun _ _ => rfl) (Nat.le_refl _) hv (by omega) (by omega) hr
  cases v with
  | none => exact h
  | some x => exact h
theorem wp_return (hr : M.2.2.2 = none) (hd : decode M.2.1 pc = .ok (.return_, 1)) (hF : F none w) : am_Wp sc M d bc bs pc ls [] w F :=
  am_fin (v := none) hF (Or.inl ⟨hr, rfl, hd⟩)
theorem wp_ireturn {x : Int32} (hr : M.2.2.2 = some .int) (hd : decode M.2.1 pc = .ok (.ireturn, 1)) (hF : F (some (.int x)) w) : am_Wp sc M d bc bs pc ls [.int x] w F :=
  am_fin (v := some (.int x)) hF (Or.inr (Or.inl ⟨_, _, hr, rfl, rfl, hd⟩))
theorem wp_zreturn {x : Int32} (hr : M.2.2.2 = some .boolean) (hn : narrow .boolean (.int x) = .int x) (hd : decode M.2.1 pc = .ok (.ireturn, 1)) (hF : F (some (.int x)) w) : am_Wp sc M d bc bs pc ls [.int x] w F :=
  am_fin (v := some (.int x)) hF (Or.inr (Or.inl ⟨_, _, hr, rfl, hn, hd⟩))
theorem wp_lreturn {x : Int64} (hr : M.2.2.2 = some .long) (hd : decode M.2.1 pc = .ok (.lreturn, 1)) (hF : F (some (.long x)) w) : am_Wp sc M d bc bs pc ls [.long x] w F :=
  am_fin (v := some (.long x)) hF (Or.inr (Or.inr (Or.inl ⟨_, hr, rfl, hd⟩)))
theorem wp_areturn {a : Nat} {ty : FieldType} (hr : M.2.2.2 = some ty) (hty : (∃ n, ty = .object n) ∨ ∃ t, ty = .array t) (hd : decode M.2.1 pc = .ok (.areturn, 1)) (hF : F (some (.ref a)) w) : am_Wp sc M d bc bs pc ls [.ref a] w F :=
  am_fin (v := some (.ref a)) hF (Or.inr (Or.inr (Or.inr ⟨_, _, hr, hty, rfl, hd⟩)))
theorem am_tys0 (tc : Nat → ClassId) : (am_tys tc)[0]? = some (tc 0, .int) := rfl
theorem am_tys1 (tc : Nat → ClassId) : (am_tys tc)[1]? = some (tc 1, .long) := rfl
theorem am_tys2 (tc : Nat → ClassId) : (am_tys tc)[2]? = some (tc 2, .boolean) := rfl
theorem am_tys3 (tc : Nat → ClassId) : (am_tys tc)[3]? = some (tc 3, .array .int) := rfl
theorem wp_iaload {a n : Nat} {f : Nat → Int32} {i : Int32} (hd : decode M.2.1 pc = .ok (.iaload, 1)) (hq : pc + 1 = q) (hc : w[a]? = some (.inl (0, n, .inl f))) (hin : vp_in i n) (k : am_Wp sc M d bc bs q ls (.int (f i.toNatClampNeg) :: st) w F) : am_Wp sc M d bc bs pc ls (.int i :: .ref a :: st) w F := by
  subst hq
  intro p l e R s m args below meth c Q tc D A C r H locs cells slots mc ms sl hS hl wl ws h1 h2 h3 h4 hE
  exact va_iald C.1 C.2.1 C.2.2.2.2.2.2.2.1 hS.2.1 a 0 (am_cw_at hc) (am_tys0 tc) hin hd (k p l e R s m args below meth c Q tc D A C r H locs cells slots mc ms sl hS hl wl ⟨trivial, ws.2.2⟩ h1 h2 h3 h4 hE)
theorem wp_laload {a n : Nat} {f : Nat → Int64} {i : Int32} (hd : decode M.2.1 pc = .ok (.laload, 1)) (hq : pc + 1 = q) (hc : w[a]? = some (.inl (1, n, .inr (.inl f)))) (hin : vp_in i n) (k : am_Wp sc M d bc bs q ls (.long (f i.toNatClampNeg) :: st) w F) : am_Wp sc M d bc bs pc ls (.int i :: .ref a :: st) w F := by
  subst hq
  intro p l e R s m args below meth c Q tc D A C r H locs cells slots mc ms sl hS hl wl ws h1 h2 h3 h4 hE
  exact va_lald C.1 C.2.1 C.2.2.2.2.2.2.2.1 hS.2.1 a 1 (am_cw_at hc) (am_tys1 tc) hin hd (k p l e R s m args below meth c Q tc D A C r H locs cells slots mc ms sl hS hl wl ⟨trivial, ws.2.2⟩ h1 h2 h3 h4 hE)
theorem wp_zaload {a n : Nat} {f : Nat → Int32} {i : Int32} (hd : decode M.2.1 pc = .ok (.baload, 1)) (hq : pc + 1 = q) (hc : w[a]? = some (.inl (2, n, .inl f))) (hin : vp_in i n) (k : am_Wp sc M d bc bs q ls (.int (f i.toNatClampNeg) :: st) w F) : am_Wp sc M d bc bs pc ls (.int i :: .ref a :: st) w F := by
  subst hq
  intro p l e R s m args below meth c Q tc D A C r H locs cells slots mc ms sl hS hl wl ws h1 h2 h3 h4 hE
  exact va_zald C.1 C.2.1 C.2.2.2.2.2.2.2.1 hS.2.1 a 2 (am_cw_at hc) (am_tys2 tc) hin hd (k p l e R s m args below meth c Q tc D A C r H locs cells slots mc ms sl hS hl wl ⟨trivial, ws.2.2⟩ h1 h2 h3 h4 hE)
theorem wp_aaload {a n b : Nat} {f : Nat → Option Nat} {i : Int32} (hd : decode M.2.1 pc = .ok (.aaload, 1)) (hq : pc + 1 = q) (hc : w[a]? = some (.inl (3, n, .inr (.inr (.inr (.inr f)))))) (hin : vp_in i n) (hv : f i.toNatClampNeg = some b) (k : am_Wp sc M d bc bs q ls (.ref b :: st) w F) : am_Wp sc M d bc bs pc ls (.int i :: .ref a :: st) w F := by
  subst hq
  intro p l e R s m args below meth c Q tc D A C r H locs cells slots mc ms sl hS hl wl ws h1 h2 h3 h4 hE
  have hlt : i.toNatClampNeg < n := Nat.not_le.mp fun q => hin (Or.inr q)
  have hcell : H[r (a + 1)]? = some (vp_cell (tc 3) (n, .inr (.inr (.inr (.inr (fun j => (f j).map (fun a => r (a + 1)))))))) := hS.2.1 a _ (am_cw_at hc)
  have hb : b < w.length := hS.1 a _ hc _ _ hv
  refine W.aald (v := .ref (r (b + 1))) (ty := .array .int) C.1 C.2.1 hcell ((C.2.2.2.2.2.2.2.1.2 3 _ (am_tys3 tc)).1 n (fun j => va_rf ((f j).map (fun a => r (a + 1))))) rfl (fun q => by cases q) (by show ¬ (i < 0 ∨ (arrV _ _ _).slots.size ≤ _); rw [arrV_size]; exact hin) (by show (arrV _ _ _).slots[_]? = _; rw [arrV_read _ _ hlt]; show some (va_rf ((f i.toNatClampNeg).map _)) = _; rw [hv]; rfl) rfl rfl hd ?_
  exact k p l e R s m args below meth c Q tc D A C r H locs cells slots mc ms sl hS hl wl ⟨hb, ws.2.2⟩ h1 h2 h3 h4 hE
theorem wp_alen {a t n : Nat} {x : (Nat → Int32) ⊕ (Nat → Int64) ⊕ (Nat → UInt32) ⊕ (Nat → UInt64) ⊕ (Nat → Option Nat)} {v : Int32} (hd : decode M.2.1 pc = .ok (.arraylength, 1)) (hq : pc + 1 = q) (hc : w[a]? = some (.inl (t, n, x))) (ht : t < 4) (hv : Int32.ofNat n = v) (k : am_Wp sc M d bc bs q ls (.int v :: st) w F) : am_Wp sc M d bc bs pc ls (.ref a :: st) w F := by
  subst hq
  intro p l e R s m args below meth c Q tc D A C r H locs cells slots mc ms sl hS hl wl ws h1 h2 h3 h4 hE
  have hy : ∃ ty, (am_tys tc)[t]? = some (tc t, ty) := by
    rcases (show t = 0 ∨ t = 1 ∨ t = 2 ∨ t = 3 by omega) with rfl | rfl | rfl | rfl
    · exact ⟨_, rfl⟩
    · exact ⟨_, rfl⟩
    · exact ⟨_, rfl⟩
    · exact ⟨_, rfl⟩
  obtain ⟨ty, hy⟩ := hy
  have hn : (am_ca r (n, x)).1 = n := by obtain f | f | f | f | f := x <;> rfl
  exact va_alen C.1 C.2.1 C.2.2.2.2.2.2.2.1 hS.2.1 a t (am_cw_at hc) hy (by rw [hn]; exact hv) hd (k p l e R s m args below meth c Q tc D A C r H locs cells slots mc ms sl hS hl wl ⟨trivial, ws.2⟩ h1 h2 h3 h4 hE)
theorem am_Sm_set {tc : Nat → ClassId} {D : va_G} {A : Nat → Prop} {s : State} {r : Nat → Nat} {H H1 : Heap} {locs locs1 : List Loc} {a : Nat} {x : am_C} (hS : am_Sm sc tc D A s r w H locs) (hx : am_wc w.length x) (hP : va_P D vwCl ((am_cw tc r w).set a (r (a + 1), am_ce tc r x)) H1) (hD : va_D A ((am_cw tc r w).set a (r (a + 1), am_ce tc r x))) (hS1 : va_S A s.heap H1 locs1) : am_Sm sc tc D A s r (w.set a x) H1 locs1 := by
  refine ⟨am_ww_set hS.1 hx, ?_, ?_, hS1, hS.2.2.2.2⟩
  · rw [am_cw_set]; exact hP
  · rw [am_cw_set]; exact hD
theorem wp_iastore {a n : Nat} {f : Nat → Int32} {i x : Int32} {w' : am_W} (hd : decode M.2.1 pc = .ok (.iastore, 1)) (hq : pc + 1 = q) (hc : w[a]? = some (.inl (0, n, .inl f))) (hin : vp_in i n) (hw : w.set a (.inl (0, n, .inl (upd f i.toNatClampNeg x))) = w') (k : am_Wp sc M d bc bs q ls st w' F) : am_Wp sc M d bc bs pc ls (.int x :: .int i :: .ref a :: st) w F := by
  subst hq
  subst hw
  intro p l e R s m args below meth c Q tc D A C r H locs cells slots mc ms sl hS hl wl ws h1 h2 h3 h4 hE
  refine va_iast C.1 C.2.1 C.2.2.2.2.2.2.2.1 hS.2.1 hS.2.2.1 hS.2.2.2.1 a 0 (am_cw_at hc) (am_tys0 tc) hin hd (fun H1 locs1 hP hD hS1 => ?_)
  exact k p l e R s m args below meth c Q tc D A C r H1 locs1 cells slots mc ms sl (am_Sm_set hS trivial hP hD hS1) hl (by rw [List.length_set]; exact wl) (by rw [List.length_set]; exact ws.2.2.2) h1 h2 h3 h4 (by rw [List.length_set]; exact hE)
theorem wp_lastore {a n : Nat} {f : Nat → Int64} {i : Int32} {x : Int64} {w' : am_W} (hd : decode M.2.1 pc = .ok (.lastore, 1)) (hq : pc + 1 = q) (hc : w[a]? = some (.inl (1, n, .inr (.inl f)))) (hin : vp_in i n) (hw : w.set a (.inl (1, n, .inr (.inl (vp_updL f i.toNatClampNeg x)))) = w') (k : am_Wp sc M d bc bs q ls st w' F) : am_Wp sc M d bc bs pc ls (.long x :: .int i :: .ref a :: st) w F := by
  subst hq
  subst hw
  intro p l e R s m args below meth c Q tc D A C r H locs cells slots mc ms sl hS hl wl ws h1 h2 h3 h4 hE
  refine va_last C.1 C.2.1 C.2.2.2.2.2.2.2.1 hS.2.1 hS.2.2.1 hS.2.2.2.1 a 1 (am_cw_at hc) (am_tys1 tc) hin hd (fun H1 locs1 hP hD hS1 => ?_)
  exact k p l e R s m args below meth c Q tc D A C r H1 locs1 cells slots mc ms sl (am_Sm_set hS trivial hP hD hS1) hl (by rw [List.length_set]; exact wl) (by rw [List.length_set]; exact ws.2.2.2) h1 h2 h3 h4 (by rw [List.length_set]; exact hE)
theorem wp_ialoadN {a n j : Nat} {f : Nat → Int32} {i : Int32} (hd : decode M.2.1 pc = .ok (.iaload, 1)) (hq : pc + 1 = q) (hc : w[a]? = some (.inl (0, n, .inl f))) (hi : i = nI j) (hj : j < n) (hn : n < 2 ^ 31) (k : am_Wp sc M d bc bs q ls (.int (f j) :: st) w F) : am_Wp sc M d bc bs pc ls (.int i :: .ref a :: st) w F := by
  subst hi
  refine wp_iaload hd hq hc (vp_in_nI hj hn) ?_
  rw [nI_clamp (Nat.lt_trans hj hn)]
  exact k
theorem wp_laloadN {a n j : Nat} {f : Nat → Int64} {i : Int32} (hd : decode M.2.1 pc = .ok (.laload, 1)) (hq : pc + 1 = q) (hc : w[a]? = some (.inl (1, n, .inr (.inl f)))) (hi : i = nI j) (hj : j < n) (hn : n < 2 ^ 31) (k : am_Wp sc M d bc bs q ls (.long (f j) :: st) w F) : am_Wp sc M d bc bs pc ls (.int i :: .ref a :: st) w F := by
  subst hi
  refine wp_laload hd hq hc (vp_in_nI hj hn) ?_
  rw [nI_clamp (Nat.lt_trans hj hn)]
  exact k
theorem wp_aaloadN {a n j b : Nat} {f : Nat → Option Nat} {i : Int32} (hd : decode M.2.1 pc = .ok (.aaload, 1)) (hq : pc + 1 = q) (hc : w[a]? = some (.inl (3, n, .inr (.inr (.inr (.inr f)))))) (hi : i = nI j) (hj : j < n) (hn : n < 2 ^ 31) (hv : f j = some b) (k : am_Wp sc M d bc bs q ls (.ref b :: st) w F) : am_Wp sc M d bc bs pc ls (.int i :: .ref a :: st) w F := by
  subst hi
  refine wp_aaload hd hq hc (vp_in_nI hj hn) ?_ k
  rw [nI_clamp (Nat.lt_trans hj hn)]
  exact hv
theorem wp_iastoreN {a n j : Nat} {f : Nat → Int32} {i x : Int32} {w' : am_W} (hd : decode M.2.1 pc = .ok (.iastore, 1)) (hq : pc + 1 = q) (hc : w[a]? = some (.inl (0, n, .inl f))) (hi : i = nI j) (hj : j < n) (hn : n < 2 ^ 31) (hw : w.set a (.inl (0, n, .inl (upd f j x))) = w') (k : am_Wp sc M d bc bs q ls st w' F) : am_Wp sc M d bc bs pc ls (.int x :: .int i :: .ref a :: st) w F := by
  subst hi
  refine wp_iastore hd hq hc (vp_in_nI hj hn) ?_ k
  rw [nI_clamp (Nat.lt_trans hj hn)]
  exact hw
theorem wp_lastoreN {a n j : Nat} {f : Nat → Int64} {i : Int32} {x : Int64} {w' : am_W} (hd : decode M.2.1 pc = .ok (.lastore, 1)) (hq : pc + 1 = q) (hc : w[a]? = some (.inl (1, n, .inr (.inl f)))) (hi : i = nI j) (hj : j < n) (hn : n < 2 ^ 31) (hw : w.set a (.inl (1, n, .inr (.inl (vp_updL f j x)))) = w') (k : am_Wp sc M d bc bs q ls st w' F) : am_Wp sc M d bc bs pc ls (.long x :: .int i :: .ref a :: st) w F := by
  subst hi
  refine wp_lastore hd hq hc (vp_in_nI hj hn) ?_ k
  rw [nI_clamp (Nat.lt_trans hj hn)]
  exact hw
/-- the script -/
theorem wp_sload {L j : Nat} {xs : Nat → Int32} {i : Int32} (hd : decode M.2.1 pc = .ok (.iaload, 1)) (hq : pc + 1 = q) (hsc : sc = some (L, xs)) (hin : vp_in i L) (k : am_Wp sc M d bc bs q ls (.int (xs i.toNatClampNeg) :: st) w F) : am_Wp sc M d bc bs pc ls (.int i :: .retAddr j :: st) w F := by
  subst hq
  subst hsc
  intro p l e R s m args below meth c Q tc D A C r H locs cells slots mc ms sl hS hl wl ws h1 h2 h3 h4 hE
  exact va_sld C.1 C.2.1 hS.2.2.2.2.1 hS.2.2.2.2.2.1 hS.2.2.2.2.2.2 hS.2.2.2.1 hin hd (k p l e R s m args below meth c Q tc D A C r H locs cells slots mc ms sl hS hl wl ⟨trivial, ws.2.2⟩ h1 h2 h3 h4 hE)
theorem wp_slen {L j : Nat} {xs : Nat → Int32} (hd : decode M.2.1 pc = .ok (.arraylength, 1)) (hq : pc + 1 = q) (hsc : sc = some (L, xs)) (k : am_Wp sc M d bc bs q ls (.int (Int32.ofNat L) :: st) w F) : am_Wp sc M d bc bs pc ls (.retAddr j :: st) w F := by
  subst hq
  subst hsc
  intro p l e R s m args below meth c Q tc D A C r H locs cells slots mc ms sl hS hl wl ws h1 h2 h3 h4 hE
  exact va_slen C.1 C.2.1 hS.2.2.2.2.1 hS.2.2.2.2.2.1 hS.2.2.2.2.2.2 hS.2.2.2.1 hd (k p l e R s m args below meth c Q tc D A C r H locs cells slots mc ms sl hS hl wl ⟨trivial, ws.2⟩ h1 h2 h3 h4 hE)
end Rules
