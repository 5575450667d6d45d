/-! PURE ROWS (2) -/
theorem pu_b1 {b : Bool} (h : ¬ pu_b b = 0) : b = true := by
  cases b with
  | false => exact absurd rfl h
  | true => rfl
/-- how many of the first n bits are set -/
def pu_pop : Nat → Nat → Nat
  | 0, _ => 0
  | n + 1, m => pu_pop n m + (if m.testBit n then 1 else 0)
def pu_u (x : Int32) (k : Int32) : Int32 := (x.toUInt32 >>> (k.toUInt32 &&& Int32.toUInt32 31)).toInt32
def pu_s1 (x : Int32) : Int32 := x - (pu_u x 1 &&& 1431655765)
def pu_s2 (x : Int32) : Int32 := (x &&& 858993459) + (pu_u x 2 &&& 858993459)
def pu_s3 (x : Int32) : Int32 := (x + pu_u x 4) &&& 252645135
def pu_s4 (x : Int32) : Int32 := x + pu_u x 8
def pu_s5 (x : Int32) : Int32 := x + pu_u x 16
theorem pu_bc : ∀ m, m < 1024 → pu_s5 (pu_s4 (pu_s3 (pu_s2 (pu_s1 (nI m))))) &&& 63 = nI (pu_pop 10 m) := by decide +kernel
/-- the first i places hold v -/
def pu_fl (f : Nat → Int32) (v : Int32) (i : Nat) : Nat → Int32 := fun j => if j < i then v else f j
theorem pu_fl_0 {f : Nat → Int32} {v : Int32} : pu_fl f v 0 = f := by funext j; simp [pu_fl]
theorem pu_fl_s {f : Nat → Int32} {v : Int32} {i : Nat} : upd (pu_fl f v i) i v = pu_fl f v (i + 1) := by
  funext j
  unfold upd pu_fl
  by_cases h : j = i
  · simp [h]
  · by_cases h2 : j < i
    · simp [h, h2, show j < i + 1 by omega]
    · simp [h, h2, show ¬ j < i + 1 by omega]
def pu_flL (f : Nat → Int64) (v : Int64) (i : Nat) : Nat → Int64 := fun j => if j < i then v else f j
theorem pu_flL_0 {f : Nat → Int64} {v : Int64} : pu_flL f v 0 = f := by funext j; simp [pu_flL]
theorem pu_flL_s {f : Nat → Int64} {v : Int64} {i : Nat} : vp_updL (pu_flL f v i) i v = pu_flL f v (i + 1) := by
  funext j
  unfold vp_updL pu_flL
  by_cases h : j = i
  · simp [h]
  · by_cases h2 : j < i
    · simp [h, h2, show j < i + 1 by omega]
    · simp [h, h2, show ¬ j < i + 1 by omega]
theorem am_set_same {w : am_W} {a : Nat} {c : am_C} (h : w[a]? = some c) : w.set a c = w := by
  apply List.ext_getElem?
  intro j
  rw [List.getElem?_set]
  by_cases hj : a = j
  · subst hj
    rw [if_pos rfl, if_pos (am_ww_len h), h]
  · rw [if_neg hj]
/-- these locals, written out anew (some may be left out) -/
def am_sb (ls : am_L) : am_L → Prop
  | [] => True
  | q :: l => am_get q.1 ls = some q.2 ∧ am_sb ls l
theorem am_sb_mem {ls : am_L} : ∀ {l : am_L}, am_sb ls l → ∀ q, q ∈ l → q ∈ ls
  | _ :: _, h, q, hq => by
    rcases List.mem_cons.mp hq with rfl | hq
    · exact am_get_mem h.1
    · exact am_sb_mem h.2 q hq
theorem wp_lo {sc : am_S} {M : am_M} {d bc bs pc : Nat} {ls : am_L} {st : List Value} {w : am_W} {F : Option Value → am_W → Prop} (ls' : am_L) (h : am_sb ls ls') (k : am_Wp sc M d bc bs pc ls' st w F) : am_Wp sc M d bc bs pc ls st w F := wp_ls (am_sb_mem h) k
