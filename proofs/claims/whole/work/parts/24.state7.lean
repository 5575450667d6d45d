/-! THE STATE (7): answers -/
theorem pu_go_lt {C : Nat → Nat} (h : ∀ i, C i < 256) (ni no p : Nat) : pu_go C ni no p < 256 := pu_gi_lt h no ni p
/-- the shortest open walk from i to j, given t; arcs into hd, or out of no, don't count -/
def pu_wk (P C : Nat → Nat) (hd no i j t : Nat) : Int32 := pu_sw (pu_gi P hd no) (pu_go C hd no) t (pu_cl (pu_gi P hd no) 8 8 t) j 16 1 (pu_go C hd no i) (pu_gi P hd no i) (pu_go C hd no i) (pu_gi P hd no i)
/-- what open walks from i reach, given t -/
def pu_rc (P C : Nat → Nat) (hd i t : Nat) : Nat := pu_re (pu_gi P hd 0) (pu_go C hd 0) t (pu_cl (pu_gi P hd 0) 8 8 t) 16 (pu_go C hd 0 i) (pu_gi P hd 0 i) (pu_go C hd 0 i) (pu_gi P hd 0 i)
theorem pu_re_lt {gi go : Nat → Nat} (hgi : ∀ i, gi i < 256) (hgo : ∀ i, go i < 256) (g m : Nat) : ∀ (k na ng sa sg : Nat), sa < 256 → sg < 256 → pu_re gi go g m k na ng sa sg < 256
  | 0, _, _, _, _, h1, h2 => pu_or_lt h1 h2
  | k + 1, na, ng, sa, sg, h1, h2 => by
    unfold pu_re
    by_cases e : na ||| ng = 0
    · rw [if_pos e]; exact pu_or_lt h1 h2
    · rw [if_neg e]; exact pu_re_lt hgi hgo g m k _ _ _ _ (pu_or_lt h1 (pu_na_lt hgo _ _ _ _ _)) (pu_or_lt h2 (pu_ng_lt hgi _ _ _ _ _))
/-- the best set among those below s: re says what is reached -/
def pu_fs (re : Nat → Nat) (ban tar : Nat) : Nat → Int32 × Nat
  | 0 => (-1, 9)
  | s + 1 => if s &&& ban = 0 ∧ pu_pop 8 s < (pu_fs re ban tar s).2 ∧ pu_dif (re s &&& tar) s = 0 then (nI s, pu_pop 8 s) else pu_fs re ban tar s
/-- the sum of f over those below s that agree with v on t -/
def pu_sm (f : Nat → Nat) (t v : Nat) : Nat → Nat
  | 0 => 0
  | s + 1 => if (s ^^^ v) &&& t = 0 then pu_sm f t v s + f s else pu_sm f t v s
/-- sums of f by values of a set m -/
def pu_mg (f : Nat → Nat) (m : Nat) : Nat → Nat → Nat
  | 0 => fun _ => 0
  | s + 1 => pu_ad (pu_mg f m s) (s &&& m) (f s)
/-- the first values from v on (k of them) within all at which the four sums don't fit -/
def pu_ld (f : Nat → Nat) (N x y all t : Nat) : Nat → Nat → Int32
  | 0, _ => -1
  | k + 1, v => if pu_dif v all = 0 ∧ ¬ lN (pu_mg f all N (v &&& all) * pu_mg f t N (v &&& t)) = lN (pu_mg f x N (v &&& x) * pu_mg f y N (v &&& y)) then nI v else pu_ld f N x y all t k (v + 1)
