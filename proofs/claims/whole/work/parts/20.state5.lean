/-! THE STATE (5): the whole object -/
/-- 1 if it holds, 0 if not -/
noncomputable def pu_q (p : Prop) : Int32 := pu_b (@decide p (Classical.propDecidable p))
theorem pu_q_t {p : Prop} (h : p) : pu_q p = 1 := by
  unfold pu_q
  rw [@decide_eq_true p (Classical.propDecidable p) h]; rfl
theorem pu_q_f {p : Prop} (h : ¬ p) : pu_q p = 0 := by
  unfold pu_q
  rw [@decide_eq_false p (Classical.propDecidable p) h]; rfl
theorem pu_q0 {p : Prop} (h : pu_q p = 0) : ¬ p := fun hp => by rw [pu_q_t hp] at h; exact absurd h (by decide)
theorem pu_q1 {p : Prop} (h : ¬ pu_q p = 0) : p := Classical.byContradiction fun hp => h (pu_q_f hp)
theorem pu_qn (p : Prop) : narrow .boolean (.int (pu_q p)) = .int (pu_q p) := by
  unfold pu_q
  cases @decide p (Classical.propDecidable p) <;> rfl
def PL (n : Nat) (x : Int32) : Prop := ∃ i, i < n ∧ x = nI i
def PR (n : Nat) (x y : Int32) : Prop := ∃ i j, i < n ∧ j < n ∧ i ≠ j ∧ x = nI i ∧ y = nI j
def SE (n : Nat) (s : Int32) : Prop := ∃ t, t < 2 ^ n ∧ s = nI t
def QU (n : Nat) (x y s : Int32) : Prop := ∃ i j t, i < n ∧ j < n ∧ i ≠ j ∧ t < 2 ^ n ∧ x = nI i ∧ y = nI j ∧ s = nI t ∧ t.testBit i = false ∧ t.testBit j = false
def RO (n : Nat) (P : Nat → Nat) (x r : Int32) : Prop := ∃ i j, i < n ∧ j < 2 ^ pu_pop 8 (P i) ∧ x = nI i ∧ r = nI j
/-- X's cells -/
def XI (n k : Nat) (P C : Nat → Nat) (kn kk : Nat) (KP KC : Nat → Nat) (ak : Bool) (E : Nat → Nat → Nat) (hd hv : Nat) (w : am_W) : Prop :=
  w[0]? = some (.inr (0, [.ref 1, .ref 4, .int (pu_b ak), .ref 7, .ref 17, .ref 20, .ref 27, .ref 29, .ref 31, .ref 33])) ∧ GI 1 2 3 n k P C w ∧ GI 4 5 6 kn kk KP KC w ∧ TI hd hv E w ∧ VS w ∧ KS w ∧ MS 27 28 w ∧ MS 29 30 w ∧ MS 31 32 w ∧ MS 33 34 w
/-- what its numbers are like -/
def XW (n k : Nat) (P C : Nat → Nat) (kn kk : Nat) (KP KC : Nat → Nat) (E : Nat → Nat → Nat) (hd hv : Nat) : Prop :=
  n ≤ 8 ∧ k ≤ 10 ∧ (∀ i, P i < 256) ∧ (∀ i, C i < 256) ∧ kn ≤ 8 ∧ (∀ i, KP i < 256) ∧ (∀ i, KC i < 256) ∧ (∀ i j, E i j ≤ 8) ∧ hd < 256 ∧ hv < 256 ∧ (∀ i, i < n → ∀ v, pu_rv (P i) v 8 < 128) ∧ (∀ i, i < n → pu_pop 8 (P i) ≤ 7) ∧ (pu_al C n n).length = k
theorem XI.v {n k : Nat} {P C : Nat → Nat} {kn kk : Nat} {KP KC : Nat → Nat} {ak : Bool} {E : Nat → Nat → Nat} {hd hv : Nat} {w w1 : am_W} (h : XI n k P C kn kk KP KC ak E hd hv w) (f : am_fr [17, 18, 19] w w1) (hV : VS w1) : XI n k P C kn kk KP KC ak E hd hv w1 :=
  ⟨f.at (by decide) h.1, h.2.1.at f (by decide) (by decide) (by decide), h.2.2.1.at f (by decide) (by decide) (by decide), h.2.2.2.1.at f (by decide), hV, h.2.2.2.2.2.1.at f (by decide), h.2.2.2.2.2.2.1.at f (by decide) (by decide), h.2.2.2.2.2.2.2.1.at f (by decide) (by decide), h.2.2.2.2.2.2.2.2.1.at f (by decide) (by decide), h.2.2.2.2.2.2.2.2.2.at f (by decide) (by decide)⟩
theorem XI.k {n k : Nat} {P C : Nat → Nat} {kn kk : Nat} {KP KC : Nat → Nat} {ak : Bool} {E : Nat → Nat → Nat} {hd hv : Nat} {w w1 : am_W} (h : XI n k P C kn kk KP KC ak E hd hv w) (f : am_fr [20, 21, 22, 23, 24, 25, 26] w w1) (hK : KS w1) : XI n k P C kn kk KP KC ak E hd hv w1 :=
  ⟨f.at (by decide) h.1, h.2.1.at f (by decide) (by decide) (by decide), h.2.2.1.at f (by decide) (by decide) (by decide), h.2.2.2.1.at f (by decide), h.2.2.2.2.1.at f (by decide) (by decide) (by decide), hK, h.2.2.2.2.2.2.1.at f (by decide) (by decide), h.2.2.2.2.2.2.2.1.at f (by decide) (by decide), h.2.2.2.2.2.2.2.2.1.at f (by decide) (by decide), h.2.2.2.2.2.2.2.2.2.at f (by decide) (by decide)⟩
theorem XI.m {n k : Nat} {P C : Nat → Nat} {kn kk : Nat} {KP KC : Nat → Nat} {ak : Bool} {E : Nat → Nat → Nat} {hd hv : Nat} {w w1 : am_W} (h : XI n k P C kn kk KP KC ak E hd hv w) (f : am_fr [27, 28, 29, 30, 31, 32, 33, 34] w w1) (h1 : MS 27 28 w1) (h2 : MS 29 30 w1) (h3 : MS 31 32 w1) (h4 : MS 33 34 w1) : XI n k P C kn kk KP KC ak E hd hv w1 :=
  ⟨f.at (by decide) h.1, h.2.1.at f (by decide) (by decide) (by decide), h.2.2.1.at f (by decide) (by decide) (by decide), h.2.2.2.1.at f (by decide), h.2.2.2.2.1.at f (by decide) (by decide) (by decide), h.2.2.2.2.2.1.at f (by decide), h1, h2, h3, h4⟩
/-- the graph changes -/
theorem XI.g {n k : Nat} {P C : Nat → Nat} {kn kk : Nat} {KP KC : Nat → Nat} {ak : Bool} {E : Nat → Nat → Nat} {hd hv : Nat} {w w1 : am_W} {n1 k1 : Nat} {P1 C1 : Nat → Nat} (h : XI n k P C kn kk KP KC ak E hd hv w) (f : am_fr [1, 2, 3] w w1) (hG : GI 1 2 3 n1 k1 P1 C1 w1) : XI n1 k1 P1 C1 kn kk KP KC ak E hd hv w1 :=
  ⟨f.at (by decide) h.1, hG, h.2.2.1.at f (by decide) (by decide) (by decide), h.2.2.2.1.at f (by decide), h.2.2.2.2.1.at f (by decide) (by decide) (by decide), h.2.2.2.2.2.1.at f (by decide), h.2.2.2.2.2.2.1.at f (by decide) (by decide), h.2.2.2.2.2.2.2.1.at f (by decide) (by decide), h.2.2.2.2.2.2.2.2.1.at f (by decide) (by decide), h.2.2.2.2.2.2.2.2.2.at f (by decide) (by decide)⟩
/-- the kept graph changes -/
theorem XI.kp {n k : Nat} {P C : Nat → Nat} {kn kk : Nat} {KP KC : Nat → Nat} {ak : Bool} {E : Nat → Nat → Nat} {hd hv : Nat} {w w1 : am_W} {n1 k1 : Nat} {P1 C1 : Nat → Nat} (h : XI n k P C kn kk KP KC ak E hd hv w) (f : am_fr [4, 5, 6] w w1) (hG : GI 4 5 6 n1 k1 P1 C1 w1) : XI n k P C n1 k1 P1 C1 ak E hd hv w1 :=
  ⟨f.at (by decide) h.1, h.2.1.at f (by decide) (by decide) (by decide), hG, h.2.2.2.1.at f (by decide), h.2.2.2.2.1.at f (by decide) (by decide) (by decide), h.2.2.2.2.2.1.at f (by decide), h.2.2.2.2.2.2.1.at f (by decide) (by decide), h.2.2.2.2.2.2.2.1.at f (by decide) (by decide), h.2.2.2.2.2.2.2.2.1.at f (by decide) (by decide), h.2.2.2.2.2.2.2.2.2.at f (by decide) (by decide)⟩
/-- the tables change -/
theorem XI.t {n k : Nat} {P C : Nat → Nat} {kn kk : Nat} {KP KC : Nat → Nat} {ak : Bool} {E : Nat → Nat → Nat} {hd hv : Nat} {w w1 : am_W} {h1 h2 : Nat} {E1 : Nat → Nat → Nat} (h : XI n k P C kn kk KP KC ak E hd hv w) (f : am_fr [7, 9, 10, 11, 12, 13, 14, 15, 16] w w1) (hT : TI h1 h2 E1 w1) : XI n k P C kn kk KP KC ak E1 h1 h2 w1 :=
  ⟨f.at (by decide) h.1, h.2.1.at f (by decide) (by decide) (by decide), h.2.2.1.at f (by decide) (by decide) (by decide), hT, h.2.2.2.2.1.at f (by decide) (by decide) (by decide), h.2.2.2.2.2.1.at f (by decide), h.2.2.2.2.2.2.1.at f (by decide) (by decide), h.2.2.2.2.2.2.2.1.at f (by decide) (by decide), h.2.2.2.2.2.2.2.2.1.at f (by decide) (by decide), h.2.2.2.2.2.2.2.2.2.at f (by decide) (by decide)⟩
/-- the object itself changes -/
theorem XI.o {n k : Nat} {P C : Nat → Nat} {kn kk : Nat} {KP KC : Nat → Nat} {ak : Bool} {E : Nat → Nat → Nat} {hd hv : Nat} {w w1 : am_W} {b : Bool} (h : XI n k P C kn kk KP KC ak E hd hv w) (f : am_fr [0] w w1) (h0 : w1[0]? = some (.inr (0, [.ref 1, .ref 4, .int (pu_b b), .ref 7, .ref 17, .ref 20, .ref 27, .ref 29, .ref 31, .ref 33]))) : XI n k P C kn kk KP KC b E hd hv w1 :=
  ⟨h0, h.2.1.at f (by decide) (by decide) (by decide), h.2.2.1.at f (by decide) (by decide) (by decide), h.2.2.2.1.at f (by decide), h.2.2.2.2.1.at f (by decide) (by decide) (by decide), h.2.2.2.2.2.1.at f (by decide), h.2.2.2.2.2.2.1.at f (by decide) (by decide), h.2.2.2.2.2.2.2.1.at f (by decide) (by decide), h.2.2.2.2.2.2.2.2.1.at f (by decide) (by decide), h.2.2.2.2.2.2.2.2.2.at f (by decide) (by decide)⟩
/-- a row of the tables is filled -/
def pu_setE (E : Nat → Nat → Nat) (i : Nat) (r : Nat → Nat) : Nat → Nat → Nat := fun a => if a = i then r else E a
theorem TI.row {hd hv : Nat} {E : Nat → Nat → Nat} {w : am_W} (h : TI hd hv E w) {i : Nat} (hi : i < 8) (r : Nat → Nat) : TI hd hv (pu_setE E i r) (w.set (9 + i) (am_ar 128 r)) := by
  refine ⟨am_at_ne (by omega) h.1, am_at_ne (by omega) h.2.1, fun j hj => ?_⟩
  unfold pu_setE
  by_cases e : j = i
  · subst e
    rw [if_pos rfl]
    exact am_at_eq (h.2.2 j hj)
  · rw [if_neg e]
    exact am_at_ne (by omega) (h.2.2 j hj)
theorem am_frow {w : am_W} {i : Nat} (hi : i < 8) {c : am_C} : am_fr [7, 9, 10, 11, 12, 13, 14, 15, 16] w (w.set (9 + i) c) := am_fr.rf.put (by
  rcases (show i = 0 ∨ i = 1 ∨ i = 2 ∨ i = 3 ∨ i = 4 ∨ i = 5 ∨ i = 6 ∨ i = 7 by omega) with rfl | rfl | rfl | rfl | rfl | rfl | rfl | rfl <;> simp)
/-- the cells of X -/
def DX : List Nat := List.range 35
theorem am_fr.x {D : List Nat} {w w1 : am_W} (f : am_fr D w w1) (h : ∀ i, i ∈ D → i < 35) : am_fr DX w w1 := f.up (fun i hi => List.mem_range.mpr (h i hi))
