/-! OPEN WALKS AND THE MORAL GRAPH -/
theorem pu_cl_ind {g : Nat → Nat} {n : Nat} {X : Nat → Prop} (hs : ∀ i, X i → ∀ j, (g i).testBit j = true → X j) : ∀ {r a : Nat}, (∀ i, a.testBit i = true → X i) → ∀ i, (pu_cl g n r a).testBit i = true → X i
  | 0, _, h => h
  | r + 1, a, h => by
    unfold pu_cl
    by_cases e : a ||| pu_un g a n = a
    · rw [if_pos e]; exact h
    · rw [if_neg e]
      refine pu_cl_ind hs (fun i hi => ?_)
      rw [Nat.testBit_or, Bool.or_eq_true] at hi
      rcases hi with hi | hi
      · exact h i hi
      · obtain ⟨j, -, h1, h2⟩ := pu_un_bit.mp hi
        exact hs j (h j h1) i h2
/-- a pair of sets of places: come to along an arc (A), against one or as the start (G); closed under one arc further -/
def CLP (E : Nat → Nat → Prop) (S A G : Nat → Prop) : Prop :=
  (∀ u c, G u → ¬ S u → E u c → A c) ∧ (∀ u y, G u → ¬ S u → E y u → G y) ∧ (∀ u c, A u → ¬ S u → E u c → A c) ∧ (∀ u y, A u → S u → E y u → G y)
/-- connected -/
def DC (E : Nat → Nat → Prop) (S : Nat → Prop) (a b : Nat) : Prop := ∀ A G : Nat → Prop, CLP E S A G → G a → A b ∨ G b
/-- the arcs of parents' rows -/
def EA (g : Nat → Nat) (u v : Nat) : Prop := (g v).testBit u = true
def BT (s u : Nat) : Prop := s.testBit u = true
/-- who comes along to a place from which the given ones are reached may turn there -/
theorem CLP.anc {g : Nat → Nat} {t : Nat} {A G : Nat → Prop} (h : CLP (EA g) (BT t) A G) {u : Nat} (hu : (pu_cl g 8 8 t).testBit u = true) : A u → ∀ y, EA g y u → G y := by
  refine pu_cl_ind (X := fun u => A u → ∀ y, EA g y u → G y) ?_ ?_ u hu
  · intro c hc u huc hA y hy
    by_cases hS : BT t u
    · exact h.2.2.2 u y hA hS hy
    · exact h.2.1 u y (hc (h.2.2.1 u c hA hS huc) u huc) hS hy
  · intro u hS hA y hy
    exact h.2.2.2 u y hA hS hy
section Moral
variable {g : Nat → Nat} {n a b s : Nat}
theorem pu_up_bit {all p x : Nat} : (pu_up_ g all p).testBit x = true ↔ all.testBit p = true ∧ (g p).testBit x = true := by
  unfold pu_up_
  by_cases h : all.testBit p = true
  · rw [if_pos h]; exact ⟨fun q => ⟨h, q⟩, fun q => q.2⟩
  · rw [if_neg h, Nat.zero_testBit]; exact ⟨fun q => (by cases q), fun q => absurd q.1 h⟩
theorem pu_nr_bit {all x : Nat} : ∀ {k j : Nat}, (pu_nr g all k j).testBit x = true ↔ ∃ p, p < k ∧ ((j = p ∧ (pu_up_ g all p).testBit x = true) ∨ ((pu_up_ g all p).testBit j = true ∧ ((pu_up_ g all p).testBit x = true ∨ x = p)))
  | 0, j => by
    unfold pu_nr
    rw [Nat.zero_testBit]
    exact ⟨fun h => (by cases h), fun ⟨p, h, _⟩ => absurd h (Nat.not_lt_zero _)⟩
  | k + 1, j => by
    unfold pu_nr
    rw [Nat.testBit_or, Nat.testBit_or, Bool.or_eq_true, Bool.or_eq_true, pu_nr_bit]
    constructor
    · rintro ((⟨p, h1, h2⟩ | h) | h)
      · exact ⟨p, by omega, h2⟩
      · by_cases e : j = k
        · rw [if_pos e] at h
          exact ⟨k, Nat.lt_succ_self _, Or.inl ⟨e, h⟩⟩
        · rw [if_neg e, Nat.zero_testBit] at h; cases h
      · by_cases e : (pu_up_ g all k).testBit j = true
        · rw [if_pos e, Nat.testBit_or, Bool.or_eq_true, Nat.testBit_two_pow] at h
          exact ⟨k, Nat.lt_succ_self _, Or.inr ⟨e, h.imp id (fun q => (of_decide_eq_true q).symm)⟩⟩
        · rw [if_neg e, Nat.zero_testBit] at h; cases h
    · rintro ⟨p, h1, h2⟩
      rcases (show p < k ∨ p = k by omega) with h | rfl
      · exact Or.inl (Or.inl ⟨p, h, h2⟩)
      · rcases h2 with ⟨e, h⟩ | ⟨e, h⟩
        · exact Or.inl (Or.inr (by rw [if_pos e]; exact h))
        · refine Or.inr ?_
          rw [if_pos e, Nat.testBit_or, Bool.or_eq_true, Nat.testBit_two_pow]
          exact h.imp id (fun q => decide_eq_true q.symm)
theorem pu_gs_bit {j x : Nat} (hx : x < 32) : (pu_gs g n a b s j).testBit x = true ↔ ((∃ p, p < n ∧ ((j = p ∧ (pu_up_ g (pu_all g a b s) p).testBit x = true) ∨ ((pu_up_ g (pu_all g a b s) p).testBit j = true ∧ ((pu_up_ g (pu_all g a b s) p).testBit x = true ∨ x = p)))) ∧ s.testBit x = false) := by
  unfold pu_gs
  rw [pu_dif_bit hx, Bool.and_eq_true, pu_nr_bit]
  simp
theorem pu_all_lt (hn : n ≤ 8) (hg : ∀ i, g i < 2 ^ n) (ha : a < n) (hb : b < n) (hs : s < 2 ^ n) : pu_all g a b s < 2 ^ n := pu_cl_ltn hg (Nat.or_lt_two_pow (Nat.or_lt_two_pow hs (Nat.pow_lt_pow_right (by decide) ha)) (Nat.pow_lt_pow_right (by decide) hb))
theorem pu_all_clo (hn : n ≤ 8) (hg : ∀ i, g i < 2 ^ n) (ha : a < n) (hb : b < n) (hs : s < 2 ^ n) : CLO g ((s ||| 2 ^ a) ||| 2 ^ b) (pu_all g a b s) := pu_cl_clo (fun i => pu_lt8 hn (hg i)) (pu_or_lt (pu_or_lt (pu_lt8 hn hs) (pu_p2 (by omega))) (pu_p2 (by omega)))
theorem pu_cn_clo (hn : n ≤ 8) (hg : ∀ i, g i < 2 ^ n) (ha : a < n) (hb : b < n) (hs : s < 2 ^ n) : CLO (pu_gs g n a b s) (2 ^ a) (pu_cn g n a b s) := pu_cl_clo (fun i => pu_lt8 hn (pu_gs_lt hg i)) (pu_p2 (by omega))
/-- connected in the moral graph, if by walks -/
theorem pu_cn_of_DC (hn : n ≤ 8) (hg : ∀ i, g i < 2 ^ n) (ha : a < n) (hb : b < n) (hs : s < 2 ^ n) (hab : a ≠ b) (hsa : s.testBit a = false) (hsb : s.testBit b = false) (h : DC (EA g) (BT s) a b) : (pu_cn g n a b s).testBit b = true := by
  have hal := pu_all_clo hn hg ha hb hs
  have hlt := pu_all_lt hn hg ha hb hs
  have hcn := pu_cn_clo hn hg ha hb hs
  have haA : (pu_all g a b s).testBit a = true := hal.1 a (by rw [Nat.testBit_or, Nat.testBit_or, Nat.testBit_two_pow]; simp)
  have hbA : (pu_all g a b s).testBit b = true := hal.1 b (by rw [Nat.testBit_or, Nat.testBit_or, Nat.testBit_two_pow, Nat.testBit_two_pow]; simp)
  have hsA : ∀ u, BT s u → (pu_all g a b s).testBit u = true := fun u hu => hal.1 u (by rw [Nat.testBit_or, Nat.testBit_or, show s.testBit u = true from hu]; simp)
  have haC : (pu_cn g n a b s).testBit a = true := hcn.1 a (by rw [Nat.testBit_two_pow]; simp)
  -- moral neighbours
  have par : ∀ u y, (pu_cn g n a b s).testBit u = true → (pu_all g a b s).testBit u = true → EA g y u → ¬ BT s y → (pu_cn g n a b s).testBit y = true := fun u y h1 h2 h3 h4 => hcn.2.1 u h1 y ((pu_gs_bit (by have := pu_bit_lt (hg u) h3; omega)).mpr ⟨⟨u, pu_bit_lt hlt h2, Or.inl ⟨rfl, pu_up_bit.mpr ⟨h2, h3⟩⟩⟩, by simpa [BT] using h4⟩)
  have chi : ∀ x u, (pu_cn g n a b s).testBit x = true → (pu_all g a b s).testBit u = true → EA g x u → ¬ BT s u → (pu_cn g n a b s).testBit u = true := fun x u h1 h2 h3 h4 => hcn.2.1 x h1 u ((pu_gs_bit (by have := pu_bit_lt hlt h2; omega)).mpr ⟨⟨u, pu_bit_lt hlt h2, Or.inr ⟨pu_up_bit.mpr ⟨h2, h3⟩, Or.inr rfl⟩⟩, by simpa [BT] using h4⟩)
  have cop : ∀ x c y, (pu_cn g n a b s).testBit x = true → (pu_all g a b s).testBit c = true → EA g x c → EA g y c → ¬ BT s y → (pu_cn g n a b s).testBit y = true := fun x c y h1 h2 h3 h5 h4 => hcn.2.1 x h1 y ((pu_gs_bit (by have := pu_bit_lt (hg c) h5; omega)).mpr ⟨⟨c, pu_bit_lt hlt h2, Or.inr ⟨pu_up_bit.mpr ⟨h2, h3⟩, Or.inl (pu_up_bit.mpr ⟨h2, h5⟩)⟩⟩, by simpa [BT] using h4⟩)
  have up : ∀ u c, (pu_all g a b s).testBit c = true → EA g u c → (pu_all g a b s).testBit u = true := fun u c h1 h2 => hal.2.1 c h1 u h2
  have key := h (fun u => (pu_all g a b s).testBit u = true → ∃ x, (pu_cn g n a b s).testBit x = true ∧ ¬ BT s x ∧ EA g x u) (fun u => (pu_all g a b s).testBit u = true ∧ (¬ BT s u → (pu_cn g n a b s).testBit u = true)) ?_ ?_
  · rcases key with h1 | h1
    · obtain ⟨x, h2, h3, h4⟩ := h1 hbA
      exact chi x b h2 hbA h4 (by simp [BT, hsb])
    · exact h1.2 (by simp [BT, hsb])
  · refine ⟨?_, ?_, ?_, ?_⟩
    · intro u c hG hS hE hcA
      exact ⟨u, hG.2 hS, hS, hE⟩
    · intro u y hG hS hE
      exact ⟨up y u hG.1 hE, fun hy => par u y (hG.2 hS) hG.1 hE hy⟩
    · intro u c hA hS hE hcA
      have huA := up u c hcA hE
      obtain ⟨x, h2, h3, h4⟩ := hA huA
      exact ⟨u, chi x u h2 huA h4 hS, hS, hE⟩
    · intro u y hA hS hE
      have huA := hsA u hS
      obtain ⟨x, h2, h3, h4⟩ := hA huA
      exact ⟨up y u huA hE, fun hy => cop x u y h2 huA h4 hE hy⟩
  · exact ⟨haA, fun _ => haC⟩
theorem pu_DC_of_cn (hn : n ≤ 8) (hg : ∀ i, g i < 2 ^ n) (ha : a < n) (hb : b < n) (hs : s < 2 ^ n) (hab : a ≠ b) (hsa : s.testBit a = false) (hsb : s.testBit b = false) (h : (pu_cn g n a b s).testBit b = true) : DC (EA g) (BT s) a b := by
  intro A G hC hGa
  refine Classical.byContradiction (fun hno => ?_)
  have hnA : ¬ A b := fun q => hno (Or.inl q)
  have hnG : ¬ G b := fun q => hno (Or.inr q)
  have hanc : ∀ u, (pu_cl g 8 8 s).testBit u = true → A u → ∀ y, EA g y u → G y := fun u hu => hC.anc hu
  have hS8 := pu_cl_clo (fun i => pu_lt8 hn (hg i)) (pu_lt8 hn hs)
  -- all falls apart
  have hsp : ∀ u, (pu_all g a b s).testBit u = true → (pu_cl g 8 8 s).testBit u = true ∨ (u = a ∨ G u) ∨ ¬ A u := by
    refine pu_cl_ind (X := fun u => (pu_cl g 8 8 s).testBit u = true ∨ (u = a ∨ G u) ∨ ¬ A u) ?_ ?_
    · intro c hc u hu
      by_cases huS : (pu_cl g 8 8 s).testBit u = true
      · exact Or.inl huS
      · have huS' : ¬ BT s u := fun q => huS (hS8.1 u q)
        have hcS : ¬ (pu_cl g 8 8 s).testBit c = true := fun q => huS (hS8.2.1 c q u hu)
        have hcS' : ¬ BT s c := fun q => hcS (hS8.1 c q)
        rcases hc with hc | (rfl | hc) | hc
        · exact absurd hc hcS
        · exact Or.inr (Or.inl (Or.inr (hC.2.1 c u hGa hcS' hu)))
        · exact Or.inr (Or.inl (Or.inr (hC.2.1 c u hc hcS' hu)))
        · exact Or.inr (Or.inr (fun q => hc (hC.2.2.1 u c q huS' hu)))
    · intro u hu
      rw [Nat.testBit_or, Nat.testBit_or, Bool.or_eq_true, Bool.or_eq_true, Nat.testBit_two_pow, Nat.testBit_two_pow] at hu
      rcases hu with (hu | hu) | hu
      · exact Or.inl (hS8.1 u hu)
      · exact Or.inr (Or.inl (Or.inl (of_decide_eq_true hu).symm))
      · rw [← of_decide_eq_true hu]; exact Or.inr (Or.inr hnA)
  -- one that is come to along, and may matter: its parents are come to
  have turn : ∀ c y, (pu_all g a b s).testBit c = true → A c → EA g y c → ¬ BT s c ∨ True → G y := by
    intro c y hc hA hy _
    rcases hsp c hc with h1 | (rfl | h1) | h1
    · exact hanc c h1 hA y hy
    · exact hC.2.1 c y hGa (by simp [BT, hsa]) hy
    · by_cases hcS : BT s c
      · exact hC.2.2.2 c y hA hcS hy
      · exact hC.2.1 c y h1 hcS hy
    · exact absurd hA h1
  have hX : ∀ v, (pu_cn g n a b s).testBit v = true → (¬ BT s v ∧ (A v ∨ G v)) := by
    refine pu_cl_ind (X := fun v => ¬ BT s v ∧ (A v ∨ G v)) ?_ ?_
    · rintro j ⟨hjS, hj⟩ x hx
      have hx32 : x < 32 := by have := pu_bit_lt (pu_gs_lt (a := a) (b := b) (s := s) hg j) hx; omega
      obtain ⟨⟨p, hp, hh⟩, hxs⟩ := (pu_gs_bit hx32).mp hx
      refine ⟨by simp [BT, hxs], ?_⟩
      have out : ∀ c, EA g j c → A c := fun c hc => hj.elim (fun q => hC.2.2.1 j c q hjS hc) (fun q => hC.1 j c q hjS hc)
      rcases hh with ⟨rfl, hq⟩ | ⟨hq, hq2⟩
      · have hq := pu_up_bit.mp hq
        rcases hj with hj | hj
        · exact Or.inr (turn j x hq.1 hj hq.2 (Or.inr trivial))
        · exact Or.inr (hC.2.1 j x hj hjS hq.2)
      · have hq := pu_up_bit.mp hq
        rcases hq2 with hq2 | rfl
        · have hq2 := pu_up_bit.mp hq2
          exact Or.inr (turn p x hq.1 (out p hq.2) hq2.2 (Or.inr trivial))
        · exact Or.inl (out x hq.2)
    · intro u hu
      rw [Nat.testBit_two_pow] at hu
      rw [← of_decide_eq_true hu]
      exact ⟨by simp [BT, hsa], Or.inr hGa⟩
  exact hno (hX b h).2
theorem pu_sp_iff (hn : n ≤ 8) (hg : ∀ i, g i < 2 ^ n) (ha : a < n) (hb : b < n) (hs : s < 2 ^ n) (hab : a ≠ b) (hsa : s.testBit a = false) (hsb : s.testBit b = false) : pu_sp g n a b s = true ↔ ¬ DC (EA g) (BT s) a b := by
  unfold pu_sp
  constructor
  · intro h hd
    rw [pu_cn_of_DC hn hg ha hb hs hab hsa hsb hd] at h
    cases h
  · intro h
    cases e : (pu_cn g n a b s).testBit b with
    | false => rfl
    | true => exact absurd (pu_DC_of_cn hn hg ha hb hs hab hsa hsb e) h
end Moral
/-! the class's layers -/
def BIN (gi go : Nat → Nat) (t m na ng sa sg : Nat) : Prop :=
  SU na sa ∧ SU ng sg ∧ (∀ u, sg.testBit u = true → ng.testBit u = false → t.testBit u = false → SU (go u) sa ∧ SU (gi u) sg) ∧ (∀ u, sa.testBit u = true → na.testBit u = false → t.testBit u = false → SU (go u) sa) ∧ (∀ u, sa.testBit u = true → na.testBit u = false → m.testBit u = true → SU (gi u) sg)
section Layers
variable {gi go : Nat → Nat} {t m : Nat}
theorem pu_na_bit {na ng sa j : Nat} (hj : j < 32) : (pu_na gi go t m na ng sa).testBit j = true ↔ (∃ i, i < 8 ∧ ((ng.testBit i = true ∧ t.testBit i = false) ∨ (na.testBit i = true ∧ t.testBit i = false)) ∧ (go i).testBit j = true) ∧ sa.testBit j = false := by
  unfold pu_na
  rw [pu_dif_bit hj, Bool.and_eq_true, pu_un_bit]
  constructor
  · rintro ⟨⟨i, h1, h2, h3⟩, h4⟩
    rw [Nat.testBit_or, Bool.or_eq_true, pu_dif_bit (by omega), pu_dif_bit (by omega)] at h2
    exact ⟨⟨i, h1, by simpa using h2, h3⟩, by simpa using h4⟩
  · rintro ⟨⟨i, h1, h2, h3⟩, h4⟩
    refine ⟨⟨i, h1, ?_, h3⟩, by simpa using h4⟩
    rw [Nat.testBit_or, Bool.or_eq_true, pu_dif_bit (by omega), pu_dif_bit (by omega)]
    simpa using h2
theorem pu_ng_bit {na ng sg j : Nat} (hj : j < 32) : (pu_ng gi go t m na ng sg).testBit j = true ↔ (∃ i, i < 8 ∧ ((ng.testBit i = true ∧ t.testBit i = false) ∨ (na.testBit i = true ∧ m.testBit i = true)) ∧ (gi i).testBit j = true) ∧ sg.testBit j = false := by
  unfold pu_ng
  rw [pu_dif_bit hj, Bool.and_eq_true, pu_un_bit]
  constructor
  · rintro ⟨⟨i, h1, h2, h3⟩, h4⟩
    rw [Nat.testBit_or, Bool.or_eq_true, pu_dif_bit (by omega), Nat.testBit_and] at h2
    exact ⟨⟨i, h1, by simpa using h2, h3⟩, by simpa using h4⟩
  · rintro ⟨⟨i, h1, h2, h3⟩, h4⟩
    refine ⟨⟨i, h1, ?_, h3⟩, by simpa using h4⟩
    rw [Nat.testBit_or, Bool.or_eq_true, pu_dif_bit (by omega), Nat.testBit_and]
    simpa using h2
theorem BIN.step (hgi : ∀ i, gi i < 256) (hgo : ∀ i, go i < 256) {na ng sa sg : Nat} (hsa : sa < 256) (hsg : sg < 256) (h : BIN gi go t m na ng sa sg) : BIN gi go t m (pu_na gi go t m na ng sa) (pu_ng gi go t m na ng sg) (sa ||| pu_na gi go t m na ng sa) (sg ||| pu_ng gi go t m na ng sg) := by
  obtain ⟨h1, h2, h3, h4, h5⟩ := h
  have inA : ∀ i j, i < 8 → ((ng.testBit i = true ∧ t.testBit i = false) ∨ (na.testBit i = true ∧ t.testBit i = false)) → (go i).testBit j = true → (sa ||| pu_na gi go t m na ng sa).testBit j = true := by
    intro i j hi hh hj
    rw [Nat.testBit_or]
    cases e : sa.testBit j with
    | true => rfl
    | false => rw [(pu_na_bit (by have := pu_bit_lt (n := 8) (hgo i) hj; omega)).mpr ⟨⟨i, hi, hh, hj⟩, e⟩]; rfl
  have inG : ∀ i j, i < 8 → ((ng.testBit i = true ∧ t.testBit i = false) ∨ (na.testBit i = true ∧ m.testBit i = true)) → (gi i).testBit j = true → (sg ||| pu_ng gi go t m na ng sg).testBit j = true := by
    intro i j hi hh hj
    rw [Nat.testBit_or]
    cases e : sg.testBit j with
    | true => rfl
    | false => rw [(pu_ng_bit (by have := pu_bit_lt (n := 8) (hgi i) hj; omega)).mpr ⟨⟨i, hi, hh, hj⟩, e⟩]; rfl
  have old : ∀ {s x u : Nat}, (s ||| x).testBit u = true → x.testBit u = false → s.testBit u = true := by
    intro s x u q1 q2
    rw [Nat.testBit_or, q2, Bool.or_false] at q1
    exact q1
  refine ⟨SU.orr, SU.orr, ?_, ?_, ?_⟩
  · intro u q1 q2 q3
    have q1 := old q1 q2
    have hu8 := pu_bit_lt (n := 8) hsg q1
    cases e : ng.testBit u with
    | true => exact ⟨fun j hj => inA u j hu8 (Or.inl ⟨e, q3⟩) hj, fun j hj => inG u j hu8 (Or.inl ⟨e, q3⟩) hj⟩
    | false => exact ⟨(h3 u q1 e q3).1.tr SU.orl, (h3 u q1 e q3).2.tr SU.orl⟩
  · intro u q1 q2 q3
    have q1 := old q1 q2
    have hu8 := pu_bit_lt (n := 8) hsa q1
    cases e : na.testBit u with
    | true => exact fun j hj => inA u j hu8 (Or.inr ⟨e, q3⟩) hj
    | false => exact (h4 u q1 e q3).tr SU.orl
  · intro u q1 q2 q3
    have q1 := old q1 q2
    have hu8 := pu_bit_lt (n := 8) hsa q1
    cases e : na.testBit u with
    | true => exact fun j hj => inG u j hu8 (Or.inr ⟨e, q3⟩) hj
    | false => exact (h5 u q1 e q3).tr SU.orl
/-- where the layers end: closed, and within every closed pair -/
theorem pu_re_end (hgi : ∀ i, gi i < 256) (hgo : ∀ i, go i < 256) : ∀ (k na ng sa sg : Nat), sa < 256 → sg < 256 → BIN gi go t m na ng sa sg → ((na = 0 ∧ ng = 0) ∨ 17 ≤ k + pu_pop 8 sa + pu_pop 8 sg) →
    ∃ SA SG, pu_re gi go t m k na ng sa sg = SA ||| SG ∧ SU sa SA ∧ SU sg SG ∧ BIN gi go t m 0 0 SA SG ∧
      ∀ A G : Nat → Prop, (∀ u, G u → t.testBit u = false → (∀ c, (go u).testBit c = true → A c) ∧ ∀ y, (gi u).testBit y = true → G y) → (∀ u, A u → t.testBit u = false → ∀ c, (go u).testBit c = true → A c) → (∀ u, A u → m.testBit u = true → ∀ y, (gi u).testBit y = true → G y) → (∀ u, sa.testBit u = true → A u) → (∀ u, sg.testBit u = true → G u) → (∀ u, SA.testBit u = true → A u) ∧ ∀ u, SG.testBit u = true → G u := by
  intro k
  induction k with
  | zero =>
    intro na ng sa sg hsa hsg hB hinv
    have hz : na = 0 ∧ ng = 0 := hinv.resolve_right (fun h => by have := pu_pop_le 8 sa; have := pu_pop_le 8 sg; omega)
    obtain ⟨rfl, rfl⟩ := hz
    exact ⟨sa, sg, rfl, SU.rf, SU.rf, hB, fun A G _ _ _ h1 h2 => ⟨h1, h2⟩⟩
  | succ k ih =>
    intro na ng sa sg hsa hsg hB hinv
    unfold pu_re
    by_cases e : na ||| ng = 0
    · rw [if_pos e]
      have hz : na = 0 ∧ ng = 0 := Nat.or_eq_zero_iff.mp e
      obtain ⟨rfl, rfl⟩ := hz
      exact ⟨sa, sg, rfl, SU.rf, SU.rf, hB, fun A G _ _ _ h1 h2 => ⟨h1, h2⟩⟩
    · rw [if_neg e]
      have hne : ¬ (na = 0 ∧ ng = 0) := fun q => e (by rw [q.1, q.2]; rfl)
      have hinv := hinv.resolve_left hne
      have hna : pu_na gi go t m na ng sa < 256 := pu_na_lt hgo _ _ _ _ _
      have hng : pu_ng gi go t m na ng sg < 256 := pu_ng_lt hgi _ _ _ _ _
      obtain ⟨SA, SG, e1, h1, h2, h3, h4⟩ := ih _ _ _ _ (pu_or_lt hsa hna) (pu_or_lt hsg hng) (BIN.step hgi hgo hsa hsg hB) (by
        by_cases z1 : pu_na gi go t m na ng sa = 0
        · by_cases z2 : pu_ng gi go t m na ng sg = 0
          · exact Or.inl ⟨z1, z2⟩
          · have q2 := pu_pop_new (s := sg) hng z2 rfl
            have q1 := pu_pop_mono (SU.orl (a := sa) (b := pu_na gi go t m na ng sa)) 8
            have q3 : pu_pop 8 (sg ||| pu_ng gi go t m na ng sg) = pu_pop 8 (sg ||| pu_dif (pu_un gi (pu_dif ng t ||| (na &&& m)) 8) sg) := rfl
            exact Or.inr (by omega)
        · have q2 := pu_pop_new (s := sa) hna z1 rfl
          have q1 := pu_pop_mono (SU.orl (a := sg) (b := pu_ng gi go t m na ng sg)) 8
          have q3 : pu_pop 8 (sa ||| pu_na gi go t m na ng sa) = pu_pop 8 (sa ||| pu_dif (pu_un go (pu_dif ng t ||| pu_dif na t) 8) sa) := rfl
          exact Or.inr (by omega))
      refine ⟨SA, SG, e1, SU.orl.tr h1, SU.orl.tr h2, h3, fun A G c1 c2 c3 s1 s2 => h4 A G c1 c2 c3 ?_ ?_⟩
      · intro u hu
        rw [Nat.testBit_or, Bool.or_eq_true] at hu
        rcases hu with hu | hu
        · exact s1 u hu
        · have hu32 : u < 32 := by have := pu_bit_lt (n := 8) hna hu; omega
          obtain ⟨⟨i, -, hh, hj⟩, -⟩ := (pu_na_bit hu32).mp hu
          rcases hh with ⟨q1, q2⟩ | ⟨q1, q2⟩
          · exact (c1 i (s2 i (hB.2.1 i q1)) q2).1 u hj
          · exact c2 i (s1 i (hB.1 i q1)) q2 u hj
      · intro u hu
        rw [Nat.testBit_or, Bool.or_eq_true] at hu
        rcases hu with hu | hu
        · exact s2 u hu
        · have hu32 : u < 32 := by have := pu_bit_lt (n := 8) hng hu; omega
          obtain ⟨⟨i, -, hh, hj⟩, -⟩ := (pu_ng_bit hu32).mp hu
          rcases hh with ⟨q1, q2⟩ | ⟨q1, q2⟩
          · exact (c1 i (s2 i (hB.2.1 i q1)) q2).2 u hj
          · exact c3 i (s1 i (hB.1 i q1)) q2 u hj
/-- the shortest walk is none just if b is not reached -/
theorem pu_sw_re (hgi : ∀ i, gi i < 256) (hgo : ∀ i, go i < 256) {b : Nat} : ∀ (k j na ng sa sg : Nat), j + k < 100 → sa < 256 → sg < 256 → SU na sa → SU ng sg → ((na = 0 ∧ ng = 0) ∨ 17 ≤ k + pu_pop 8 sa + pu_pop 8 sg) → (sa.testBit b = true → na.testBit b = true) → (sg.testBit b = true → ng.testBit b = true) → (pu_sw gi go t m b k j na ng sa sg = -1 ↔ (pu_re gi go t m k na ng sa sg).testBit b = false) := by
  have mono : ∀ (k na ng sa sg : Nat), SU (sa ||| sg) (pu_re gi go t m k na ng sa sg) := by
    intro k
    induction k with
    | zero => intro na ng sa sg; exact SU.rf
    | succ k ih =>
      intro na ng sa sg
      unfold pu_re
      by_cases e : na ||| ng = 0
      · rw [if_pos e]; exact SU.rf
      · rw [if_neg e]; exact (SU.or (SU.orl.tr SU.orl) (SU.orl.tr SU.orr)).tr (ih _ _ _ _)
  intro k
  induction k with
  | zero =>
    intro j na ng sa sg _ hsa hsg _ _ hinv hb1 hb2
    have hz : na = 0 ∧ ng = 0 := hinv.resolve_right (fun h => by have := pu_pop_le 8 sa; have := pu_pop_le 8 sg; omega)
    obtain ⟨rfl, rfl⟩ := hz
    rw [Nat.zero_testBit] at hb1 hb2
    refine ⟨fun _ => ?_, fun _ => rfl⟩
    show (sa ||| sg).testBit b = false
    rw [Nat.testBit_or]
    cases e1 : sa.testBit b with
    | true => cases hb1 e1
    | false =>
      cases e2 : sg.testBit b with
      | true => cases hb2 e2
      | false => rfl
  | succ k ih =>
    intro j na ng sa sg hjk hsa hsg n1 n2 hinv hb1 hb2
    unfold pu_sw pu_re
    by_cases e : na ||| ng = 0
    · have hz : na = 0 ∧ ng = 0 := Nat.or_eq_zero_iff.mp e
      obtain ⟨rfl, rfl⟩ := hz
      rw [if_pos e, e, Nat.zero_testBit, pu_na_0, pu_ng_0]
      rw [Nat.zero_testBit] at hb1 hb2
      refine ⟨fun _ => ?_, fun _ => pu_sw_0 _ _ _ _⟩
      rw [Nat.testBit_or]
      cases e1 : sa.testBit b with
      | true => cases hb1 e1
      | false =>
        cases e2 : sg.testBit b with
        | true => cases hb2 e2
        | false => rfl
    · rw [if_neg e]
      have hne : ¬ (na = 0 ∧ ng = 0) := fun q => e (by rw [q.1, q.2]; rfl)
      have hinv := hinv.resolve_left hne
      have hna : pu_na gi go t m na ng sa < 256 := pu_na_lt hgo _ _ _ _ _
      have hng : pu_ng gi go t m na ng sg < 256 := pu_ng_lt hgi _ _ _ _ _
      cases hb : (na ||| ng).testBit b with
      | true =>
        rw [if_pos rfl]
        have hin : (sa ||| sg).testBit b = true := by
          rw [Nat.testBit_or, Bool.or_eq_true] at hb ⊢
          exact hb.imp (n1 b) (n2 b)
        have := (SU.or (SU.orl.tr SU.orl) (SU.orl.tr SU.orr)).tr (mono k (pu_na gi go t m na ng sa) (pu_ng gi go t m na ng sg) (sa ||| pu_na gi go t m na ng sa) (sg ||| pu_ng gi go t m na ng sg)) b hin
        constructor
        · intro h
          have h2 := nI_pos' (n := j) (by omega)
          rw [h] at h2
          exact absurd h2 (by decide)
        · intro h
          rw [h] at this
          cases this
      | false =>
        rw [if_neg (by decide)]
        have hb' : na.testBit b = false ∧ ng.testBit b = false := by
          rw [Nat.testBit_or] at hb
          cases e1 : na.testBit b <;> cases e2 : ng.testBit b <;> simp_all
        refine ih (j + 1) _ _ _ _ (by omega) (pu_or_lt hsa hna) (pu_or_lt hsg hng) SU.orr SU.orr ?_ ?_ ?_
        · by_cases z1 : pu_na gi go t m na ng sa = 0
          · by_cases z2 : pu_ng gi go t m na ng sg = 0
            · exact Or.inl ⟨z1, z2⟩
            · have q2 := pu_pop_new (s := sg) hng z2 rfl
              have q1 := pu_pop_mono (SU.orl (a := sa) (b := pu_na gi go t m na ng sa)) 8
              have q3 : pu_pop 8 (sg ||| pu_ng gi go t m na ng sg) = pu_pop 8 (sg ||| pu_dif (pu_un gi (pu_dif ng t ||| (na &&& m)) 8) sg) := rfl
              exact Or.inr (by omega)
          · have q2 := pu_pop_new (s := sa) hna z1 rfl
            have q1 := pu_pop_mono (SU.orl (a := sg) (b := pu_ng gi go t m na ng sg)) 8
            have q3 : pu_pop 8 (sa ||| pu_na gi go t m na ng sa) = pu_pop 8 (sa ||| pu_dif (pu_un go (pu_dif ng t ||| pu_dif na t) 8) sa) := rfl
            exact Or.inr (by omega)
        · intro h
          rw [Nat.testBit_or, Bool.or_eq_true] at h
          rcases h with h | h
          · rw [hb'.1] at hb1; cases hb1 h
          · exact h
        · intro h
          rw [Nat.testBit_or, Bool.or_eq_true] at h
          rcases h with h | h
          · rw [hb'.2] at hb2; cases hb2 h
          · exact h
end Layers
