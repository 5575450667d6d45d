/-! CLASS AND REFERENCE on separation -/
/-- a graph of n places without rings -/
def GG (n : Nat) (P : Nat → Nat) : Prop := n ≤ 8 ∧ (∀ i, P i < 2 ^ n) ∧ (∀ i, n ≤ i → P i = 0) ∧ ACY n P
/-- children and parents fit -/
def DU (P C : Nat → Nat) : Prop := ∀ u v, (C u).testBit v = (P v).testBit u
theorem GG.fin {n : Nat} {P : Nat → Nat} (h : GG n P) {u v : Nat} (e : EA P u v) : u < n ∧ v < n := by
  refine ⟨pu_bit_lt (h.2.1 v) e, Nat.lt_of_not_le (fun q => ?_)⟩
  unfold EA at e
  rw [h.2.2.1 v q, Nat.zero_testBit] at e
  cases e
theorem GG.tau {n : Nat} {P : Nat → Nat} (h : GG n P) : ∃ τ : Nat → Nat, ∀ u v, EA P u v → τ u < τ v := by
  obtain ⟨τ, ht⟩ := h.2.2.2
  exact ⟨τ, fun u v e => ht u v (h.fin e).2 e⟩
theorem GG.irr {n : Nat} {P : Nat → Nat} (h : GG n P) {u : Nat} : ¬ EA P u u := fun q => by
  obtain ⟨τ, ht⟩ := h.tau
  have := ht u u q
  omega
theorem GG.asy {n : Nat} {P : Nat → Nat} (h : GG n P) {u v : Nat} (h1 : EA P u v) : ¬ EA P v u := fun q => by
  obtain ⟨τ, ht⟩ := h.tau
  have := ht u v h1
  have := ht v u q
  omega
theorem VST.sy {E : Nat → Nat → Prop} {x y z : Nat} (h : VST E x y z) : VST E z y x := ⟨h.2.1, h.1, Ne.symm h.2.2.1, fun q => h.2.2.2 (Or.symm q)⟩
theorem GG.some {n : Nat} {P : Nat → Nat} (h : GG n P) {a b : Nat} (hab : a < b) (hb : b < n) (hn : ¬ ADJ (EA P) a b) : ∃ s, s < 2 ^ n ∧ s.testBit a = false ∧ s.testBit b = false ∧ ¬ DC (EA P) (BT s) a b := by
  obtain ⟨τ, ht⟩ := h.tau
  have fa : ∀ {x : Bool}, ¬ x = true → x = false := by intro x q; cases x <;> simp_all
  rcases Nat.le_total (τ a) (τ b) with hle | hle
  · exact ⟨P b, h.2.1 b, fa (fun q => hn (Or.inl q)), fa (fun q => h.irr (u := b) q), DC.not1 ht (by omega) hn hle⟩
  · exact ⟨P a, h.2.1 a, fa (fun q => h.irr (u := a) q), fa (fun q => hn (Or.inr q)), DC.not2 ht (by omega) hn hle⟩
theorem SAME.dc {n : Nat} {P g : Nat → Nat} (hP : GG n P) (hg : GG n g) (h : SAME P g n) {s a b : Nat} (hs : s < 2 ^ n) (hab : a < b) (hb : b < n) (h1 : s.testBit a = false) (h2 : s.testBit b = false) : DC (EA g) (BT s) a b ↔ DC (EA P) (BT s) a b := by
  have e := h s a b hs hab hb h1 h2
  have i1 := pu_sp_iff hg.1 hg.2.1 (show a < n by omega) hb hs (by omega) h1 h2
  have i2 := pu_sp_iff hP.1 hP.2.1 (show a < n by omega) hb hs (by omega) h1 h2
  rw [e, i2] at i1
  constructor
  · intro q
    exact Classical.byContradiction (fun w => i1.mp w q)
  · intro q
    exact Classical.byContradiction (fun w => i1.mpr w q)
theorem SAME.skv {n : Nat} {P g : Nat → Nat} (hP : GG n P) (hg : GG n g) (h : SAME P g n) : SKV (EA P) (EA g) := by
  have adj : ∀ u v, u < v → (ADJ (EA P) u v ↔ ADJ (EA g) u v) := by
    intro u v huv
    constructor
    · intro q
      have hv : v < n := q.elim (fun e => (hP.fin e).2) (fun e => (hP.fin e).1)
      refine Classical.byContradiction (fun w => ?_)
      obtain ⟨s, h1, h2, h3, h4⟩ := hg.some huv hv w
      exact h4 ((h.dc hP hg h1 huv hv h2 h3).mpr (DC.adj q (by simp [BT, h2])))
    · intro q
      have hv : v < n := q.elim (fun e => (hg.fin e).2) (fun e => (hg.fin e).1)
      refine Classical.byContradiction (fun w => ?_)
      obtain ⟨s, h1, h2, h3, h4⟩ := hP.some huv hv w
      exact h4 ((h.dc hP hg h1 huv hv h2 h3).mp (DC.adj q (by simp [BT, h2])))
  have adj2 : ∀ u v, ADJ (EA P) u v ↔ ADJ (EA g) u v := by
    intro u v
    rcases Nat.lt_trichotomy u v with q | rfl | q
    · exact adj u v q
    · exact ⟨fun w => w.elim (fun e => absurd e hP.irr) (fun e => absurd e hP.irr), fun w => w.elim (fun e => absurd e hg.irr) (fun e => absurd e hg.irr)⟩
    · exact ⟨fun w => Or.symm ((adj v u q).mp (Or.symm w)), fun w => Or.symm ((adj v u q).mpr (Or.symm w))⟩
  have vs : ∀ (A B : Nat → Nat), GG n A → GG n B → (∀ u v, ADJ (EA A) u v ↔ ADJ (EA B) u v) → (∀ s a b, s < 2 ^ n → a < b → b < n → s.testBit a = false → s.testBit b = false → (DC (EA B) (BT s) a b → DC (EA A) (BT s) a b)) → ∀ x y z, x < z → VST (EA A) x y z → VST (EA B) x y z := by
    intro A B hA hB hadj hdc x y z hxz hv
    obtain ⟨h1, h2, h3, h4⟩ := hv
    have hz : z < n := (hA.fin h2).1
    obtain ⟨s, s1, s2, s3, s4⟩ := hA.some hxz hz h4
    have hys : ¬ BT s y := fun q => s4 (fun A' G' hC hG => Or.inr (hC.2.2.2 y z (hC.1 x y hG (by simp [BT, s2]) h1) q h2))
    have hnb : ¬ DC (EA B) (BT s) x z := fun q => s4 (hdc s x z s1 hxz hz s2 s3 q)
    have axy := (hadj x y).mp (Or.inl h1)
    have azy := (hadj z y).mp (Or.inl h2)
    have key : EA B x y ∧ EA B z y := Classical.byContradiction (fun w => hnb (fun A' G' hC hG => by
      rcases axy with q | q
      · have hA := hC.1 x y hG (by simp [BT, s2]) q
        have hyz : EA B y z := azy.resolve_left (fun e => w ⟨q, e⟩)
        exact Or.inl (hC.2.2.1 y z hA hys hyz)
      · have hGy := hC.2.1 x y hG (by simp [BT, s2]) q
        rcases azy with e | e
        · exact Or.inr (hC.2.1 y z hGy hys e)
        · exact Or.inl (hC.1 y z hGy hys e)))
    exact ⟨key.1, key.2, h3, fun q => h4 ((hadj x z).mpr q)⟩
  have v1 := vs P g hP hg adj2 (fun s a b q1 q2 q3 q4 q5 => (h.dc hP hg q1 q2 q3 q4 q5).mp)
  have v2 := vs g P hg hP (fun u v => (adj2 u v).symm) (fun s a b q1 q2 q3 q4 q5 => (h.dc hP hg q1 q2 q3 q4 q5).mpr)
  refine ⟨adj2, fun x y z => ⟨fun q => ?_, fun q => ?_⟩⟩
  · rcases Nat.lt_or_gt_of_ne q.2.2.1 with w | w
    · exact v1 x y z w q
    · exact (v1 z y x w q.sy).sy
  · rcases Nat.lt_or_gt_of_ne q.2.2.1 with w | w
    · exact v2 x y z w q
    · exact (v2 z y x w q.sy).sy
theorem SAME.of {n : Nat} {P g : Nat → Nat} (hP : GG n P) (hg : GG n g) (h : SKV (EA P) (EA g)) : SAME P g n := by
  intro s a b hs hab hb h1 h2
  obtain ⟨τ, ht⟩ := hP.tau
  obtain ⟨τ', ht'⟩ := hg.tau
  have hn := hP.1
  have key := SKV.dc 64 (EA P) (EA g) τ τ' (fun u v e => by have := hP.fin e; omega) ht ht' h (by
    have : ∀ (p : Nat → Prop) k, pu_cp p k ≤ k := by
      intro p k
      induction k with
      | zero => exact Nat.le_refl _
      | succ k ih =>
        show pu_cp p k + @ite _ _ (Classical.propDecidable _) _ _ ≤ k + 1
        by_cases q : p k
        · rw [if_pos q]; omega
        · rw [if_neg q]; omega
    exact this _ 64) (BT s) a b (by simp [BT, h2])
  have i1 := pu_sp_iff hg.1 hg.2.1 (show a < n by omega) hb hs (by omega) h1 h2
  have i2 := pu_sp_iff hP.1 hP.2.1 (show a < n by omega) hb hs (by omega) h1 h2
  rw [← key] at i1
  cases e1 : pu_sp g n a b s <;> cases e2 : pu_sp P n a b s <;> simp_all
theorem SAME.iff {n : Nat} {P g : Nat → Nat} (hP : GG n P) (hg : GG n g) : SAME P g n ↔ SKV (EA P) (EA g) := ⟨fun h => h.skv hP hg, fun h => SAME.of hP hg h⟩
/-! the class's test of two graphs -/
theorem DU.ad {P C : Nat → Nat} (h : DU P C) {x u : Nat} : (P x ||| C x).testBit u = true ↔ ADJ (EA P) u x := by
  rw [Nat.testBit_or, Bool.or_eq_true, h x u]
  exact Iff.rfl
theorem DU.st {P C : Nat → Nat} (h : DU P C) {q x z : Nat} (hP : ∀ i, P i < 256) : (pu_st P C q x).testBit z = true ↔ VST (EA P) q x z := by
  unfold pu_st VST
  by_cases e : (P x).testBit q = true
  · rw [if_pos e]
    by_cases hz : z < 32
    · rw [pu_dif_bit hz, pu_dif_bit hz, Bool.and_eq_true, Bool.and_eq_true, Nat.testBit_two_pow]
      have := h.ad (x := q) (u := z)
      constructor
      · rintro ⟨⟨h1, h2⟩, h3⟩
        exact ⟨e, h1, by simpa using h2, fun w => by rw [this.mpr (Or.symm w)] at h3; simp at h3⟩
      · rintro ⟨h1, h2, h3, h4⟩
        refine ⟨⟨h2, by simpa using h3⟩, ?_⟩
        cases w : (P q ||| C q).testBit z with
        | false => rfl
        | true => exact absurd (Or.symm (this.mp w)) h4
    · have hf : (P x).testBit z = false := Nat.testBit_lt_two_pow (Nat.lt_of_lt_of_le (hP x) (Nat.le_trans (show 256 ≤ 2 ^ 8 by decide) (Nat.pow_le_pow_right (by decide) (by omega))))
      have hf2 : (pu_dif (pu_dif (P x) (2 ^ q)) (P q ||| C q)).testBit z = false := Nat.testBit_lt_two_pow (Nat.lt_of_lt_of_le (pu_dif_lt (pu_dif_lt (hP x))) (Nat.le_trans (show 256 ≤ 2 ^ 8 by decide) (Nat.pow_le_pow_right (by decide) (by omega))))
      rw [hf2]
      exact ⟨fun w => (by cases w), fun w => (by have := w.2.1; unfold EA at this; rw [hf] at this; cases this)⟩
  · rw [if_neg e, Nat.zero_testBit]
    exact ⟨fun w => (by cases w), fun w => absurd w.1 e⟩
theorem pu_eqb {x y : Nat} (h : ∀ i, x.testBit i = true ↔ y.testBit i = true) : x = y := Nat.eq_of_testBit_eq (fun i => by
  cases e1 : x.testBit i <;> cases e2 : y.testBit i <;> simp_all)
theorem pu_alike {n : Nat} {P C KP KC : Nat → Nat} (hP : GG n P) (hK : GG n KP) (d1 : DU P C) (d2 : DU KP KC) : (∀ x, x < n → (P x ||| C x = KP x ||| KC x ∧ ∀ q, q < n → pu_st P C q x = pu_st KP KC q x)) ↔ SKV (EA P) (EA KP) := by
  have b1 : ∀ i, P i < 256 := fun i => pu_lt8 hP.1 (hP.2.1 i)
  have b2 : ∀ i, KP i < 256 := fun i => pu_lt8 hK.1 (hK.2.1 i)
  constructor
  · intro h
    refine ⟨fun u v => ?_, fun x y z => ?_⟩
    · constructor
      · intro q
        have hv : v < n := q.elim (fun e => (hP.fin e).2) (fun e => (hP.fin e).1)
        have := d1.ad.mpr q
        rw [(h v hv).1] at this
        exact d2.ad.mp this
      · intro q
        have hv : v < n := q.elim (fun e => (hK.fin e).2) (fun e => (hK.fin e).1)
        have := d2.ad.mpr q
        rw [← (h v hv).1] at this
        exact d1.ad.mp this
    · constructor
      · intro q
        have h1 := hP.fin q.1
        have := (d1.st b1).mpr q
        rw [(h y h1.2).2 x h1.1] at this
        exact (d2.st b2).mp this
      · intro q
        have h1 := hK.fin q.1
        have := (d2.st b2).mpr q
        rw [← (h y h1.2).2 x h1.1] at this
        exact (d1.st b1).mp this
  · intro h x hx
    refine ⟨pu_eqb (fun i => ?_), fun q hq => pu_eqb (fun i => ?_)⟩
    · rw [d1.ad, d2.ad]; exact h.1 i x
    · rw [d1.st b1, d2.st b2]; exact h.2 q x i
/-! walks -/
section Wk
variable {gi go : Nat → Nat} {n t a b : Nat}
theorem pu_start_inv : (go a = 0 ∧ gi a = 0) ∨ 17 ≤ 16 + pu_pop 8 (go a) + pu_pop 8 (gi a) ∨ ¬ (go a < 256 ∧ gi a < 256) := by
  by_cases hb : go a < 256 ∧ gi a < 256
  · by_cases z1 : go a = 0
    · by_cases z2 : gi a = 0
      · exact Or.inl ⟨z1, z2⟩
      · obtain ⟨q, hq⟩ := Nat.exists_testBit_of_ne_zero z2
        have := pu_pop_pos hq 8 (pu_bit_lt (n := 8) hb.2 hq)
        exact Or.inr (Or.inl (by omega))
    · obtain ⟨q, hq⟩ := Nat.exists_testBit_of_ne_zero z1
      have := pu_pop_pos hq 8 (pu_bit_lt (n := 8) hb.1 hq)
      exact Or.inr (Or.inl (by omega))
  · exact Or.inr (Or.inr hb)
theorem pu_re_iff (hgi : ∀ i, gi i < 256) (hgo : ∀ i, go i < 256) (hd : DU gi go) (ht : t < 256) (hab : a ≠ b) (hta : t.testBit a = false) : (pu_re gi go t (pu_cl gi 8 8 t) 16 (go a) (gi a) (go a) (gi a)).testBit b = true ↔ DC (EA gi) (BT t) a b := by
  have hcl := pu_cl_clo hgi ht
  obtain ⟨SA, SG, e, h1, h2, h3, h4⟩ := pu_re_end (t := t) (m := pu_cl gi 8 8 t) hgi hgo 16 (go a) (gi a) (go a) (gi a) (hgo a) (hgi a) ⟨SU.rf, SU.rf, fun u q1 q2 _ => (by rw [q1] at q2; cases q2), fun u q1 q2 _ => (by rw [q1] at q2; cases q2), fun u q1 q2 _ => (by rw [q1] at q2; cases q2)⟩ (by
    rcases pu_start_inv (gi := gi) (go := go) (a := a) with q | q | q
    · exact Or.inl q
    · exact Or.inr q
    · exact absurd ⟨hgo a, hgi a⟩ q)
  rw [e, Nat.testBit_or, Bool.or_eq_true]
  have oa : ∀ {u c : Nat}, (go u).testBit c = true ↔ EA gi u c := by
    intro u c
    rw [hd u c]
    exact Iff.rfl
  constructor
  · intro hb A G hC hG
    have key := h4 A G ?_ ?_ ?_ ?_ ?_
    · exact hb.imp (key.1 b) (key.2 b)
    · intro u hu hut
      exact ⟨fun c hc => hC.1 u c hu (by simp [BT, hut]) (oa.mp hc), fun y hy => hC.2.1 u y hu (by simp [BT, hut]) hy⟩
    · intro u hu hut c hc
      exact hC.2.2.1 u c hu (by simp [BT, hut]) (oa.mp hc)
    · intro u hu hum y hy
      exact hC.anc hum hu y hy
    · intro u hu
      exact hC.1 a u hG (by simp [BT, hta]) (oa.mp hu)
    · intro u hu
      exact hC.2.1 a u hG (by simp [BT, hta]) hu
  · intro h
    have fa : ∀ {u : Nat}, ¬ BT t u → t.testBit u = false := by
      intro u q
      cases w : t.testBit u with
      | false => rfl
      | true => exact absurd w q
    have key := h (fun u => SA.testBit u = true) (fun u => u = a ∨ SG.testBit u = true) ⟨?_, ?_, ?_, ?_⟩ (Or.inl rfl)
    · rcases key with q | q | q
      · exact Or.inl q
      · exact absurd q.symm hab
      · exact Or.inr q
    · intro u c hG hS hE
      rcases hG with rfl | q
      · exact h1 c (oa.mpr hE)
      · exact (h3.2.2.1 u q (Nat.zero_testBit _) (fa hS)).1 c (oa.mpr hE)
    · intro u y hG hS hE
      rcases hG with rfl | q
      · exact Or.inr (h2 y hE)
      · exact Or.inr ((h3.2.2.1 u q (Nat.zero_testBit _) (fa hS)).2 y hE)
    · intro u c hA hS hE
      exact h3.2.2.2.1 u hA (Nat.zero_testBit _) (fa hS) c (oa.mpr hE)
    · intro u y hA hS hE
      exact Or.inr (h3.2.2.2.2 u hA (Nat.zero_testBit _) (hcl.1 u hS) y hE)
/-- no shortest walk just if the reference says: separated -/
theorem pu_sw_sp (hn : n ≤ 8) (hgn : ∀ i, gi i < 2 ^ n) (hgo : ∀ i, go i < 256) (hd : DU gi go) (ht : t < 2 ^ n) (ha : a < n) (hb : b < n) (hab : a ≠ b) (hta : t.testBit a = false) (htb : t.testBit b = false) : pu_sw gi go t (pu_cl gi 8 8 t) b 16 1 (go a) (gi a) (go a) (gi a) = -1 ↔ pu_sp gi n a b t = true := by
  have hgi : ∀ i, gi i < 256 := fun i => pu_lt8 hn (hgn i)
  rw [pu_sw_re hgi hgo 16 1 (go a) (gi a) (go a) (gi a) (by decide) (hgo a) (hgi a) SU.rf SU.rf (by
    rcases pu_start_inv (gi := gi) (go := go) (a := a) with q | q | q
    · exact Or.inl q
    · exact Or.inr q
    · exact absurd ⟨hgo a, hgi a⟩ q) (fun q => q) (fun q => q), pu_sp_iff hn hgn ha hb ht hab hta htb, ← pu_re_iff hgi hgo hd (pu_lt8 hn ht) hab hta]
  cases (pu_re gi go t (pu_cl gi 8 8 t) 16 (go a) (gi a) (go a) (gi a)).testBit b <;> simp
theorem pu_re_sp (hn : n ≤ 8) (hgn : ∀ i, gi i < 2 ^ n) (hgo : ∀ i, go i < 256) (hd : DU gi go) (ht : t < 2 ^ n) (ha : a < n) (hb : b < n) (hab : a ≠ b) (hta : t.testBit a = false) (htb : t.testBit b = false) : (pu_re gi go t (pu_cl gi 8 8 t) 16 (go a) (gi a) (go a) (gi a)).testBit b = false ↔ pu_sp gi n a b t = true := by
  have hgi : ∀ i, gi i < 256 := fun i => pu_lt8 hn (hgn i)
  rw [pu_sp_iff hn hgn ha hb ht hab hta htb, ← pu_re_iff hgi hgo hd (pu_lt8 hn ht) hab hta]
  cases (pu_re gi go t (pu_cl gi 8 8 t) 16 (go a) (gi a) (go a) (gi a)).testBit b <;> simp
end Wk
