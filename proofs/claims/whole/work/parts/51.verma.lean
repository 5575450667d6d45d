/-! GRAPHS THAT TELL THE SAME -/
def ADJ (E : Nat → Nat → Prop) (u v : Nat) : Prop := E u v ∨ E v u
def VST (E : Nat → Nat → Prop) (x y z : Nat) : Prop := E x y ∧ E z y ∧ x ≠ z ∧ ¬ ADJ E x z
/-- the same places joined, the same strangers' arcs come together -/
def SKV (E E' : Nat → Nat → Prop) : Prop := (∀ u v, ADJ E u v ↔ ADJ E' u v) ∧ ∀ x y z, VST E x y z ↔ VST E' x y z
/-- an arc whose ends have the same parents but for itself -/
def COV (E : Nat → Nat → Prop) (x y : Nat) : Prop := E x y ∧ (∀ z, E z x → E z y) ∧ ∀ z, E z y → z ≠ x → E z x
/-- one arc turned -/
def RV (E : Nat → Nat → Prop) (x y u v : Nat) : Prop := (E u v ∧ ¬ (u = x ∧ v = y)) ∨ (u = y ∧ v = x)
section Cov
variable {E : Nat → Nat → Prop} {x y : Nat}
theorem RV.of {u v : Nat} (h : E u v) (hne : ¬ (u = x ∧ v = y)) : RV E x y u v := Or.inl ⟨h, hne⟩
theorem RV.it : RV E x y y x := Or.inr ⟨rfl, rfl⟩
theorem RV.dc {τ : Nat → Nat} (ht : ∀ u v, E u v → τ u < τ v) (hc : COV E x y) {S : Nat → Prop} {a b : Nat} (hSb : ¬ S b) (h : DC E S a b) : DC (RV E x y) S a b := by
  intro A G hC hGa
  obtain ⟨hxy, cov1, cov2⟩ := hc
  have txy := ht x y hxy
  have hne : x ≠ y := fun e => by rw [e] at txy; omega
  have irr : ∀ u, ¬ E u u := fun u q => by have := ht u u q; omega
  have nyx : ¬ E y x := fun q => by have := ht y x q; omega
  have parx : ∀ z, E z x → z ≠ x ∧ z ≠ y := fun z q => ⟨fun e => irr x (e ▸ q), fun e => nyx (e ▸ q)⟩
  have chy : ∀ c, E y c → c ≠ x ∧ c ≠ y := fun c q => ⟨fun e => nyx (e ▸ q), fun e => irr y (e ▸ q)⟩
  let R : Prop := (b = x ∨ b = y) → A b ∨ G b
  let Pm : Prop := ∀ z, E z x → G z
  let Cx : Prop := ∀ c, E x c → c ≠ y → A c
  let Cy : Prop := ∀ c, E y c → A c
  let PX : Prop := (¬ S x → Cx) ∧ (¬ S y → Cy) ∧ (S x → Pm) ∧ (S y → Pm) ∧ R
  let PY : Prop := (¬ S y → Cy) ∧ (S y → Pm ∧ (¬ S x → Cx)) ∧ R
  let MX : Prop := S x ∨ (Pm ∧ Cx ∧ (¬ S y → Cy) ∧ R)
  let MY : Prop := S y ∨ (Pm ∧ Cy ∧ (¬ S x → Cx) ∧ R)
  -- what stands where
  have ax : A x → A y → PX := by
    intro h1 h2
    refine ⟨fun hs c q1 q2 => hC.2.2.1 x c h1 hs (RV.of q1 (fun e => q2 e.2)), fun hs c q1 => hC.2.2.1 y c h2 hs (RV.of q1 (fun e => hne e.1.symm)), fun hs z q => hC.2.2.2 x z h1 hs (RV.of q (fun e => hne e.2)), fun hs z q => hC.2.2.2 y z h2 hs (RV.of (cov1 z q) (fun e => (parx z q).1 e.1)), ?_⟩
    rintro (rfl | rfl)
    · exact Or.inl h1
    · exact Or.inl h2
  have xy : PX → PY := fun q => ⟨q.2.1, fun hs => ⟨q.2.2.2.1 hs, q.1⟩, q.2.2.2.2⟩
  have gx : G x → MX := by
    intro h1
    by_cases hs : S x
    · exact Or.inl hs
    · have hy : G y := hC.2.1 x y h1 hs RV.it
      refine Or.inr ⟨fun z q => hC.2.1 x z h1 hs (RV.of q (fun e => hne e.2)), fun c q1 q2 => hC.1 x c h1 hs (RV.of q1 (fun e => q2 e.2)), fun hsy c q => hC.1 y c hy hsy (RV.of q (fun e => hne e.1.symm)), ?_⟩
      rintro (rfl | rfl)
      · exact Or.inr h1
      · exact Or.inr hy
  have gy : G y → MY := by
    intro h1
    by_cases hs : S y
    · exact Or.inl hs
    · have hx : A x := hC.1 y x h1 hs RV.it
      refine Or.inr ⟨fun z q => hC.2.1 y z h1 hs (RV.of (cov1 z q) (fun e => (parx z q).1 e.1)), fun c q => hC.1 y c h1 hs (RV.of q (fun e => hne e.1.symm)), fun hsx c q1 q2 => hC.2.2.1 x c hx hsx (RV.of q1 (fun e => q2 e.2)), ?_⟩
      rintro (rfl | rfl)
      · exact Or.inl hx
      · exact Or.inr h1
  let Bp : Nat → Prop := fun u => (u = x → PX) ∧ (u = y → PY) ∧ (u ≠ x → u ≠ y → A u)
  let Bm : Nat → Prop := fun u => (u = x → MX) ∧ (u = y → MY) ∧ (u ≠ x → u ≠ y → G u)
  have bpx : PX → Bp x := fun q => ⟨fun _ => q, fun e => absurd e hne, fun e _ => absurd rfl e⟩
  have bpy : PY → Bp y := fun q => ⟨fun e => absurd e.symm hne, fun _ => q, fun _ e => absurd rfl e⟩
  have bmx : MX → Bm x := fun q => ⟨fun _ => q, fun e => absurd e hne, fun e _ => absurd rfl e⟩
  have bmy : MY → Bm y := fun q => ⟨fun e => absurd e.symm hne, fun _ => q, fun _ e => absurd rfl e⟩
  have bpo : ∀ c, c ≠ x → c ≠ y → A c → Bp c := fun c h1 h2 q => ⟨fun e => absurd e h1, fun e => absurd e h2, fun _ _ => q⟩
  have bmo : ∀ c, c ≠ x → c ≠ y → G c → Bm c := fun c h1 h2 q => ⟨fun e => absurd e h1, fun e => absurd e h2, fun _ _ => q⟩
  have bmg : ∀ c, G c → Bm c := by
    intro c q
    by_cases e1 : c = x
    · subst e1; exact bmx (gx q)
    · by_cases e2 : c = y
      · subst e2; exact bmy (gy q)
      · exact bmo c e1 e2 q
  -- out of another place, along
  have outp : ∀ u c, u ≠ x → u ≠ y → E u c → (∀ d, RV E x y u d → A d) → Bp c := by
    intro u c h1 h2 q hA
    by_cases e1 : c = x
    · subst e1
      exact bpx (ax (hA c (RV.of q (fun e => h1 e.1))) (hA y (RV.of (cov1 u q) (fun e => h1 e.1))))
    · by_cases e2 : c = y
      · subst e2
        exact bpy (xy (ax (hA x (RV.of (cov2 u q h1) (fun e => h1 e.1))) (hA c (RV.of q (fun e => h1 e.1)))))
      · exact bpo c e1 e2 (hA c (RV.of q (fun e => h1 e.1)))
  have fin := h Bp Bm ⟨?_, ?_, ?_, ?_⟩ (bmg a hGa)
  · rcases fin with q | q
    · by_cases e1 : b = x
      · exact (q.1 e1).2.2.2.2 (Or.inl e1)
      · by_cases e2 : b = y
        · exact (q.2.1 e2).2.2 (Or.inr e2)
        · exact Or.inl (q.2.2 e1 e2)
    · by_cases e1 : b = x
      · rcases q.1 e1 with q | q
        · exact absurd (e1 ▸ q) hSb
        · exact q.2.2.2 (Or.inl e1)
      · by_cases e2 : b = y
        · rcases q.2.1 e2 with q | q
          · exact absurd (e2 ▸ q) hSb
          · exact q.2.2.2 (Or.inr e2)
        · exact Or.inr (q.2.2 e1 e2)
  · intro u c hB hS hE
    by_cases e1 : u = x
    · subst e1
      have q := (hB.1 rfl).resolve_left hS
      by_cases e2 : c = y
      · subst e2
        exact bpy ⟨q.2.2.1, fun _ => ⟨q.1, fun _ => q.2.1⟩, q.2.2.2⟩
      · exact bpo c (fun e => irr u (e ▸ hE)) e2 (q.2.1 c hE e2)
    · by_cases e2 : u = y
      · subst e2
        have q := (hB.2.1 rfl).resolve_left hS
        exact bpo c (chy c hE).1 (chy c hE).2 (q.2.1 c hE)
      · exact outp u c e1 e2 hE (fun d hd => hC.1 u d (hB.2.2 e1 e2) hS hd)
  · intro u z hB hS hE
    by_cases e1 : u = x
    · subst e1
      have q := (hB.1 rfl).resolve_left hS
      exact bmo z (parx z hE).1 (parx z hE).2 (q.1 z hE)
    · by_cases e2 : u = y
      · subst e2
        have q := (hB.2.1 rfl).resolve_left hS
        by_cases e3 : z = x
        · subst e3
          by_cases hsx : S z
          · exact bmx (Or.inl hsx)
          · exact bmx (Or.inr ⟨q.1, q.2.2.1 hsx, fun _ => q.2.1, q.2.2.2⟩)
        · have hzx := cov2 z hE e3
          exact bmo z e3 (parx z hzx).2 (q.1 z hzx)
      · exact bmg z (hC.2.1 u z (hB.2.2 e1 e2) hS (RV.of hE (fun e => e2 e.2)))
  · intro u c hB hS hE
    by_cases e1 : u = x
    · subst e1
      have q := hB.1 rfl
      by_cases e2 : c = y
      · subst e2; exact bpy (xy q)
      · exact bpo c (fun e => irr u (e ▸ hE)) e2 (q.1 hS c hE e2)
    · by_cases e2 : u = y
      · subst e2
        have q := hB.2.1 rfl
        exact bpo c (chy c hE).1 (chy c hE).2 (q.1 hS c hE)
      · exact outp u c e1 e2 hE (fun d hd => hC.2.2.1 u d (hB.2.2 e1 e2) hS hd)
  · intro u z hB hS hE
    by_cases e1 : u = x
    · subst e1
      have q := hB.1 rfl
      exact bmo z (parx z hE).1 (parx z hE).2 (q.2.2.1 hS z hE)
    · by_cases e2 : u = y
      · subst e2
        have q := hB.2.1 rfl
        by_cases e3 : z = x
        · subst e3
          by_cases hsx : S z
          · exact bmx (Or.inl hsx)
          · exact bmx (Or.inr ⟨(q.2.1 hS).1, (q.2.1 hS).2 hsx, fun hn => absurd hS hn, q.2.2⟩)
        · have hzx := cov2 z hE e3
          exact bmo z e3 (parx z hzx).2 ((q.2.1 hS).1 z hzx)
      · exact bmg z (hC.2.2.2 u z (hB.2.2 e1 e2) hS (RV.of hE (fun e => e2 e.2)))
theorem RV.tau {τ : Nat → Nat} (ht : ∀ u v, E u v → τ u < τ v) (hc : COV E x y) : ∀ u v, RV E x y u v → (fun w => if w = y then 2 * τ x else if w = x then 2 * τ x + 1 else 2 * τ w) u < (fun w => if w = y then 2 * τ x else if w = x then 2 * τ x + 1 else 2 * τ w) v := by
  obtain ⟨hxy, cov1, cov2⟩ := hc
  have txy := ht x y hxy
  have hne : ¬ x = y := fun e => by rw [e] at txy; omega
  intro u v h
  show (if u = y then 2 * τ x else if u = x then 2 * τ x + 1 else 2 * τ u) < (if v = y then 2 * τ x else if v = x then 2 * τ x + 1 else 2 * τ v)
  rcases h with ⟨h, hn⟩ | ⟨rfl, rfl⟩
  · have tuv := ht u v h
    by_cases u1 : u = y
    · subst u1
      rw [if_pos rfl, if_neg (fun e => by rw [e] at tuv; omega), if_neg (fun e => by rw [e] at tuv; omega)]
      omega
    · rw [if_neg u1]
      by_cases u2 : u = x
      · subst u2
        rw [if_pos rfl, if_neg (fun e => hn ⟨rfl, e⟩), if_neg (fun e => by rw [e] at tuv; omega)]
        omega
      · rw [if_neg u2]
        by_cases v1 : v = y
        · subst v1
          rw [if_pos rfl]
          have := ht u x (cov2 u h u2)
          omega
        · rw [if_neg v1]
          by_cases v2 : v = x
          · subst v2; rw [if_pos rfl]; omega
          · rw [if_neg v2]; omega
  · rw [if_pos rfl, if_neg hne, if_pos rfl]
    omega
theorem RV.cov {τ : Nat → Nat} (ht : ∀ u v, E u v → τ u < τ v) (hc : COV E x y) : COV (RV E x y) y x := by
  obtain ⟨hxy, cov1, cov2⟩ := hc
  have txy := ht x y hxy
  have hne : ¬ x = y := fun e => by rw [e] at txy; omega
  refine ⟨RV.it, fun z hz => ?_, fun z hz hzy => ?_⟩
  · rcases hz with ⟨h, hn⟩ | ⟨rfl, e⟩
    · have hzx : z ≠ x := fun e => hn ⟨e, rfl⟩
      exact RV.of (cov2 z h hzx) (fun e => hzx e.1)
    · exact absurd e.symm hne
  · rcases hz with ⟨h, hn⟩ | ⟨rfl, e⟩
    · exact RV.of (cov1 z h) (fun e => by have := ht z x h; rw [e.1] at this; omega)
    · exact absurd rfl hzy
theorem RV.rv {τ : Nat → Nat} (ht : ∀ u v, E u v → τ u < τ v) (hxy : E x y) : RV (RV E x y) y x = E := by
  have txy := ht x y hxy
  have hne : ¬ x = y := fun e => by rw [e] at txy; omega
  funext u v
  apply propext
  constructor
  · rintro (⟨⟨h, -⟩ | ⟨rfl, rfl⟩, hn⟩ | ⟨rfl, rfl⟩)
    · exact h
    · exact absurd ⟨rfl, rfl⟩ hn
    · exact hxy
  · intro h
    by_cases e : u = x ∧ v = y
    · exact Or.inr ⟨e.1, e.2⟩
    · refine Or.inl ⟨Or.inl ⟨h, e⟩, fun e2 => ?_⟩
      have := ht u v h
      rw [e2.1, e2.2] at this
      omega
theorem RV.dciff {τ : Nat → Nat} (ht : ∀ u v, E u v → τ u < τ v) (hc : COV E x y) {S : Nat → Prop} {a b : Nat} (hSb : ¬ S b) : DC E S a b ↔ DC (RV E x y) S a b := by
  refine ⟨RV.dc ht hc hSb, fun h => ?_⟩
  have h2 := RV.dc (RV.tau ht hc) (RV.cov ht hc) hSb h
  rw [RV.rv ht hc.1] at h2
  exact h2
theorem RV.adj (hxy : E x y) {u v : Nat} : ADJ (RV E x y) u v ↔ ADJ E u v := by
  constructor
  · rintro ((⟨h, -⟩ | ⟨rfl, rfl⟩) | (⟨h, -⟩ | ⟨rfl, rfl⟩))
    · exact Or.inl h
    · exact Or.inr hxy
    · exact Or.inr h
    · exact Or.inl hxy
  · rintro (h | h)
    · by_cases e : u = x ∧ v = y
      · exact Or.inr (Or.inr ⟨e.2, e.1⟩)
      · exact Or.inl (RV.of h e)
    · by_cases e : v = x ∧ u = y
      · exact Or.inl (Or.inr ⟨e.2, e.1⟩)
      · exact Or.inr (RV.of h e)
theorem RV.vst {τ : Nat → Nat} (ht : ∀ u v, E u v → τ u < τ v) (hc : COV E x y) {p c q : Nat} : VST (RV E x y) p c q ↔ VST E p c q := by
  obtain ⟨hxy, cov1, cov2⟩ := hc
  constructor
  · rintro ⟨h1, h2, h3, h4⟩
    rw [RV.adj hxy] at h4
    rcases h1 with ⟨h1, n1⟩ | ⟨rfl, rfl⟩
    · rcases h2 with ⟨h2, n2⟩ | ⟨rfl, rfl⟩
      · exact ⟨h1, h2, h3, h4⟩
      · exact absurd (Or.inl (cov1 p h1)) h4
    · rcases h2 with ⟨h2, n2⟩ | ⟨rfl, e⟩
      · exact absurd (Or.inr (cov1 q h2)) h4
      · exact absurd rfl h3
  · rintro ⟨h1, h2, h3, h4⟩
    have h4' : ¬ ADJ (RV E x y) p q := fun w => h4 ((RV.adj hxy).mp w)
    refine ⟨RV.of h1 ?_, RV.of h2 ?_, h3, h4'⟩
    · rintro ⟨rfl, rfl⟩
      exact h4 (Or.inr (cov2 q h2 (Ne.symm h3)))
    · rintro ⟨rfl, rfl⟩
      exact h4 (Or.inl (cov2 p h1 h3))
end Cov
/-! counting -/
noncomputable def pu_cp (p : Nat → Prop) : Nat → Nat
  | 0 => 0
  | k + 1 => pu_cp p k + @ite _ (p k) (Classical.propDecidable _) 1 0
theorem pu_cp_le {p q : Nat → Prop} (h : ∀ i, p i → q i) : ∀ k, pu_cp p k ≤ pu_cp q k
  | 0 => Nat.le_refl _
  | k + 1 => by
    have ih := pu_cp_le h k
    show pu_cp p k + @ite _ _ (Classical.propDecidable _) _ _ ≤ pu_cp q k + @ite _ _ (Classical.propDecidable _) _ _
    by_cases hp : p k
    · rw [if_pos hp, if_pos (h k hp)]; omega
    · rw [if_neg hp]; omega
theorem pu_cp_lt {p q : Nat → Prop} (h : ∀ i, p i → q i) {j : Nat} (h1 : q j) (h2 : ¬ p j) : ∀ {k : Nat}, j < k → pu_cp p k < pu_cp q k
  | k + 1, hj => by
    show pu_cp p k + @ite _ _ (Classical.propDecidable _) _ _ < pu_cp q k + @ite _ _ (Classical.propDecidable _) _ _
    rcases (show j < k ∨ j = k by omega) with h3 | rfl
    · have ih := pu_cp_lt h h1 h2 h3
      by_cases hp : p k
      · rw [if_pos hp, if_pos (h k hp)]; omega
      · rw [if_neg hp]; omega
    · rw [if_neg h2, if_pos h1]
      have := pu_cp_le h j
      omega
/-- a least one -/
theorem pu_least (f : Nat → Nat) (p : Nat → Prop) : ∀ m z, f z ≤ m → p z → ∃ y, p y ∧ ∀ w, p w → f y ≤ f w := by
  intro m
  induction m with
  | zero => intro z hz hp; exact ⟨z, hp, fun w _ => by omega⟩
  | succ m ih =>
    intro z hz hp
    by_cases h : ∃ w, p w ∧ f w ≤ m
    · obtain ⟨w, h1, h2⟩ := h
      exact ih w h2 h1
    · refine ⟨z, hp, fun w hw => ?_⟩
      have : ¬ f w ≤ m := fun q => h ⟨w, hw, q⟩
      omega
/-- where two such graphs differ, an arc that differs is covered -/
theorem SKV.cov {E E' : Nat → Nat → Prop} {τ τ' : Nat → Nat} (ht : ∀ u v, E u v → τ u < τ v) (ht' : ∀ u v, E' u v → τ' u < τ' v) (h : SKV E E') {x0 y0 : Nat} (h0 : E x0 y0) (h0' : E' y0 x0) : ∃ x y, COV E x y ∧ E' y x := by
  obtain ⟨y, ⟨x1, q1, q2⟩, hmin⟩ := pu_least τ (fun v => ∃ u, E u v ∧ E' v u) (τ y0) y0 (Nat.le_refl _) ⟨x0, h0, h0'⟩
  obtain ⟨x, ⟨p1, p2⟩, hmax⟩ := pu_least (fun u => τ y - τ u) (fun u => E u y ∧ E' y u) (τ y - τ x1) x1 (Nat.le_refl _) ⟨q1, q2⟩
  have txy := ht x y p1
  refine ⟨x, y, ⟨p1, fun z hz => ?_, fun z hz hzx => ?_⟩, p2⟩
  · have tzx := ht z x hz
    have hz' : E' z x := by
      rcases (h.1 z x).mp (Or.inl hz) with q | q
      · exact q
      · have := hmin x ⟨z, hz, q⟩; omega
    have hadj : ADJ E z y := Classical.byContradiction fun hn => by
      have hv : VST E' z x y := ⟨hz', p2, fun e => by rw [e] at tzx; omega, fun q => hn ((h.1 z y).mpr q)⟩
      have := ht y x ((h.2 z x y).mpr hv).2.1
      omega
    rcases hadj with q | q
    · exact q
    · have := ht y z q; omega
  · have tzy := ht z y hz
    have hadj : ADJ E z x := Classical.byContradiction fun hn => by
      have hv : VST E z y x := ⟨hz, p1, hzx, hn⟩
      have h1 := ht' x y ((h.2 z y x).mp hv).2.1
      have h2 := ht' y x p2
      omega
    rcases hadj with q | q
    · exact q
    · exfalso
      have txz := ht x z q
      have n1 : ¬ E' y z := fun w => by have := hmax z ⟨hz, w⟩; omega
      have hzy' : E' z y := ((h.1 z y).mp (Or.inl hz)).resolve_right n1
      have t1 := ht' z y hzy'
      have t2 := ht' y x p2
      have hzx' : E' z x := ((h.1 x z).mp (Or.inl q)).resolve_left (fun w => by have := ht' x z w; omega)
      have := hmin z ⟨x, q, hzx'⟩
      omega
/-- .. so they tell the same -/
theorem SKV.dc : ∀ (m : Nat) (E E' : Nat → Nat → Prop) (τ τ' : Nat → Nat), (∀ u v, E u v → u < 8 ∧ v < 8) → (∀ u v, E u v → τ u < τ v) → (∀ u v, E' u v → τ' u < τ' v) → SKV E E' → pu_cp (fun w => E (w / 8) (w % 8) ∧ E' (w % 8) (w / 8)) 64 ≤ m → ∀ (S : Nat → Prop) (a b : Nat), ¬ S b → (DC E S a b ↔ DC E' S a b) := by
  intro m
  induction m with
  | zero =>
    intro E E' τ τ' hf ht ht' h hm S a b hS
    have hno : ∀ u v, E u v → ¬ E' v u := fun u v h1 h2 => by
      have hb := hf u v h1
      have := pu_cp_lt (p := fun _ => False) (q := fun w => E (w / 8) (w % 8) ∧ E' (w % 8) (w / 8)) (fun _ q => q.elim) (j := 8 * u + v) (by show E ((8 * u + v) / 8) ((8 * u + v) % 8) ∧ E' ((8 * u + v) % 8) ((8 * u + v) / 8); rw [show (8 * u + v) / 8 = u by omega, show (8 * u + v) % 8 = v by omega]; exact ⟨h1, h2⟩) (fun q => q) (k := 64) (by omega)
      omega
    have e : E = E' := by
      funext u v
      apply propext
      constructor
      · intro q
        exact ((h.1 u v).mp (Or.inl q)).resolve_right (hno u v q)
      · intro q
        exact ((h.1 u v).mpr (Or.inl q)).resolve_right (fun w => hno v u w q)
    rw [e]
  | succ m ih =>
    intro E E' τ τ' hf ht ht' h hm S a b hS
    by_cases hd : ∃ u v, E u v ∧ E' v u
    · obtain ⟨x0, y0, h0, h0'⟩ := hd
      obtain ⟨x, y, hc, hyx⟩ := h.cov ht ht' h0 h0'
      rw [RV.dciff ht hc hS]
      have hb := hf x y hc.1
      refine ih (RV E x y) E' _ τ' ?_ (RV.tau ht hc) ht' ⟨fun u v => by rw [RV.adj hc.1]; exact h.1 u v, fun p c q => by rw [RV.vst ht hc]; exact h.2 p c q⟩ ?_ S a b hS
      · rintro u v (⟨q, -⟩ | ⟨rfl, rfl⟩)
        · exact hf u v q
        · exact ⟨hb.2, hb.1⟩
      · have hlt := pu_cp_lt (p := fun w => RV E x y (w / 8) (w % 8) ∧ E' (w % 8) (w / 8)) (q := fun w => E (w / 8) (w % 8) ∧ E' (w % 8) (w / 8)) (fun w q => by
          obtain ⟨⟨q, -⟩ | ⟨e1, e2⟩, q2⟩ := q
          · exact ⟨q, q2⟩
          · rw [e1, e2] at q2
            have t1 := ht' x y q2
            have t2 := ht' y x hyx
            omega) (j := 8 * x + y) (by show E ((8 * x + y) / 8) ((8 * x + y) % 8) ∧ E' ((8 * x + y) % 8) ((8 * x + y) / 8); rw [show (8 * x + y) / 8 = x by omega, show (8 * x + y) % 8 = y by omega]; exact ⟨hc.1, hyx⟩) (fun q => by
          have q1 := q.1
          rw [show (8 * x + y) / 8 = x by omega, show (8 * x + y) % 8 = y by omega] at q1
          have txy := ht x y hc.1
          rcases q1 with ⟨-, w⟩ | ⟨e, -⟩
          · exact w ⟨rfl, rfl⟩
          · rw [e] at txy; omega) (k := 64) (by omega)
        omega
    · refine ih E E' τ τ' hf ht ht' h ?_ S a b hS
      have hz : pu_cp (fun w => E (w / 8) (w % 8) ∧ E' (w % 8) (w / 8)) 64 ≤ pu_cp (fun _ => False) 64 := pu_cp_le (fun w q => hd ⟨_, _, q⟩) 64
      have hz0 : ∀ k, pu_cp (fun _ => False) k = 0 := by
        intro k
        induction k with
        | zero => rfl
        | succ k ih => show pu_cp _ k + @ite _ _ (Classical.propDecidable _) _ _ = 0; rw [ih, if_neg (fun q => q)]
      rw [hz0] at hz
      omega
/-! what tells the same is so -/
section Tell
variable {E E' : Nat → Nat → Prop} {τ : Nat → Nat}
theorem DC.adj {S : Nat → Prop} {a b : Nat} (h : ADJ E a b) (hS : ¬ S a) : DC E S a b := fun A G hC hG => h.elim (fun q => Or.inl (hC.1 a b hG hS q)) (fun q => Or.inr (hC.2.1 a b hG hS q))
theorem DC.not1 (ht : ∀ u v, E u v → τ u < τ v) {a b : Nat} (hab : a ≠ b) (hn : ¬ ADJ E a b) (hle : τ a ≤ τ b) : ¬ DC E (fun u => E u b) a b := by
  intro h
  have key := h (fun u => u ≠ b) (fun u => τ u ≤ τ b ∧ u ≠ b) ⟨?_, ?_, ?_, ?_⟩ ⟨hle, hab⟩
  · rcases key with q | q
    · exact q rfl
    · exact q.2 rfl
  · rintro u c - hS hE rfl
    exact hS hE
  · intro u y hG _ hE
    have := ht y u hE
    exact ⟨by omega, fun e => by rw [e] at this; omega⟩
  · rintro u c - hS hE rfl
    exact hS hE
  · intro u y _ hS hE
    have t1 := ht u b hS
    have t2 := ht y u hE
    exact ⟨by omega, fun e => by rw [e] at t2; omega⟩
theorem DC.not2 (ht : ∀ u v, E u v → τ u < τ v) {a b : Nat} (hab : a ≠ b) (hn : ¬ ADJ E a b) (hle : τ b ≤ τ a) : ¬ DC E (fun u => E u a) a b := by
  intro h
  have key := h (fun u => τ a < τ u) (fun u => u = a ∨ E u a) ⟨?_, ?_, ?_, ?_⟩ (Or.inl rfl)
  · rcases key with q | q
    · have : τ a < τ b := q
      omega
    · rcases q with q | q
      · exact hab q.symm
      · exact hn (Or.inr q)
  · intro u c hG hS hE
    rcases hG with rfl | q
    · exact ht u c hE
    · exact absurd q hS
  · intro u y hG hS hE
    rcases hG with rfl | q
    · exact Or.inr hE
    · exact absurd q hS
  · intro u c hA _ hE
    have := ht u c hE
    have hA : τ a < τ u := hA
    show τ a < τ c
    omega
  · intro u y hA hS hE
    have := ht u a hS
    have hA : τ a < τ u := hA
    omega
end Tell
