/-! FAMILIES (2): the reference's ways, and both together -/
def pu_sum (f : Nat → Nat) : Nat → Nat
  | 0 => 0
  | N + 1 => pu_sum f N + f N
theorem pu_sum_add {f : Nat → Nat} {a : Nat} : ∀ b, pu_sum f (a + b) = pu_sum f a + pu_sum (fun x => f (a + x)) b
  | 0 => rfl
  | b + 1 => by
    show pu_sum f (a + b) + f (a + b) = pu_sum f a + (pu_sum (fun x => f (a + x)) b + f (a + b))
    rw [pu_sum_add b]
    omega
theorem pu_sum_two {f g : Nat → Nat} : ∀ N, pu_sum (fun x => f x + g x) N = pu_sum f N + pu_sum g N
  | 0 => rfl
  | N + 1 => by
    show pu_sum (fun x => f x + g x) N + (f N + g N) = (pu_sum f N + f N) + (pu_sum g N + g N)
    rw [pu_sum_two N]
    omega
theorem pu_sum_congr {f g : Nat → Nat} : ∀ {N : Nat}, (∀ x, x < N → f x = g x) → pu_sum f N = pu_sum g N
  | 0, _ => rfl
  | N + 1, h => by
    show pu_sum f N + f N = pu_sum g N + g N
    rw [pu_sum_congr (fun x hx => h x (by omega)), h N (Nat.lt_succ_self _)]
theorem pu_sum_0 {f : Nat → Nat} : ∀ {N : Nat}, pu_sum f N = 0 ↔ ∀ x, x < N → f x = 0
  | 0 => ⟨fun _ x hx => absurd hx (Nat.not_lt_zero _), fun _ => rfl⟩
  | N + 1 => by
    show pu_sum f N + f N = 0 ↔ _
    constructor
    · intro h x hx
      rcases (show x < N ∨ x = N by omega) with q | rfl
      · exact pu_sum_0.mp (by omega) x q
      · omega
    · intro h
      rw [pu_sum_0.mpr (fun x hx => h x (by omega)), h N (Nat.lt_succ_self _)]
theorem pu_tw_congr {L : List (Nat × Nat)} {x y : Nat} : ∀ {m : Nat}, (∀ b, b < m → x.testBit b = y.testBit b) → pu_tw L x m = pu_tw L y m
  | 0, _ => rfl
  | m + 1, h => by
    unfold pu_tw
    rw [pu_tw_congr (fun b hb => h b (by omega)), h m (Nat.lt_succ_self _)]
theorem pu_ways {G : (Nat → Nat) → Prop} {L : List (Nat × Nat)} : ∀ m, m ≤ L.length → pu_sum (fun x => pu_cnt G (L.drop m) (pu_tw L x m)) (2 ^ m) = pu_cnt G L (fun _ => 0)
  | 0, _ => by
    show 0 + pu_cnt G (L.drop 0) _ = _
    rw [List.drop_zero, Nat.zero_add]
    rfl
  | m + 1, hm => by
    have hi : m < L.length := by omega
    have e : L[m]? = some L[m] := List.getElem?_eq_getElem hi
    rw [Nat.pow_succ, Nat.mul_two, pu_sum_add, ← pu_ways m (by omega), ← pu_sum_two]
    apply pu_sum_congr
    intro x hx
    have hp : (2 ^ m + x).testBit m = true := by
      rw [Nat.testBit_two_pow_add_eq, Nat.testBit_lt_two_pow hx]; rfl
    have t1 : pu_tw L x (m + 1) = pu_lay (pu_tw L x m) L[m] := by
      show (match L[m]? with | some q => if x.testBit m then pu_lay (pu_tw L x m) (q.2, q.1) else pu_lay (pu_tw L x m) q | none => pu_tw L x m) = _
      rw [e]
      show (if x.testBit m = true then _ else _) = _
      rw [Nat.testBit_lt_two_pow hx, if_neg (by decide)]
    have t2 : pu_tw L (2 ^ m + x) (m + 1) = pu_lay (pu_tw L x m) (L[m].2, L[m].1) := by
      show (match L[m]? with | some q => if (2 ^ m + x).testBit m then pu_lay (pu_tw L (2 ^ m + x) m) (q.2, q.1) else pu_lay (pu_tw L (2 ^ m + x) m) q | none => pu_tw L (2 ^ m + x) m) = _
      rw [e]
      show (if (2 ^ m + x).testBit m = true then _ else _) = _
      rw [hp, if_pos rfl, pu_tw_congr (y := x) (fun b hb => Nat.testBit_two_pow_add_gt hb x)]
    show pu_cnt G (L.drop (m + 1)) (pu_tw L x (m + 1)) + pu_cnt G (L.drop (m + 1)) (pu_tw L (2 ^ m + x) (m + 1)) = pu_cnt G (L.drop m) (pu_tw L x m)
    rw [t1, t2, List.drop_eq_getElem_cons hi]
    rfl
theorem pu_ways_all {G : (Nat → Nat) → Prop} {L : List (Nat × Nat)} : pu_sum (fun x => pu_ind (G (pu_tw L x L.length))) (2 ^ L.length) = pu_cnt G L (fun _ => 0) := by
  rw [← pu_ways L.length (Nat.le_refl _)]
  apply pu_sum_congr
  intro x _
  show _ = pu_cnt G (L.drop L.length) _
  rw [List.drop_length]
  rfl
theorem pu_fm_sum {G : Nat → Prop} {k : Nat} : ∀ N, (pu_fm G k N).1 = pu_sum (fun x => pu_ind (G x)) N
  | 0 => rfl
  | N + 1 => by
    show _ = pu_sum (fun x => pu_ind (G x)) N + pu_ind (G N)
    by_cases h : G N
    · rw [pu_fm_t h, pu_ind_t h, ← pu_fm_sum N]
    · rw [pu_fm_f h, pu_ind_f h, ← pu_fm_sum N]; rfl
theorem pu_fm_bit {G : Nat → Prop} {k b : Nat} (hb : b < 32) : ∀ N, (pu_fm G k N).2.testBit b = true ↔ b < k ∧ ∀ x, x < N → G x → x.testBit b = false
  | 0 => by
    show (2 ^ k - 1).testBit b = true ↔ _
    rw [Nat.testBit_two_pow_sub_one]
    exact ⟨fun h => ⟨of_decide_eq_true h, fun x hx => absurd hx (Nat.not_lt_zero _)⟩, fun h => decide_eq_true h.1⟩
  | N + 1 => by
    by_cases h : G N
    · rw [pu_fm_t h]
      show (pu_dif (pu_fm G k N).2 N).testBit b = true ↔ _
      rw [pu_dif_bit hb, Bool.and_eq_true, pu_fm_bit hb N]
      constructor
      · rintro ⟨⟨h1, h2⟩, h3⟩
        refine ⟨h1, fun x hx hG => ?_⟩
        rcases (show x < N ∨ x = N by omega) with q | rfl
        · exact h2 x q hG
        · cases w : x.testBit b with
          | false => rfl
          | true => rw [w] at h3; cases h3
      · rintro ⟨h1, h2⟩
        exact ⟨⟨h1, fun x hx => h2 x (by omega)⟩, by rw [h2 N (Nat.lt_succ_self _) h]; rfl⟩
    · rw [pu_fm_f h, pu_fm_bit hb N]
      constructor
      · rintro ⟨h1, h2⟩
        refine ⟨h1, fun x hx hG => ?_⟩
        rcases (show x < N ∨ x = N by omega) with q | rfl
        · exact h2 x q hG
        · exact absurd hG h
      · rintro ⟨h1, h2⟩
        exact ⟨h1, fun x hx => h2 x (by omega)⟩
/-! which arcs a list holds -/
theorem pu_row_mem {C : Nat → Nat} {p : Nat} {q : Nat × Nat} : ∀ {c : Nat}, q ∈ pu_row C p c ↔ q.1 = p ∧ q.2 < c ∧ (C p).testBit q.2 = true
  | 0 => ⟨fun h => absurd h List.not_mem_nil, fun h => absurd h.2.1 (Nat.not_lt_zero _)⟩
  | c + 1 => by
    unfold pu_row
    cases e : (C p).testBit c with
    | true =>
      rw [if_pos rfl, List.mem_append, pu_row_mem, List.mem_singleton]
      constructor
      · rintro (⟨h1, h2, h3⟩ | rfl)
        · exact ⟨h1, by omega, h3⟩
        · exact ⟨rfl, Nat.lt_succ_self _, e⟩
      · rintro ⟨h1, h2, h3⟩
        rcases (show q.2 < c ∨ q.2 = c by omega) with w | w
        · exact Or.inl ⟨h1, w, h3⟩
        · exact Or.inr (by rw [← h1, ← w])
    | false =>
      rw [if_neg (by decide), pu_row_mem]
      constructor
      · rintro ⟨h1, h2, h3⟩
        exact ⟨h1, by omega, h3⟩
      · rintro ⟨h1, h2, h3⟩
        rcases (show q.2 < c ∨ q.2 = c by omega) with w | w
        · exact ⟨h1, w, h3⟩
        · rw [w, e] at h3; cases h3
theorem pu_al_mem {C : Nat → Nat} {n : Nat} {q : Nat × Nat} : ∀ {p : Nat}, q ∈ pu_al C n p ↔ q.1 < p ∧ q.2 < n ∧ (C q.1).testBit q.2 = true
  | 0 => ⟨fun h => absurd h List.not_mem_nil, fun h => absurd h.1 (Nat.not_lt_zero _)⟩
  | p + 1 => by
    unfold pu_al
    rw [List.mem_append, pu_al_mem, pu_row_mem]
    constructor
    · rintro (⟨h1, h2, h3⟩ | ⟨h1, h2, h3⟩)
      · exact ⟨by omega, h2, h3⟩
      · exact ⟨by omega, h2, by rw [h1]; exact h3⟩
    · rintro ⟨h1, h2, h3⟩
      rcases (show q.1 < p ∨ q.1 = p by omega) with w | w
      · exact Or.inl ⟨w, h2, h3⟩
      · exact Or.inr ⟨w, h2, by rw [← w]; exact h3⟩
theorem pu_row_nd {C : Nat → Nat} {p : Nat} : ∀ c, (pu_row C p c).Nodup
  | 0 => List.nodup_nil
  | c + 1 => by
    unfold pu_row
    cases e : (C p).testBit c with
    | true =>
      rw [if_pos rfl, List.nodup_append]
      refine ⟨pu_row_nd c, List.nodup_cons.mpr ⟨List.not_mem_nil, List.nodup_nil⟩, fun a ha b hb => ?_⟩
      rw [List.mem_singleton] at hb
      rw [hb]
      intro q
      have := (pu_row_mem.mp ha).2.1
      rw [q] at this
      exact Nat.lt_irrefl _ this
    | false => rw [if_neg (by decide)]; exact pu_row_nd c
theorem pu_al_nd {C : Nat → Nat} {n : Nat} : ∀ p, (pu_al C n p).Nodup
  | 0 => List.nodup_nil
  | p + 1 => by
    unfold pu_al
    rw [List.nodup_append]
    refine ⟨pu_al_nd p, pu_row_nd n, fun a ha b hb q => ?_⟩
    have h1 := (pu_al_mem.mp ha).1
    have h2 := (pu_row_mem.mp hb).1
    rw [q] at h1
    omega
theorem pu_swp_nd {l : List (Nat × Nat)} (h : l.Nodup) : (l.map pu_swp).Nodup := List.pairwise_map.mpr (List.Pairwise.imp (fun {a b} (hab : a ≠ b) (e : pu_swp a = pu_swp b) => hab (by
  have e1 : a.2 = b.2 := congrArg Prod.fst e
  have e2 : a.1 = b.1 := congrArg Prod.snd e
  exact Prod.ext e2 e1)) h)
theorem pu_swp_mem {l : List (Nat × Nat)} {u v : Nat} : (u, v) ∈ l.map pu_swp ↔ (v, u) ∈ l := by
  rw [List.mem_map]
  constructor
  · rintro ⟨q, h, e⟩
    have e1 : q.2 = u := congrArg Prod.fst e
    have e2 : q.1 = v := congrArg Prod.snd e
    rw [← e1, ← e2]
    exact h
  · intro h
    exact ⟨(v, u), h, rfl⟩
section Both
variable {n : Nat} {P C : Nat → Nat}
theorem pu_al_ea (hP : GG n P) (hD : DU P C) (q : Nat × Nat) : q ∈ pu_al C n n ↔ EA P q.1 q.2 := by
  rw [pu_al_mem, hD q.1 q.2]
  exact ⟨fun h => h.2.2, fun h => ⟨(hP.fin h).1, (hP.fin h).2, h⟩⟩
theorem pu_al_ea' (hP : GG n P) (q : Nat × Nat) : q ∈ pu_al P n n ↔ EA P q.2 q.1 := by
  rw [pu_al_mem]
  exact ⟨fun h => h.2.2, fun h => ⟨(hP.fin h).2, (hP.fin h).1, h⟩⟩
theorem pu_al_perm (hP : GG n P) (hD : DU P C) : ((pu_al C n n).map pu_swp).Perm (pu_al P n n) := (List.perm_ext_iff_of_nodup (pu_swp_nd (pu_al_nd n)) (pu_al_nd n)).mpr (fun q => by
  obtain ⟨u, v⟩ := q
  rw [pu_swp_mem, pu_al_ea hP hD, pu_al_ea' hP])
theorem pu_cnt_both (hP : GG n P) (hD : DU P C) {G : (Nat → Nat) → Prop} {T : Nat → Nat} : pu_cnt G (pu_al C n n) T = pu_cnt G (pu_al P n n) T := by
  rw [← pu_cnt_perm (pu_al_perm hP hD), pu_cnt_sw]
theorem pu_tw_z {L : List (Nat × Nat)} {way n : Nat} (hL : ∀ q, q ∈ L → q.1 < n ∧ q.2 < n) : ∀ m i, n ≤ i → pu_tw L way m i = 0
  | 0, _, _ => rfl
  | m + 1, i, hi => by
    unfold pu_tw
    cases e : L[m]? with
    | none => exact pu_tw_z hL m i hi
    | some q =>
      have hq := hL q (List.mem_of_getElem? e)
      show (if way.testBit m then _ else _ : Nat → Nat) i = 0
      by_cases h : way.testBit m = true
      · rw [if_pos h]; unfold pu_lay pu_set; rw [if_neg (show ¬ i = q.2 by omega)]; exact pu_tw_z hL m i hi
      · rw [if_neg h]; unfold pu_lay pu_set; rw [if_neg (show ¬ i = q.1 by omega)]; exact pu_tw_z hL m i hi
theorem pu_tw_in {L : List (Nat × Nat)} {way b : Nat} {q : Nat × Nat} (hb : L[b]? = some q) : ∀ {m : Nat}, b < m → ((way.testBit b = true → EA (pu_tw L way m) q.1 q.2) ∧ (way.testBit b = false → EA (pu_tw L way m) q.2 q.1))
  | m + 1, h => by
    have mono : ∀ u v, EA (pu_tw L way m) u v → EA (pu_tw L way (m + 1)) u v := by
      intro u v e
      unfold pu_tw
      cases L[m]? with
      | none => exact e
      | some r =>
        show EA (if way.testBit m then _ else _) u v
        by_cases w : way.testBit m = true
        · rw [if_pos w]; exact pu_lay_ea.mpr (Or.inl e)
        · rw [if_neg w]; exact pu_lay_ea.mpr (Or.inl e)
    rcases (show b < m ∨ b = m by omega) with w | rfl
    · have := pu_tw_in (way := way) hb w
      exact ⟨fun x => mono _ _ (this.1 x), fun x => mono _ _ (this.2 x)⟩
    · unfold pu_tw
      rw [hb]
      refine ⟨fun x => ?_, fun x => ?_⟩
      · show EA (if way.testBit b then _ else _) q.1 q.2
        rw [if_pos x]; exact pu_lay_ea.mpr (Or.inr ⟨rfl, rfl⟩)
      · show EA (if way.testBit b then _ else _) q.2 q.1
        rw [if_neg (by rw [x]; decide)]; exact pu_lay_ea.mpr (Or.inr ⟨rfl, rfl⟩)
theorem pu_gw (hP : GG n P) {x : Nat} : GW P n (pu_al P n n) x ↔ Gd P (pu_tw (pu_al P n n) x (pu_al P n n).length) := by
  have hL : ∀ q, q ∈ pu_al P n n → q.1 < n ∧ q.2 < n := fun q hq => ⟨(pu_al_mem.mp hq).1, (pu_al_mem.mp hq).2.1⟩
  have hz := pu_tw_z (way := x) hL (pu_al P n n).length
  have hlt := pu_tw_lt (way := x) hL (pu_al P n n).length
  unfold GW Gd
  constructor
  · rintro ⟨h1, h2⟩
    have hg : GG n (pu_tw (pu_al P n n) x (pu_al P n n).length) := ⟨hP.1, hlt, hz, h1⟩
    exact ⟨hg.tau, (SAME.iff hP hg).mp h2⟩
  · rintro ⟨⟨τ, ht⟩, h2⟩
    have h1 : ACY n (pu_tw (pu_al P n n) x (pu_al P n n).length) := ⟨τ, fun u v _ e => ht u v e⟩
    have hg : GG n (pu_tw (pu_al P n n) x (pu_al P n n).length) := ⟨hP.1, hlt, hz, h1⟩
    exact ⟨h1, (SAME.iff hP hg).mpr h2⟩
theorem pu_fam1 (hP : GG n P) : (pu_fam P n).1 = pu_cnt (Gd P) (pu_al P n n) (fun _ => 0) := by
  unfold pu_fam
  rw [pu_fm_sum, ← pu_ways_all]
  apply pu_sum_congr
  intro x _
  show pu_ind _ = pu_ind _
  rw [show GW P n (pu_al P n n) x = Gd P (pu_tw (pu_al P n n) x (pu_al P n n).length) from propext (pu_gw hP)]
theorem pu_fam2 (hP : GG n P) {b : Nat} (hb : b < 32) : (pu_fam P n).2.testBit b = true ↔ ∃ q, (pu_al P n n)[b]? = some q ∧ pu_tn P (pu_al P n n) (q.2, q.1) = false := by
  unfold pu_fam
  rw [pu_fm_bit hb]
  have key : ∀ q, (pu_al P n n)[b]? = some q → ((∀ x, x < 2 ^ (pu_al P n n).length → GW P n (pu_al P n n) x → x.testBit b = false) ↔ pu_tn P (pu_al P n n) (q.2, q.1) = false) := by
    intro q hq
    have hbl : b < (pu_al P n n).length := (List.getElem?_eq_some_iff.mp hq).1
    unfold pu_tn
    show _ ↔ (!(pu_cnt (TT P q.2 q.1) (pu_al P n n) (fun _ => 0) == 0)) = false
    rw [← pu_ways_all]
    have : (!(pu_sum (fun x => pu_ind (TT P q.2 q.1 (pu_tw (pu_al P n n) x (pu_al P n n).length))) (2 ^ (pu_al P n n).length) == 0)) = false ↔ pu_sum (fun x => pu_ind (TT P q.2 q.1 (pu_tw (pu_al P n n) x (pu_al P n n).length))) (2 ^ (pu_al P n n).length) = 0 := by
      simp
    rw [this, pu_sum_0]
    constructor
    · intro h x hx
      refine pu_ind_f (fun w => ?_)
      have hx2 := h x hx ((pu_gw hP).mpr w.1)
      exact w.1.asy w.2 ((pu_tw_in hq hbl).2 hx2)
    · intro h x hx hG
      cases w : x.testBit b with
      | false => rfl
      | true =>
        have h2 : TT P q.2 q.1 (pu_tw (pu_al P n n) x (pu_al P n n).length) := ⟨(pu_gw hP).mp hG, (pu_tw_in hq hbl).1 w⟩
        have h3 := h x hx
        rw [pu_ind_t h2] at h3
        cases h3
  constructor
  · rintro ⟨h1, h2⟩
    have e : (pu_al P n n)[b]? = some (pu_al P n n)[b] := List.getElem?_eq_getElem h1
    exact ⟨_, e, (key _ e).mp h2⟩
  · rintro ⟨q, hq, h2⟩
    exact ⟨(List.getElem?_eq_some_iff.mp hq).1, (key q hq).mpr h2⟩
theorem pu_kin_spec (hP : GG n P) (hD : DU P C) : (pu_kin P C n).2.1 = pu_cnt (Gd P) (pu_al C n n) (fun _ => 0) ∧ ∀ b, ((pu_kin P C n).2.2.testBit b = true ↔ ∃ q, (pu_al C n n)[b]? = some q ∧ pu_tn P (pu_al C n n) q = true) := by
  have h := pu_dr_spec hP hD (L := pu_al C n n) (pu_al_ea hP hD) (pu_al_nd n) (pu_al C n n).length (Nat.le_refl _) 0 (fun _ => 0, 0, 0) (by
    rw [Nat.sub_self]
    have no : ∀ u v, ¬ EA (fun _ => 0) u v := fun u v q => by unfold EA at q; rw [Nat.zero_testBit] at q; cases q
    exact ⟨fun _ => (by show 0 < 256; decide), fun u v => ⟨fun q => q.elim (fun w => absurd w (no _ _)) (fun w => absurd w (no _ _)), fun ⟨b, hb, _⟩ => absurd hb (Nat.not_lt_zero _)⟩, ⟨fun _ => 0, fun u v q => absurd q (no _ _)⟩, fun x y z q => absurd q (no _ _), fun b p c hb => absurd hb (Nat.not_lt_zero _)⟩) (by
    rw [Nat.sub_self]
    exact ⟨fun b _ => Nat.zero_testBit b, fun b p c hb => absurd hb (Nat.not_lt_zero _)⟩)
  rw [Nat.sub_self, List.drop_zero] at h
  obtain ⟨-, h2, h3⟩ := h
  refine ⟨by unfold pu_kin; rw [h2]; exact Nat.zero_add _, fun b => ?_⟩
  unfold pu_kin
  rw [h3 b]
  show (0 : Nat).testBit b = true ∨ _ ↔ _
  rw [Nat.zero_testBit]
  have key : ∀ q : Nat × Nat, (pu_al C n n)[b]? = some q → GT P (pu_al C n n) b = TT P q.1 q.2 := by
    intro q hq
    funext Z
    apply propext
    constructor
    · rintro ⟨g, p, c, h1, h2⟩
      rw [hq] at h1
      injection h1 with h1
      rw [h1]
      exact ⟨g, h2⟩
    · rintro ⟨g, h2⟩
      exact ⟨g, q.1, q.2, hq, h2⟩
  have tn : ∀ q, pu_tn P (pu_al C n n) q = true ↔ ¬ pu_cnt (TT P q.1 q.2) (pu_al C n n) (fun _ => 0) = 0 := by
    intro q
    unfold pu_tn
    simp
  constructor
  · rintro (h | h)
    · cases h
    · cases e : (pu_al C n n)[b]? with
      | none =>
        exact absurd (pu_cnt_zero _ _ (fun Z _ ⟨_, p, c, w, _⟩ => by rw [e] at w; cases w)) h
      | some q =>
        rw [key q e] at h
        exact ⟨q, rfl, (tn q).mpr h⟩
  · rintro ⟨q, e, h⟩
    right
    rw [key q e]
    exact (tn q).mp h
theorem pu_family_eq (hP : GG n P) (hD : DU P C) : (pu_kin P C n).2.1 = (pu_fam P n).1 := by
  rw [(pu_kin_spec hP hD).1, pu_fam1 hP, pu_cnt_both hP hD]
theorem pu_tn_both (hP : GG n P) (hD : DU P C) (q : Nat × Nat) : pu_tn P (pu_al C n n) q = pu_tn P (pu_al P n n) q := by
  unfold pu_tn
  rw [pu_cnt_both hP hD]
/-! how many are turned -/
theorem pu_pop_count {α : Type} {f : α → Bool} {l : List α} {m : Nat} (h : ∀ b, b < l.length → (m.testBit b = true ↔ ∃ q, l[b]? = some q ∧ f q = true)) : ∀ j, j ≤ l.length → pu_pop j m = (l.take j).countP f
  | 0, _ => rfl
  | j + 1, hj => by
    have e : l[j]? = some l[j] := List.getElem?_eq_getElem (by omega)
    rw [pu_pop_s, pu_pop_count h j (by omega), List.take_add_one, List.countP_append, e]
    congr 1
    show _ = List.countP f [l[j]]
    rw [List.countP_singleton]
    have := h j (by omega)
    cases w : f l[j] with
    | true => rw [this.mpr ⟨_, e, w⟩]
    | false =>
      have : m.testBit j = false := by
        cases u : m.testBit j with
        | false => rfl
        | true =>
          obtain ⟨q, q1, q2⟩ := this.mp u
          rw [e] at q1
          injection q1 with q1
          rw [← q1, w] at q2
          cases q2
      rw [this]
theorem pu_pop_top {m j : Nat} (h : ∀ b, j ≤ b → m.testBit b = false) : ∀ k, pu_pop (j + k) m = pu_pop j m
  | 0 => rfl
  | k + 1 => by
    show pu_pop (j + k + 1) m = _
    rw [pu_pop_s, h (j + k) (by omega), pu_pop_top h k]
    rfl
theorem pu_count2_eq (hP : GG n P) (hD : DU P C) {k : Nat} (hk : k ≤ 10) (h1 : (pu_al C n n).length = k) (h2 : (pu_al P n n).length = k) : pu_pop 10 (pu_kin P C n).2.2 + pu_pop 10 (pu_fam P n).2 = k := by
  have a := (pu_kin_spec hP hD).2
  have e1 : pu_pop 10 (pu_kin P C n).2.2 = (pu_al C n n).countP (pu_tn P (pu_al P n n)) := by
    have t := pu_pop_top (m := (pu_kin P C n).2.2) (j := k) (fun b hb => by
      cases w : (pu_kin P C n).2.2.testBit b with
      | false => rfl
      | true =>
        obtain ⟨q, q1, -⟩ := (a b).mp w
        have := (List.getElem?_eq_some_iff.mp q1).1
        omega) (10 - k)
    rw [show k + (10 - k) = 10 by omega] at t
    rw [t, pu_pop_count (l := pu_al C n n) (f := pu_tn P (pu_al P n n)) (fun b _ => by
      rw [a b]
      constructor
      · rintro ⟨q, q1, q2⟩; exact ⟨q, q1, by rw [← pu_tn_both hP hD]; exact q2⟩
      · rintro ⟨q, q1, q2⟩; exact ⟨q, q1, by rw [pu_tn_both hP hD]; exact q2⟩) k (by omega), List.take_of_length_le (by omega)]
  have e2 : pu_pop 10 (pu_fam P n).2 = (pu_al P n n).countP (fun q => !pu_tn P (pu_al P n n) (q.2, q.1)) := by
    have hf := pu_fam_2 (P := P) (n := n) (by omega)
    have t := pu_pop_top (m := (pu_fam P n).2) (j := k) (fun b hb => by
      cases w : (pu_fam P n).2.testBit b with
      | false => rfl
      | true =>
        have hb10 := pu_bit_lt (n := 10) hf w
        obtain ⟨q, q1, -⟩ := (pu_fam2 hP (by omega)).mp w
        have := (List.getElem?_eq_some_iff.mp q1).1
        omega) (10 - k)
    rw [show k + (10 - k) = 10 by omega] at t
    rw [t, pu_pop_count (l := pu_al P n n) (f := fun q => !pu_tn P (pu_al P n n) (q.2, q.1)) (fun b hb => by
      rw [pu_fam2 hP (by omega)]
      constructor
      · rintro ⟨q, q1, q2⟩; exact ⟨q, q1, by rw [q2]; rfl⟩
      · rintro ⟨q, q1, q2⟩; exact ⟨q, q1, by cases w : pu_tn P (pu_al P n n) (q.2, q.1) with | false => rfl | true => rw [w] at q2; cases q2⟩) k (by omega), List.take_of_length_le (by omega)]
  have e3 : (pu_al C n n).countP (pu_tn P (pu_al P n n)) = (pu_al P n n).countP (fun q => pu_tn P (pu_al P n n) (q.2, q.1)) := by
    rw [← (pu_al_perm hP hD).countP_eq, List.countP_map]
    rfl
  have e4 := List.length_eq_countP_add_countP (fun q : Nat × Nat => pu_tn P (pu_al P n n) (q.2, q.1)) (l := pu_al P n n)
  rw [e1, e2, e3, ← h2, e4]
  congr 2
  funext q
  cases pu_tn P (pu_al P n n) (q.2, q.1) <;> rfl
theorem pu_it_eq {L : List (Nat × Nat)} {tu p c : Nat} {v : Bool} (hv : ∀ x, L[x]? = some (p, c) → tu.testBit x = v) : ∀ (k i : Nat), (∃ x, i ≤ x ∧ x < i + k ∧ L[x]? = some (p, c)) → pu_it L tu p c k i = v
  | 0, i, ⟨x, h1, h2, _⟩ => by omega
  | k + 1, i, ⟨x, h1, h2, h3⟩ => by
    unfold pu_it
    by_cases e : L[i]? = some (p, c)
    · rw [if_pos e]; exact hv i e
    · rw [if_neg e]
      refine pu_it_eq hv k (i + 1) ⟨x, ?_, by omega, h3⟩
      rcases (show i + 1 ≤ x ∨ x = i by omega) with w | rfl
      · exact w
      · exact absurd h3 e
theorem pu_so_eq {L : List (Nat × Nat)} {sm i j : Nat} {v : Bool} (hv : ∀ x, L[x]? = some (j, i) → sm.testBit x = v) : ∀ k, pu_so L sm i j k = if (∃ x, x < k ∧ L[x]? = some (j, i)) then pu_b v else 0 := by
  have h0 : ∀ b : Bool, (0 : Int32) ||| pu_b b = pu_b b := by intro b; cases b <;> decide
  have h1 : ∀ b : Bool, pu_b b ||| 0 = pu_b b := by intro b; cases b <;> decide
  have h2 : ∀ b : Bool, pu_b b ||| pu_b b = pu_b b := by intro b; cases b <;> decide
  intro k
  induction k with
  | zero => rw [if_neg (fun ⟨x, hx, _⟩ => absurd hx (Nat.not_lt_zero _))]; rfl
  | succ k ih =>
    unfold pu_so
    rw [ih]
    by_cases e : L[k]? = some (j, i)
    · have hex : ∃ x, x < k + 1 ∧ L[x]? = some (j, i) := ⟨k, Nat.lt_succ_self _, e⟩
      rw [if_pos e, hv k e, if_pos hex]
      by_cases w : ∃ x, x < k ∧ L[x]? = some (j, i)
      · rw [if_pos w, h2]
      · rw [if_neg w, h0]
    · rw [if_neg e]
      by_cases w : ∃ x, x < k ∧ L[x]? = some (j, i)
      · rw [if_pos w, if_pos (by obtain ⟨x, a, b⟩ := w; exact ⟨x, by omega, b⟩), h1]
      · rw [if_neg w, if_neg (fun ⟨x, a, b⟩ => w ⟨x, by
          rcases (show x < k ∨ x = k by omega) with u | rfl
          · exact u
          · exact absurd b e, b⟩)]
        decide
theorem pu_settled_eq (hP : GG n P) (hD : DU P C) {i j : Nat} (hl : (pu_al P n n).length ≤ 10) (h : (C i).testBit j = true) : pu_b (!pu_it (pu_al C n n) (pu_kin P C n).2.2 i j (pu_al C n n).length 0) = pu_so (pu_al P n n) (pu_fam P n).2 i j (pu_al P n n).length := by
  have hE : EA P i j := by rw [hD i j] at h; exact h
  have a := (pu_kin_spec hP hD).2
  obtain ⟨x, hx, ex⟩ := List.getElem_of_mem ((pu_al_ea hP hD (i, j)).mpr hE)
  obtain ⟨y, hy, ey⟩ := List.getElem_of_mem ((pu_al_ea' hP (j, i)).mpr hE)
  have t1 := pu_it_eq (L := pu_al C n n) (tu := (pu_kin P C n).2.2) (p := i) (c := j) (v := pu_tn P (pu_al P n n) (i, j)) (fun b hb => by
    cases w : pu_tn P (pu_al P n n) (i, j) with
    | true => exact (a b).mpr ⟨_, hb, by rw [pu_tn_both hP hD]; exact w⟩
    | false =>
      cases u : (pu_kin P C n).2.2.testBit b with
      | false => rfl
      | true =>
        obtain ⟨q, q1, q2⟩ := (a b).mp u
        rw [hb] at q1
        injection q1 with q1
        rw [← q1, pu_tn_both hP hD, w] at q2
        cases q2) (pu_al C n n).length 0 ⟨x, Nat.zero_le _, by omega, by rw [List.getElem?_eq_getElem hx, ex]⟩
  have t2 := pu_so_eq (L := pu_al P n n) (sm := (pu_fam P n).2) (i := i) (j := j) (v := !pu_tn P (pu_al P n n) (i, j)) (fun b hb => by
    have hb10 : b < 32 := by have := (List.getElem?_eq_some_iff.mp hb).1; omega
    cases w : pu_tn P (pu_al P n n) (i, j) with
    | false => exact (pu_fam2 hP hb10).mpr ⟨_, hb, w⟩
    | true =>
      cases u : (pu_fam P n).2.testBit b with
      | false => rfl
      | true =>
        obtain ⟨q, q1, q2⟩ := (pu_fam2 hP hb10).mp u
        rw [hb] at q1
        injection q1 with q1
        rw [← q1] at q2
        rw [show ((j, i).2, (j, i).1) = (i, j) from rfl, w] at q2
        cases q2) (pu_al P n n).length
  rw [t1, t2, if_pos ⟨y, hy, by rw [List.getElem?_eq_getElem hy, ey]⟩]
end Both
