/-! WEIGHTS -/
theorem pu_rv_n {par v n : Nat} (h : par < 2 ^ n) : ∀ k, pu_rv par v (n + k) = pu_rv par v n
  | 0 => rfl
  | k + 1 => by
    show pu_rv par v (n + k + 1) = _
    rw [pu_rv_s, Nat.testBit_lt_two_pow (Nat.lt_of_lt_of_le h (Nat.pow_le_pow_right (by decide) (Nat.le_add_right n k)))]
    exact pu_rv_n h k
theorem pu_rv_8 {par v n : Nat} (hn : n ≤ 8) (h : par < 2 ^ n) : pu_rv par v 8 = pu_rv par v n := by
  have := pu_rv_n (v := v) h (8 - n)
  rw [show n + (8 - n) = 8 by omega] at this
  exact this
theorem pu_yp_0 {n : Nat} {P : Nat → Nat} {H : Nat → Int32} {O : Nat → Nat} {v p : Nat} (h : pu_yf n P H O v p = 0) : ∀ k, pu_yp n P H O v (p + 1 + k) = 0
  | 0 => by show pu_yp n P H O v p * pu_yf n P H O v p = 0; rw [h, Nat.mul_zero]
  | k + 1 => by show pu_yp n P H O v (p + 1 + k) * _ = 0; rw [pu_yp_0 h k, Nat.zero_mul]
theorem pu_wt_yw {n : Nat} {P : Nat → Nat} {E : Nat → Nat → Nat} {hd hv : Nat} {H : Nat → Int32} {O : Nat → Nat} (hP : GG n P) (hd2 : hd < 2 ^ n) (hH : ∀ i, i < 8 → H i = pu_ha hd hv i) (hO : ∀ i j, i < n → j < 128 → O (128 * i + j) = E i j) (v : Nat) : pu_wt P E n hd hv v = pu_yw n P H O v := by
  have hn := hP.1
  unfold pu_wt pu_yw
  by_cases e : (v ^^^ hv) &&& hd = 0
  · rw [if_pos e]
    have key : ∀ p, p ≤ n → pu_pd P E hd v p = pu_yp n P H O v p := by
      intro p
      induction p with
      | zero => intro _; rfl
      | succ p ih =>
        intro hp
        show pu_pd P E hd v p * _ = pu_yp n P H O v p * pu_yf n P H O v p
        rw [ih (by omega)]
        congr 1
        unfold pu_yf
        rw [hH p (by omega)]
        cases eh : hd.testBit p with
        | true =>
          have hb : v.testBit p = hv.testBit p := by
            have : ((v ^^^ hv) &&& hd).testBit p = false := by rw [e, Nat.zero_testBit]
            rw [Nat.testBit_and, Nat.testBit_xor, eh, Bool.and_true] at this
            cases h1 : v.testBit p <;> cases h2 : hv.testBit p <;> simp_all
          rw [if_pos rfl, if_neg (fun q => by rw [pu_ha_m1.mp q] at eh; cases eh), if_pos (by unfold pu_ha; rw [eh, hb]; rfl)]
        | false =>
          rw [if_neg (by decide), if_pos (pu_ha_m1.mpr eh)]
          unfold pu_fac
          have hr : pu_rv (P p) v n < 128 := by
            have q1 := pu_rv_lt (par := P p) (v := v) n
            have q2 := pu_pop_to8 (m := P p) hn
            have q3 := hP.pop (i := p) (by omega)
            have q4 : 2 ^ pu_pop n (P p) ≤ 2 ^ 7 := Nat.pow_le_pow_right (by decide) (by omega)
            omega
          rw [pu_rv_8 hn (hP.2.1 p), hO p _ (by omega) hr]
    exact key n (Nat.le_refl n)
  · rw [if_neg e]
    obtain ⟨p, hp⟩ := Nat.exists_testBit_of_ne_zero e
    rw [Nat.testBit_and, Bool.and_eq_true] at hp
    have hpn := pu_bit_lt hd2 hp.2
    have hz : pu_yf n P H O v p = 0 := by
      unfold pu_yf
      rw [hH p (by omega), if_neg (fun q => by rw [pu_ha_m1.mp q] at hp; cases hp.2), if_neg]
      intro q
      unfold pu_ha at q
      rw [hp.2, if_pos rfl] at q
      have h1 := hp.1
      rw [Nat.testBit_xor] at h1
      cases h2 : v.testBit p <;> cases h3 : hv.testBit p <;> rw [h2, h3] at q h1 <;> first | (exact absurd q (by decide)) | (exact absurd h1 (by decide))
    have := pu_yp_0 hz (n - (p + 1))
    rw [show p + 1 + (n - (p + 1)) = n by omega] at this
    exact this.symm
/-! held ones -/
theorem pu_hn_pop {hd hv : Nat} {H : Nat → Int32} (hH : ∀ i, i < 8 → H i = pu_ha hd hv i) : ∀ n, n ≤ 8 → pu_hn H n = pu_pop n hd
  | 0, _ => rfl
  | n + 1, h => by
    show pu_hn H n + _ = _
    rw [pu_pop_s, pu_hn_pop hH n (by omega), hH n (by omega)]
    cases e : hd.testBit n with
    | false => rw [if_pos (pu_ha_m1.mpr e)]; rfl
    | true => rw [if_neg (fun q => by rw [pu_ha_m1.mp q] at e; cases e)]; rfl
theorem pu_pop_n8 {m n : Nat} (h : m < 2 ^ n) : ∀ k, pu_pop (n + k) m = pu_pop n m
  | 0 => rfl
  | k + 1 => by
    show pu_pop (n + k + 1) m = _
    rw [pu_pop_s, Nat.testBit_lt_two_pow (Nat.lt_of_lt_of_le h (Nat.pow_le_pow_right (by decide) (Nat.le_add_right n k))), pu_pop_n8 h k]
    rfl
/-! FEWEST -/
def LSS (s0 s : Nat) : Prop := pu_pop 10 s0 < pu_pop 10 s ∨ (pu_pop 10 s0 = pu_pop 10 s ∧ s0 ≤ s)
def BEST (good : Nat → Prop) (s0 : Nat) : Prop := good s0 ∧ ∀ s, good s → LSS s0 s
theorem BEST.uq {g : Nat → Prop} {a b : Nat} (h1 : BEST g a) (h2 : BEST g b) : a = b := by
  have q1 := h1.2 b h2.1
  have q2 := h2.2 a h1.1
  unfold LSS at q1 q2
  omega
theorem BEST.congr {g g' : Nat → Prop} {a : Nat} (h : BEST g a) (e : ∀ s, g s ↔ g' s) : BEST g' a := ⟨(e a).mp h.1, fun s hs => h.2 s ((e s).mpr hs)⟩
theorem pu_fs_best {re : Nat → Nat} {ban tar : Nat} : ∀ N, N ≤ 256 → (((∀ s, s < N → ¬ (s &&& ban = 0 ∧ pu_dif (re s &&& tar) s = 0)) ∧ pu_fs re ban tar N = (-1, 9)) ∨ ∃ s0, pu_fs re ban tar N = (nI s0, pu_pop 8 s0) ∧ BEST (fun s => s < N ∧ s &&& ban = 0 ∧ pu_dif (re s &&& tar) s = 0) s0)
  | 0, _ => Or.inl ⟨fun s hs => absurd hs (Nat.not_lt_zero _), rfl⟩
  | N + 1, hN => by
    have ih := pu_fs_best (re := re) (ban := ban) (tar := tar) N (by omega)
    unfold pu_fs
    have p8 : pu_pop 8 N ≤ 8 := pu_pop_le 8 N
    have e8 : ∀ s, s < N + 1 → pu_pop 10 s = pu_pop 8 s := fun s hs => pu_pop8 (by omega)
    rcases ih with ⟨h1, h2⟩ | ⟨s0, h1, h2⟩
    · rw [h2]
      by_cases hg : N &&& ban = 0 ∧ pu_dif (re N &&& tar) N = 0
      · rw [if_pos ⟨hg.1, by show pu_pop 8 N < 9; omega, hg.2⟩]
        refine Or.inr ⟨N, rfl, ⟨Nat.lt_succ_self _, hg⟩, fun s hs => ?_⟩
        rcases (show s < N ∨ s = N by omega) with q | rfl
        · exact absurd hs.2 (h1 s q)
        · exact Or.inr ⟨rfl, Nat.le_refl _⟩
      · rw [if_neg (fun q => hg ⟨q.1, q.2.2⟩)]
        refine Or.inl ⟨fun s hs q => ?_, rfl⟩
        rcases (show s < N ∨ s = N by omega) with w | rfl
        · exact h1 s w q
        · exact hg q
    · rw [h1]
      have hs0 : s0 < N := h2.1.1
      by_cases hg : N &&& ban = 0 ∧ pu_dif (re N &&& tar) N = 0
      · by_cases hp : pu_pop 8 N < pu_pop 8 s0
        · rw [if_pos ⟨hg.1, hp, hg.2⟩]
          refine Or.inr ⟨N, rfl, ⟨Nat.lt_succ_self _, hg⟩, fun s hs => ?_⟩
          rcases (show s < N ∨ s = N by omega) with q | rfl
          · have := h2.2 s ⟨q, hs.2⟩
            unfold LSS at this ⊢
            rw [e8 s (by omega), e8 s0 (by omega)] at this
            rw [e8 s (by omega), e8 N (by omega)]
            omega
          · exact Or.inr ⟨rfl, Nat.le_refl _⟩
        · rw [if_neg (fun q => hp q.2.1)]
          refine Or.inr ⟨s0, rfl, ⟨by omega, h2.1.2⟩, fun s hs => ?_⟩
          rcases (show s < N ∨ s = N by omega) with q | rfl
          · exact h2.2 s ⟨q, hs.2⟩
          · unfold LSS
            rw [e8 s (by omega), e8 s0 (by omega)]
            omega
      · rw [if_neg (fun q => hg ⟨q.1, q.2.2⟩)]
        refine Or.inr ⟨s0, rfl, ⟨by omega, h2.1.2⟩, fun s hs => ?_⟩
        rcases (show s < N ∨ s = N by omega) with q | rfl
        · exact h2.2 s ⟨q, hs.2⟩
        · exact absurd hs.2 hg
theorem pu_bk_best {ok : Nat → Bool} {oth N : Nat} : ∀ (k best : Nat), k ≤ N → (best < N ∧ pu_dif best oth = 0 ∧ ok best = true) → (∀ s, k ≤ s → s < N ∧ pu_dif s oth = 0 ∧ ok s = true → LSS best s) → BEST (fun s => s < N ∧ pu_dif s oth = 0 ∧ ok s = true) (pu_bk ok oth k best)
  | 0, best, _, h1, h2 => ⟨h1, fun s hs => h2 s (Nat.zero_le _) hs⟩
  | k + 1, best, hk, h1, h2 => by
    unfold pu_bk
    by_cases hg : pu_dif k oth = 0 ∧ pu_pop 10 k ≤ pu_pop 10 best ∧ ok k = true
    · rw [if_pos hg]
      refine pu_bk_best k k (by omega) ⟨by omega, hg.1, hg.2.2⟩ (fun s hs hgs => ?_)
      rcases (show s = k ∨ k + 1 ≤ s by omega) with rfl | q
      · exact Or.inr ⟨rfl, Nat.le_refl _⟩
      · have := h2 s q hgs
        unfold LSS at this ⊢
        have := hg.2.1
        omega
    · rw [if_neg hg]
      refine pu_bk_best k best (by omega) h1 (fun s hs hgs => ?_)
      rcases (show s = k ∨ k + 1 ≤ s by omega) with rfl | q
      · have : ¬ pu_pop 10 s ≤ pu_pop 10 best := fun w => hg ⟨hgs.2.1, w, hgs.2.2⟩
        exact Or.inl (by omega)
      · exact h2 s q hgs
theorem pu_lk_best {ok : Nat → Bool} {oth N : Nat} : ∀ (k : Nat) (best : Option Nat), k ≤ N → (match best with | none => ∀ s, k ≤ s → ¬ (s < N ∧ pu_dif s oth = 0 ∧ ok s = true) | some b => (b < N ∧ pu_dif b oth = 0 ∧ ok b = true) ∧ ∀ s, k ≤ s → s < N ∧ pu_dif s oth = 0 ∧ ok s = true → LSS b s) → (match pu_lk ok oth k best with | none => ∀ s, ¬ (s < N ∧ pu_dif s oth = 0 ∧ ok s = true) | some b => BEST (fun s => s < N ∧ pu_dif s oth = 0 ∧ ok s = true) b)
  | 0, none, _, h => fun s => h s (Nat.zero_le _)
  | 0, some b, _, h => ⟨h.1, fun s hs => h.2 s (Nat.zero_le _) hs⟩
  | k + 1, best, hk, h => by
    unfold pu_lk
    by_cases hg : pu_dif k oth = 0 ∧ pu_ol best k ∧ ok k = true
    · rw [if_pos hg]
      refine pu_lk_best k (some k) (by omega) ⟨⟨by omega, hg.1, hg.2.2⟩, fun s hs hgs => ?_⟩
      rcases (show s = k ∨ k + 1 ≤ s by omega) with rfl | q
      · exact Or.inr ⟨rfl, Nat.le_refl _⟩
      · cases best with
        | none => exact absurd hgs (h s q)
        | some b =>
          have := h.2 s q hgs
          have hl : pu_pop 10 k ≤ pu_pop 10 b := hg.2.1
          unfold LSS at this ⊢
          omega
    · rw [if_neg hg]
      refine pu_lk_best k best (by omega) ?_
      cases best with
      | none =>
        intro s hs hgs
        rcases (show s = k ∨ k + 1 ≤ s by omega) with rfl | q
        · exact hg ⟨hgs.2.1, trivial, hgs.2.2⟩
        · exact h s q hgs
      | some b =>
        refine ⟨h.1, fun s hs hgs => ?_⟩
        rcases (show s = k ∨ k + 1 ≤ s by omega) with rfl | q
        · have : ¬ pu_pop 10 s ≤ pu_pop 10 b := fun w => hg ⟨hgs.2.1, w, hgs.2.2⟩
          exact Or.inl (by omega)
        · exact h.2 s q hgs
theorem pu_dz {a b : Nat} (ha : a < 256) : pu_dif a b = 0 ↔ ∀ i, a.testBit i = true → b.testBit i = true := by
  constructor
  · intro h i hi
    have hi8 := pu_bit_lt (n := 8) ha hi
    have : (pu_dif a b).testBit i = false := by rw [h, Nat.zero_testBit]
    rw [pu_dif_bit (by omega), hi] at this
    cases e : b.testBit i <;> simp_all
  · intro h
    apply Nat.eq_of_testBit_eq
    intro i
    rw [Nat.zero_testBit]
    by_cases hi : i < 32
    · rw [pu_dif_bit hi]
      cases e : a.testBit i with
      | false => rfl
      | true => rw [h i e]; rfl
    · exact Nat.testBit_lt_two_pow (Nat.lt_of_lt_of_le (Nat.lt_of_le_of_lt (pu_dif_le _ _) ha) (Nat.le_trans (show 256 ≤ 2 ^ 8 by decide) (Nat.pow_le_pow_right (by decide) (by omega))))
theorem pu_az {s m : Nat} : s &&& m = 0 ↔ ∀ i, s.testBit i = true → m.testBit i = false := by
  constructor
  · intro h i hi
    have : (s &&& m).testBit i = false := by rw [h, Nat.zero_testBit]
    rw [Nat.testBit_and, hi, Bool.true_and] at this
    exact this
  · intro h
    apply Nat.eq_of_testBit_eq
    intro i
    rw [Nat.zero_testBit, Nat.testBit_and]
    cases e : s.testBit i with
    | false => rfl
    | true => rw [h i e]; rfl
section Few
variable {n : Nat} {P C : Nat → Nat} {hd hv : Nat} {H : Nat → Int32}
theorem pu_rc_sp (hP : GG n P) (hD : DU P C) (hH : ∀ i, i < 8 → H i = pu_ha hd hv i) {i q s : Nat} (hi : i < n) (hq : q < n) (hiq : i ≠ q) (hs : s < 2 ^ n) (h1 : s.testBit i = false) (h2 : s.testBit q = false) : (pu_rc P C hd i s).testBit q = false ↔ pu_sp (pu_yc n P H) n i q s = true := by
  have hn := hP.1
  unfold pu_rc
  rw [← pu_gi_yc hP hH]
  exact pu_re_sp hn (pu_gi_ltn hP hd 0) (fun p => pu_lt8 hn ((pu_gio_du hP hD).lt (n := n) ⟨hn, pu_gi_ltn hP hd 0, fun p hp => by unfold pu_gi; rw [hP.2.2.1 p hp]; cases hd.testBit p <;> simp [pu_dif_0], by obtain ⟨τ, ht⟩ := hP.tau; exact ⟨τ, fun u v _ e => by unfold pu_gi at e; cases eh : hd.testBit v with | true => rw [eh, if_pos rfl, Nat.zero_testBit] at e; cases e | false => rw [eh, if_neg (by decide)] at e; exact ht u v (by have hu := pu_bit_lt (n := 8) (pu_dif_lt (pu_lt8 hn (hP.2.1 v))) e; rw [pu_dif_bit (by omega)] at e; simp at e; exact e)⟩⟩ p)) (pu_gio_du hP hD) hs hi hq hiq h1 h2
/-- the masks of sets that may separate -/
theorem pu_ob1 {n i : Nat} (q : Nat) (hq : q < 32) : (pu_dif (2 ^ n - 1) (2 ^ i)).testBit q = true ↔ q < n ∧ ¬ q = i := by
  rw [pu_dif_bit hq, Nat.testBit_two_pow_sub_one, Nat.testBit_two_pow]
  simp
  intro _
  exact ⟨fun w e => w e.symm, fun w e => w e.symm⟩
theorem pu_sub_le {s m : Nat} (hs : s < 256) (h : pu_dif s m = 0) : s ≤ m := SU.le (fun q hq => (pu_dz hs).mp h q hq)
theorem pu_nb {s m : Nat} {i : Nat} (h : s &&& m = 0) (hm : m.testBit i = true) : s.testBit i = false := by
  cases e : s.testBit i with
  | false => rfl
  | true => have := pu_az.mp h i e; rw [hm] at this; cases this
/-- subsets of a mask, two ways -/
theorem pu_cand {n s ban oth : Nat} (hn : n ≤ 8) (ho : oth < 2 ^ n) (hb : ∀ q, q < n → (oth.testBit q = true ↔ ban.testBit q = false)) : (s < oth + 1 ∧ pu_dif s oth = 0) ↔ (s < 2 ^ n ∧ s &&& ban = 0) := by
  have hp2 := pu_p2e hn
  constructor
  · rintro ⟨h1, h2⟩
    have hs : s < 256 := by omega
    refine ⟨by omega, pu_az.mpr (fun q hq => ?_)⟩
    have := (pu_dz hs).mp h2 q hq
    exact (hb q (pu_bit_lt ho this)).mp this
  · rintro ⟨h1, h2⟩
    have hs : s < 256 := by omega
    have hz : pu_dif s oth = 0 := (pu_dz hs).mpr (fun q hq => (hb q (pu_bit_lt h1 hq)).mpr (pu_az.mp h2 q hq))
    exact ⟨by have := pu_sub_le hs hz; omega, hz⟩
theorem pu_blanket_eq (hP : GG n P) (hD : DU P C) (hH : ∀ i, i < 8 → H i = pu_ha hd hv i) {i : Nat} (hi : i < n) : (pu_fs (pu_rc P C hd i) (2 ^ i) (pu_dif (2 ^ n - 1) (2 ^ i)) (2 ^ n)).1 = nI (pu_bk (pu_okb (pu_yc n P H) n i) (pu_dif (2 ^ n - 1) (2 ^ i)) (pu_dif (2 ^ n - 1) (2 ^ i) + 1) (pu_dif (2 ^ n - 1) (2 ^ i))) := by
  have hn := hP.1
  have hp2 := pu_p2e hn
  have hp1 := pu_p1 n
  have ob : ∀ q, q < 32 → ((pu_dif (2 ^ n - 1) (2 ^ i)).testBit q = true ↔ q < n ∧ ¬ q = i) := fun q hq => pu_ob1 q hq
  have hoth : pu_dif (2 ^ n - 1) (2 ^ i) < 2 ^ n := pu_dif_ltn (by omega)
  have hii : (2 ^ i).testBit i = true := by rw [Nat.testBit_two_pow]; simp
  have cand : ∀ s, (s < pu_dif (2 ^ n - 1) (2 ^ i) + 1 ∧ pu_dif s (pu_dif (2 ^ n - 1) (2 ^ i)) = 0) ↔ (s < 2 ^ n ∧ s &&& 2 ^ i = 0) := fun s => pu_cand hn hoth (fun q hq => by
    rw [ob q (by omega), Nat.testBit_two_pow]
    simp
    exact ⟨fun w e => w.2 e.symm, fun w => ⟨hq, fun e => w e.symm⟩⟩)
  have rel : ∀ s, (s < pu_dif (2 ^ n - 1) (2 ^ i) + 1 ∧ pu_dif s (pu_dif (2 ^ n - 1) (2 ^ i)) = 0 ∧ pu_okb (pu_yc n P H) n i s = true) ↔ (s < 2 ^ n ∧ s &&& 2 ^ i = 0 ∧ pu_dif (pu_rc P C hd i s &&& pu_dif (2 ^ n - 1) (2 ^ i)) s = 0) := by
    intro s
    have hr256 : pu_rc P C hd i s &&& pu_dif (2 ^ n - 1) (2 ^ i) < 256 := Nat.lt_of_le_of_lt Nat.and_le_right (by omega)
    constructor
    · rintro ⟨h0, h1, h2⟩
      obtain ⟨q1, q2⟩ := (cand s).mp ⟨h0, h1⟩
      refine ⟨q1, q2, (pu_dz hr256).mpr (fun q hq => ?_)⟩
      rw [Nat.testBit_and, Bool.and_eq_true] at hq
      have hq32 : q < 32 := by have := pu_bit_lt hoth hq.2; omega
      have hqo := (ob q hq32).mp hq.2
      have hsi : s.testBit i = false := pu_nb q2 hii
      cases e : s.testBit q with
      | true => rfl
      | false =>
        have := pu_every_iff.mp h2 q hqo.1
        simp only [e, Bool.or_false] at this
        rw [show (q == i) = false from beq_eq_false_iff_ne.mpr hqo.2, Bool.false_or] at this
        rw [(pu_rc_sp hP hD hH hi hqo.1 (fun w => hqo.2 w.symm) q1 hsi e).mpr this] at hq
        cases hq.1
    · rintro ⟨q1, q2, h3⟩
      obtain ⟨h0, h1⟩ := (cand s).mpr ⟨q1, q2⟩
      refine ⟨h0, h1, pu_every_iff.mpr (fun q hq => ?_)⟩
      have hsi : s.testBit i = false := pu_nb q2 hii
      by_cases e1 : q = i
      · simp [e1]
      · cases e : s.testBit q with
        | true => simp
        | false =>
          have : pu_sp (pu_yc n P H) n i q s = true := (pu_rc_sp hP hD hH hi hq (fun w => e1 w.symm) q1 hsi e).mp (by
            cases w : (pu_rc P C hd i s).testBit q with
            | false => rfl
            | true =>
              have := (pu_dz hr256).mp h3 q (by rw [Nat.testBit_and, w, (ob q (by omega)).mpr ⟨hq, e1⟩]; rfl)
              rw [e] at this
              cases this)
          rw [this]; simp
  have g0 : (pu_dif (2 ^ n - 1) (2 ^ i) < pu_dif (2 ^ n - 1) (2 ^ i) + 1 ∧ pu_dif (pu_dif (2 ^ n - 1) (2 ^ i)) (pu_dif (2 ^ n - 1) (2 ^ i)) = 0 ∧ pu_okb (pu_yc n P H) n i (pu_dif (2 ^ n - 1) (2 ^ i)) = true) := ⟨Nat.lt_succ_self _, (pu_dz (by omega)).mpr (fun _ h => h), pu_every_iff.mpr (fun q hq => by
    by_cases e1 : q = i
    · simp [e1]
    · rw [(ob q (by omega)).mpr ⟨hq, e1⟩]; simp)⟩
  have hbk := pu_bk_best (ok := pu_okb (pu_yc n P H) n i) (oth := pu_dif (2 ^ n - 1) (2 ^ i)) (N := pu_dif (2 ^ n - 1) (2 ^ i) + 1) (pu_dif (2 ^ n - 1) (2 ^ i) + 1) (pu_dif (2 ^ n - 1) (2 ^ i)) (Nat.le_refl _) g0 (fun s hs hg => by omega)
  rcases pu_fs_best (re := pu_rc P C hd i) (ban := 2 ^ i) (tar := pu_dif (2 ^ n - 1) (2 ^ i)) (2 ^ n) hp2 with ⟨h1, h2⟩ | ⟨s0, h1, h2⟩
  · have := (rel _).mp g0
    exact absurd this.2 (h1 _ this.1)
  · rw [h1, BEST.uq (h2.congr (fun s => (rel s).symm)) hbk]
theorem pu_least_eq (hP : GG n P) (hD : DU P C) (hH : ∀ i, i < 8 → H i = pu_ha hd hv i) {i j : Nat} (hi : i < n) (hj : j < n) (hij : i ≠ j) : (pu_fs (pu_rc P C hd i) (2 ^ i ||| 2 ^ j) (2 ^ j) (2 ^ n)).1 = pu_oi (pu_lk (fun s => pu_sp (pu_yc n P H) n i j s) (pu_dif (pu_dif (2 ^ n - 1) (2 ^ i)) (2 ^ j)) (pu_dif (pu_dif (2 ^ n - 1) (2 ^ i)) (2 ^ j) + 1) none) := by
  have hn := hP.1
  have hp2 := pu_p2e hn
  have hp1 := pu_p1 n
  generalize ho : pu_dif (pu_dif (2 ^ n - 1) (2 ^ i)) (2 ^ j) = oth
  have hoth : oth < 2 ^ n := by rw [← ho]; exact pu_dif_ltn (pu_dif_ltn (by omega))
  have hb : ∀ q, q < n → (oth.testBit q = true ↔ (2 ^ i ||| 2 ^ j).testBit q = false) := by
    intro q hq
    rw [← ho, pu_dif_bit (by omega), Bool.and_eq_true, pu_ob1 q (by omega), Nat.testBit_or, Nat.testBit_two_pow, Nat.testBit_two_pow]
    simp
    intro _
    exact ⟨fun w e => w.2 e.symm, fun w => ⟨hq, fun e => w e.symm⟩⟩
  have rel : ∀ s, (s < oth + 1 ∧ pu_dif s oth = 0 ∧ pu_sp (pu_yc n P H) n i j s = true) ↔ (s < 2 ^ n ∧ s &&& (2 ^ i ||| 2 ^ j) = 0 ∧ pu_dif (pu_rc P C hd i s &&& 2 ^ j) s = 0) := by
    intro s
    have hr256 : pu_rc P C hd i s &&& 2 ^ j < 256 := Nat.lt_of_le_of_lt Nat.and_le_right (pu_p2 (by omega))
    have key : s < 2 ^ n → s &&& (2 ^ i ||| 2 ^ j) = 0 → (pu_sp (pu_yc n P H) n i j s = true ↔ pu_dif (pu_rc P C hd i s &&& 2 ^ j) s = 0) := by
      intro q1 q2
      have hsi : s.testBit i = false := pu_nb q2 (by rw [Nat.testBit_or, Nat.testBit_two_pow]; simp)
      have hsj : s.testBit j = false := pu_nb q2 (by rw [Nat.testBit_or, Nat.testBit_two_pow, Nat.testBit_two_pow]; simp)
      rw [← pu_rc_sp hP hD hH hi hj hij q1 hsi hsj, pu_dz hr256]
      constructor
      · intro h q hq
        rw [Nat.testBit_and, Bool.and_eq_true, Nat.testBit_two_pow] at hq
        have : j = q := of_decide_eq_true hq.2
        rw [← this, h] at hq
        cases hq.1
      · intro h
        cases w : (pu_rc P C hd i s).testBit j with
        | false => rfl
        | true =>
          have := h j (by rw [Nat.testBit_and, w, Nat.testBit_two_pow]; simp)
          rw [hsj] at this
          cases this
    constructor
    · rintro ⟨h0, h1, h2⟩
      obtain ⟨q1, q2⟩ := (pu_cand hn hoth hb).mp ⟨h0, h1⟩
      exact ⟨q1, q2, (key q1 q2).mp h2⟩
    · rintro ⟨q1, q2, h3⟩
      obtain ⟨h0, h1⟩ := (pu_cand hn hoth hb).mpr ⟨q1, q2⟩
      exact ⟨h0, h1, (key q1 q2).mpr h3⟩
  have hlk := pu_lk_best (ok := fun s => pu_sp (pu_yc n P H) n i j s) (oth := oth) (N := oth + 1) (oth + 1) none (Nat.le_refl _) (fun s hs hg => by omega)
  rcases pu_fs_best (re := pu_rc P C hd i) (ban := 2 ^ i ||| 2 ^ j) (tar := 2 ^ j) (2 ^ n) hp2 with ⟨h1, h2⟩ | ⟨s0, h1, h2⟩
  · rw [h2]
    cases e : pu_lk (fun s => pu_sp (pu_yc n P H) n i j s) oth (oth + 1) none with
    | none => rfl
    | some b =>
      rw [e] at hlk
      have := (rel b).mp hlk.1
      exact absurd this.2 (h1 b this.1)
  · rw [h1]
    cases e : pu_lk (fun s => pu_sp (pu_yc n P H) n i j s) oth (oth + 1) none with
    | none =>
      rw [e] at hlk
      exact absurd ((rel s0).mpr h2.1) (hlk s0)
    | some b =>
      rw [e] at hlk
      rw [BEST.uq (h2.congr (fun s => (rel s).symm)) hlk]
      rfl
end Few
