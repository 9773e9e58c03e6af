/-! There is a shift by which the norm is without squares. -/
theorem nz_dec : ∀ n, n < 101 → 0 < n → ∃ m, m < 101 ∧ n * m = 1 + 101 * (n * m / 101) := by decide +kernel
theorem nz_n {K : Type} [Lean.Grind.CommRing K] (hK : fld K) (h101 : (101 : K) = 0) {n : Nat} (h0 : 0 < n) (hn : n < 101) : ¬ (OfNat.ofNat n : K) = 0 := fun e => by
  obtain ⟨m, -, h⟩ := nz_dec n hn h0
  have h1 : (OfNat.ofNat (n * m) : K) = OfNat.ofNat n * OfNat.ofNat m := nc_mul n m
  rw [h, nc_add, nc_mul, e] at h1
  have h2 : (OfNat.ofNat 101 : K) = 0 := h101
  have h3 : (OfNat.ofNat 1 : K) = 1 := rfl
  rw [h2, h3] at h1
  exact hK.1 (by grind)
theorem nz_inj {K : Type} [Lean.Grind.CommRing K] (hK : fld K) (h101 : (101 : K) = 0) {a b : Nat} (ha : a < 101) (hb : b < 101) (h : (OfNat.ofNat a : K) = OfNat.ofNat b) : a = b := by
  have key : ∀ a b : Nat, a < b → b < 101 → ¬ (OfNat.ofNat a : K) = OfNat.ofNat b := fun a b hab hb e => by
    have h1 : (OfNat.ofNat (a + (b - a)) : K) = OfNat.ofNat a + OfNat.ofNat (b - a) := nc_add a (b - a)
    rw [show a + (b - a) = b by omega, ← e] at h1
    exact nz_n hK h101 (n := b - a) (by omega) (by omega) (by grind)
  rcases Nat.lt_trichotomy a b with q | q | q
  · exact absurd h (key a b q hb)
  · exact q
  · exact absurd h.symm (key b a q ha)
def CO {R : Type} [Lean.Grind.CommRing R] (D : R → R) (a : R) : Prop := ∃ u v, u * a + v * D a = 1
theorem irr_in {K R : Type} [Lean.Grind.CommRing K] [Lean.Grind.CommRing R] {cf : R → Nat → K} {deg : R → Nat} {mon : R → Prop} {X : R} {Cc : K → R} {Kl : List R} {q : Nat} (hR : PR cf deg mon X Cc Kl q) {g : R} (g0 : ¬ g = 0) (hg : 0 < deg g) : ∃ p, irr deg mon p ∧ dv p g := by
  have hE := pr_eu hR
  obtain ⟨u, v, h1, h2, h3⟩ := hR.1.2.1 g g0
  obtain ⟨l, l1, l2⟩ := fac_ex hE hR.1.2.1 (deg (u * g)) (u * g) h3 (Nat.le_refl _)
  have u0 : ¬ u = 0 := fun e => hE.2.2.2.2.1.1 (by rw [← h1, e]; grind)
  have hd : deg (u * g) = deg g := by rw [hE.2.2.1 u g u0 g0]; omega
  match l, l1, l2 with
  | [], _, l2 =>
    rw [lp_nil] at l2
    rw [← l2, hE.2.2.2.2.1.2.2] at hd
    omega
  | p :: l, l1, l2 =>
    refine ⟨p, l1 p List.mem_cons_self, v * lp l, ?_⟩
    rw [lp_cons] at l2
    grind
theorem co_of {K R : Type} [Lean.Grind.CommRing K] [Lean.Grind.CommRing R] {cf : R → Nat → K} {deg : R → Nat} {mon : R → Prop} {X : R} {Cc : K → R} {Kl : List R} {q : Nat} (hR : PR cf deg mon X Cc Kl q) {D : R → R} {a : R} (a0 : ¬ a = 0) (h : ∀ p, irr deg mon p → dv p a → ¬ dv p (D a)) : CO D a := by
  have hE := pr_eu hR
  obtain ⟨g, u, v, h1, h2, h3⟩ := bez hE (deg (D a) + 1) a (D a) (Or.inr (by omega))
  have g0 : ¬ g = 0 := fun e => by
    obtain ⟨x, hx⟩ := h2
    exact a0 (by rw [hx, e]; grind)
  by_cases c : 0 < deg g
  · obtain ⟨p, p1, p2⟩ := irr_in hR g0 c
    exact absurd (dv_tr p2 h3) (h p p1 (dv_tr p2 h2))
  · obtain ⟨w, hw⟩ := hE.2.2.2.1 g (by omega) g0
    exact ⟨w * u, w * v, by grind⟩
theorem co_no {K R : Type} [Lean.Grind.CommRing K] [Lean.Grind.CommRing R] {cf : R → Nat → K} {deg : R → Nat} {mon : R → Prop} {X : R} {Cc : K → R} {Kl : List R} {q : Nat} (hR : PR cf deg mon X Cc Kl q) {D : R → R} {a p : R} (h : CO D a) (hp : 0 < deg p) (h1 : dv p a) (h2 : dv p (D a)) : False := by
  have hE := pr_eu hR
  obtain ⟨u, v, e⟩ := h
  have h3 : dv p 1 := by
    rw [← e]
    exact dv_add (dv_ml u h1) (dv_ml v h2)
  have := dv_deg hE hE.2.2.2.2.1.1 h3
  rw [hE.2.2.2.2.1.2.2] at this
  omega
theorem co_hm {K R : Type} [Lean.Grind.CommRing K] [Lean.Grind.CommRing R] {cf : R → Nat → K} {deg : R → Nat} {mon : R → Prop} {X : R} {Cc : K → R} {Kl : List R} {q : Nat} (hR : PR cf deg mon X Cc Kl q) {D : R → R} (hD : DR cf D) {σ : R → R} {c : K} (h : HM X Cc σ c) {a : R} (ha : CO D a) : CO D (σ a) := by
  obtain ⟨u, v, e⟩ := ha
  exact ⟨σ u, σ v, by rw [hm_D hR hD h, ← h.2.1, ← h.2.1, ← h.1, e, hm_1 hR h]⟩
theorem co_F {K R : Type} [Lean.Grind.CommRing K] [Lean.Grind.CommRing R] {cf : R → Nat → K} {deg : R → Nat} {mon : R → Prop} {X : R} {Cc : K → R} {Kl : List R} {q : Nat} (hR : PR cf deg mon X Cc Kl q) (h101 : (101 : K) = 0) {D F : R → R} (hD : DR cf D) (hM : MR cf F) {a : R} (ha : CO D a) : CO D (F a) := by
  obtain ⟨u, v, e⟩ := ha
  exact ⟨F u, F v, by rw [← pr_FD hR h101 hD hM, ← pr_Fm hR h101 hM, ← pr_Fm hR h101 hM, ← pr_Fa hR h101 hM, e, pr_F1 hR hM]⟩
theorem co_rt {K R : Type} [Lean.Grind.CommRing K] [Lean.Grind.CommRing R] {cf : R → Nat → K} {deg : R → Nat} {mon : R → Prop} {X : R} {Cc : K → R} {Kl : List R} {q : Nat} (hR : PR cf deg mon X Cc Kl q) (h101 : (101 : K) = 0) {D : R → R} (hD : DR cf D) {f r : R} (f0 : ¬ f = 0) (hs : sq (cf f) ≤ 6) (h : RT mon D f r) : CO D r ∧ mon r ∧ deg r ≤ 5 := by
  have hE := pr_eu hR
  obtain ⟨L, l1, l2, l3, l4⟩ := rt_list hE hR.1.2.1 (pr_lei hR hD) f0 h
  have df : deg f ≤ 5 := by have := pr_sq hR f0; omega
  have mr : mon r := by rw [← l3]; exact lp_monI hE l1
  have r0 : ¬ r = 0 := hE.2.2.2.2.2.2.1 r mr
  refine ⟨co_of hR r0 (fun p hp h1 h2 => ?_), mr, by omega⟩
  have dp := dv_deg hE r0 h1
  rw [← l3] at h1
  obtain ⟨p', hp', h3⟩ := lp_dv hE hp L h1
  have e := irr_eq hE hp (l1 p' hp') h3
  rw [← e] at hp'
  obtain ⟨s, t, es⟩ := List.append_of_mem hp'
  have hpm : L.Perm (p :: (s ++ t)) := by rw [es]; exact List.perm_middle
  have nd := hpm.nodup l2
  rw [List.nodup_cons] at nd
  have er : r = p * lp (s ++ t) := by rw [← l3, lp_perm hpm, lp_cons]
  have np : ¬ dv p (lp (s ++ t)) := fun q => by
    obtain ⟨z, hz, h4⟩ := lp_dv hE hp _ q
    have := irr_eq hE hp (l1 z (hpm.mem_iff.mpr (List.mem_cons_of_mem _ hz))) h4
    exact nd.1 (by rw [this]; exact hz)
  rw [er, pr_lei hR hD] at h2
  have h5 : dv p (D p * lp (s ++ t)) := by
    have := dv_sub h2 (dv_mr (D (lp (s ++ t))) (dv_rf p))
    rw [show D p * lp (s ++ t) + p * D (lp (s ++ t)) - p * D (lp (s ++ t)) = D p * lp (s ++ t) by grind] at this
    exact this
  have h6 := (irr_pr hE hp h5).resolve_right np
  obtain ⟨mp, sp⟩ := pr_mo hR hp.1
  have d1 := hp.2.1
  have c1 : cf (D p) (deg p - 1) = OfNat.ofNat (deg p) := by
    rw [hD]
    show OfNat.ofNat (deg p - 1 + 1) * cf p (deg p - 1 + 1) = _
    rw [show deg p - 1 + 1 = deg p by omega, mp.1]; grind
  have c2 : dl (cf (D p)) (deg p) := fun i hi => by
    rw [hD]
    show OfNat.ofNat (i + 1) * cf p (i + 1) = 0
    rw [mp.2 (i + 1) (by omega)]; grind
  have D0 : ¬ D p = 0 := fun q => nz_n (pr_fld hR) h101 (n := deg p) d1 (by omega) (by rw [← c1, q, pr_0 hR])
  have := dv_deg hE D0 h6
  have := pr_sq hR D0
  have := sq_le c2
  omega
theorem php {α β : Type} (Rl : α → β → Prop) : ∀ (l : List α) (m : List β), l.Nodup → (∀ a ∈ l, ∃ b ∈ m, Rl a b) → (∀ a a' b, a ∈ l → a' ∈ l → b ∈ m → Rl a b → Rl a' b → a = a') → l.length ≤ m.length := by
  intro l
  induction l with
  | nil => intro m _ _ _; exact Nat.zero_le _
  | cons a l ih =>
    intro m hn h1 h2
    rw [List.nodup_cons] at hn
    obtain ⟨b, hb, rb⟩ := h1 a List.mem_cons_self
    obtain ⟨s, t, e⟩ := List.append_of_mem hb
    have := ih (s ++ t) hn.2 (fun a' ha' => by
      obtain ⟨b', hb', rb'⟩ := h1 a' (List.mem_cons_of_mem _ ha')
      refine ⟨b', ?_, rb'⟩
      rw [e] at hb'
      rcases List.mem_append.mp hb' with q | q
      · exact List.mem_append.mpr (Or.inl q)
      · rcases List.mem_cons.mp q with q | q
        · rw [q] at rb'
          exact absurd (h2 a a' b List.mem_cons_self (List.mem_cons_of_mem _ ha') hb rb rb' ▸ ha') hn.1
        · exact List.mem_append.mpr (Or.inr q)) (fun x y z hx hy hz => h2 x y z (List.mem_cons_of_mem _ hx) (List.mem_cons_of_mem _ hy) (by
      rw [e]
      rcases List.mem_append.mp hz with q | q
      · exact List.mem_append.mpr (Or.inl q)
      · exact List.mem_append.mpr (Or.inr (List.mem_cons_of_mem _ q))))
    rw [e, List.length_append, List.length_cons] 
    rw [List.length_append] at this
    rw [List.length_cons]
    omega
/-- a prime that divides a product and its derivative divides two of the factors -/
theorem two_of2 {K R : Type} [Lean.Grind.CommRing K] [Lean.Grind.CommRing R] {cf : R → Nat → K} {deg : R → Nat} {mon : R → Prop} {X : R} {Cc : K → R} {Kl : List R} {q : Nat} (hR : PR cf deg mon X Cc Kl q) {D : R → R} (hD : DR cf D) {a b p : R} (hp : irr deg mon p) (ha : CO D a) (hb : CO D b) (h1 : dv p (a * b)) (h2 : dv p (D (a * b))) : dv p a ∧ dv p b := by
  have hE := pr_eu hR
  rw [pr_lei hR hD] at h2
  rcases irr_pr hE hp h1 with h | h
  · refine ⟨h, ?_⟩
    have h3 : dv p (D a * b) := by
      have := dv_sub h2 (dv_mr (D b) h)
      rw [show D a * b + a * D b - a * D b = D a * b by grind] at this
      exact this
    exact (irr_pr hE hp h3).resolve_left (fun q => co_no hR ha hp.2.1 h q)
  · refine ⟨?_, h⟩
    have h3 : dv p (a * D b) := by
      have := dv_sub h2 (dv_ml (D a) h)
      rw [show D a * b + a * D b - D a * b = a * D b by grind] at this
      exact this
    exact (irr_pr hE hp h3).resolve_right (fun q => co_no hR hb hp.2.1 h q)
theorem two_of3 {K R : Type} [Lean.Grind.CommRing K] [Lean.Grind.CommRing R] {cf : R → Nat → K} {deg : R → Nat} {mon : R → Prop} {X : R} {Cc : K → R} {Kl : List R} {q : Nat} (hR : PR cf deg mon X Cc Kl q) {D : R → R} (hD : DR cf D) {a b c p : R} (hp : irr deg mon p) (ha : CO D a) (hb : CO D b) (hc : CO D c) (h1 : dv p (a * b * c)) (h2 : dv p (D (a * b * c))) : (dv p a ∧ dv p b) ∨ (dv p a ∧ dv p c) ∨ (dv p b ∧ dv p c) := by
  have hE := pr_eu hR
  rw [pr_lei hR hD] at h2
  by_cases z : dv p c
  · have h3 : dv p (a * b * D c) := by
      have := dv_sub h2 (dv_ml (D (a * b)) z)
      rw [show D (a * b) * c + a * b * D c - D (a * b) * c = a * b * D c by grind] at this
      exact this
    have h4 := (irr_pr hE hp h3).resolve_right (fun q => co_no hR hc hp.2.1 z q)
    rcases irr_pr hE hp h4 with q | q
    · exact Or.inr (Or.inl ⟨q, z⟩)
    · exact Or.inr (Or.inr ⟨q, z⟩)
  · have h3 := (irr_pr hE hp h1).resolve_right z
    have h4 : dv p (D (a * b) * c) := by
      have := dv_sub h2 (dv_mr (D c) h3)
      rw [show D (a * b) * c + a * b * D c - a * b * D c = D (a * b) * c by grind] at this
      exact this
    exact Or.inl (two_of2 hR hD hp ha hb h3 ((irr_pr hE hp h4).resolve_right z))
theorem sub_fr {K : Type} [Lean.Grind.CommRing K] (h101 : (101 : K) = 0) (a : K) : (0 - a) ^ 101 = 0 - a ^ 101 := by
  have := frob h101 a (0 - a)
  rw [show a + (0 - a) = 0 by grind, z101] at this
  grind
theorem fr_inj {K : Type} [Lean.Grind.CommRing K] (hK : fld K) (h101 : (101 : K) = 0) {a b : K} (h : a ^ 101 = b ^ 101) : a = b := by
  have h1 : (a + (0 - b)) ^ 101 = 0 := by rw [frob h101, sub_fr h101, h]; grind
  have h2 : a + (0 - b) = 0 := Classical.byContradiction (fun q => p101 hK 101 q h1)
  grind
theorem pr_Cm {K R : Type} [Lean.Grind.CommRing K] [Lean.Grind.CommRing R] {cf : R → Nat → K} {deg : R → Nat} {mon : R → Prop} {X : R} {Cc : K → R} {Kl : List R} {q : Nat} (hR : PR cf deg mon X Cc Kl q) (a b : K) : Cc (a * b) = Cc a * Cc b := pr_ext hR (fun i => by
  rw [pr_scale hR, pr_C hR, pr_C hR]
  show (if i = 0 then a * b else 0) = a * (if i = 0 then b else 0)
  by_cases c : i = 0
  · rw [if_pos c, if_pos c]
  · rw [if_neg c, if_neg c]; grind)
theorem pr_Cp {K R : Type} [Lean.Grind.CommRing K] [Lean.Grind.CommRing R] {cf : R → Nat → K} {deg : R → Nat} {mon : R → Prop} {X : R} {Cc : K → R} {Kl : List R} {q : Nat} (hR : PR cf deg mon X Cc Kl q) (a : K) (n : Nat) : (Cc a) ^ n = Cc (a ^ n) := by
  induction n with
  | zero => rw [Lean.Grind.Semiring.pow_zero, Lean.Grind.Semiring.pow_zero, pr_Co hR]
  | succ n ih => rw [Lean.Grind.Semiring.pow_succ, ih, Lean.Grind.Semiring.pow_succ, pr_Cm hR]
theorem pr_dXp {K R : Type} [Lean.Grind.CommRing K] [Lean.Grind.CommRing R] {cf : R → Nat → K} {deg : R → Nat} {mon : R → Prop} {X : R} {Cc : K → R} {Kl : List R} {q : Nat} (hR : PR cf deg mon X Cc Kl q) (n : Nat) : ¬ X ^ n = 0 ∧ deg (X ^ n) = n := by
  have hE := pr_eu hR
  have hX : deg X = 1 ∧ ¬ X = 0 := by
    have h := (pr_ax hR).2.2.2.2.1 0 (pr_d0 hR)
    rw [show X - 0 = X by grind] at h
    exact ⟨h.2, hE.2.2.2.2.2.2.1 _ h.1⟩
  induction n with
  | zero => rw [Lean.Grind.Semiring.pow_zero]; exact ⟨hE.2.2.2.2.1.1, hE.2.2.2.2.1.2.2⟩
  | succ n ih =>
    rw [Lean.Grind.Semiring.pow_succ]
    refine ⟨fun q => ?_, by rw [hE.2.2.1 _ _ ih.1 hX.2]; omega⟩
    rcases hE.2.1 _ _ q with q | q
    · exact ih.1 q
    · exact hX.2 q
theorem T_ne {K R : Type} [Lean.Grind.CommRing K] [Lean.Grind.CommRing R] {cd : K → Int32} {E : Nat → Int32} {kk : Int32} {md : Nat → Int32} {mn : Int64} {q k : Nat} {T : K} (hL : FL cd E kk md mn q k T) {cf : R → Nat → K} {deg : R → Nat} {mon : R → Prop} {X : R} {Cc : K → R} {Kl : List R} (hR : PR cf deg mon X Cc Kl q) (hk : 2 ≤ k) : ¬ T ^ 101 = T := fun hT => by
  have hE := pr_eu hR
  obtain ⟨hC, hF, h101, hkk, _, hDc, _⟩ := hL
  have all : ∀ a : K, a ^ 101 = a := fun a => by
    obtain ⟨x, y, z, e, hx, hy, hz, _⟩ := hDc a
    rw [e, frob h101, frob h101, mul_pow', mul_pow', mul_pow', hx, hy, hz, hT]
  have hq : 101 < q := by
    rcases hF.2.2.1 with h | h | h
    · have : k = 2 ∨ k = 3 := by omega
      rcases this with e | e <;> rw [e] at hkk <;> omega
    · omega
    · omega
  have dX := pr_dXp hR 101
  have d1 := pr_dXp hR 1
  rw [show X ^ 1 = X by rw [Lean.Grind.Semiring.pow_succ, Lean.Grind.Semiring.pow_zero]; grind] at d1
  have hP := vanish (pr_ax hR) (P := X ^ 101 - X) (fun e he => by
    have h1 := pow_dv X e 101
    have h2 : e ^ 101 = e := by
      have := pr_cst hR he
      rw [this, pr_Cp hR, all]
    rw [h2] at h1
    have := dv_sub h1 (dv_rf (X - e))
    rw [show X ^ 101 - e - (X - e) = X ^ 101 - X by grind] at this
    exact this) (by
    have h1 := (pr_ax hR).2.2.2.2.2.2.2.2.2.2.2 (X ^ 101) (-X)
    rw [show X ^ 101 + -X = X ^ 101 - X by grind] at h1
    have h2 : deg (-X) = 1 := by
      have hm : ¬ (-1 : R) = 0 := fun q => hE.2.2.2.2.1.1 (by grind)
      have h3 : deg (-1 : R) = 0 := by
        have := hE.2.2.1 (-1 : R) (-1) hm hm
        rw [show (-1 : R) * -1 = 1 by grind, hE.2.2.2.2.1.2.2] at this
        omega
      rw [show -X = -1 * X by grind, hE.2.2.1 _ _ hm d1.1, h3, d1.2]
    rw [dX.2, h2] at h1
    have : max 101 1 = 101 := by decide
    omega)
  have e : X ^ 101 = X := by grind
  have := dX.2
  rw [e, d1.2] at this
  omega
