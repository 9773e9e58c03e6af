/-! How often a factor stands; the least number that all degrees go into; all that the class finds. -/
theorem PI_nf {P : Nat → Fin 20} (h : PI P) {i : Nat} (hi : i < 5) {x : Fin 20} (hx : x.val < 15) : ¬ P i = x := fun e => by
  have := h.1 i hi
  rw [e] at this
  omega
def MLT {R : Type} [Lean.Grind.CommRing R] (f p : R) (m : Nat) : Prop := ∃ g, f = p ^ m * g ∧ ¬ dv p g
theorem pow_ne {R : Type} [Lean.Grind.CommRing R] {deg : R → Nat} {mon : R → Prop} (hE : EU deg mon) {p : R} (hp : irr deg mon p) (n : Nat) : ¬ p ^ n = 0 := by
  induction n with
  | zero => rw [Lean.Grind.Semiring.pow_zero]; exact hE.2.2.2.2.1.1
  | succ n ih =>
    rw [Lean.Grind.Semiring.pow_succ]
    exact fun h => (hE.2.1 _ _ h).elim ih (hE.2.2.2.2.2.2.1 p hp.1)
theorem pow_deg {R : Type} [Lean.Grind.CommRing R] {deg : R → Nat} {mon : R → Prop} (hE : EU deg mon) {p : R} (hp : irr deg mon p) (n : Nat) : n ≤ deg (p ^ n) := by
  induction n with
  | zero => exact Nat.zero_le _
  | succ n ih =>
    rw [Lean.Grind.Semiring.pow_succ, hE.2.2.1 _ _ (pow_ne hE hp n) (hE.2.2.2.2.2.2.1 p hp.1)]
    have := hp.2.1
    omega
theorem mlt_lt {R : Type} [Lean.Grind.CommRing R] {deg : R → Nat} {mon : R → Prop} (hE : EU deg mon) {f p g g' : R} (hp : irr deg mon p) {m m' : Nat} (h : f = p ^ m * g) (h' : f = p ^ m' * g') (hn : ¬ dv p g) : ¬ m < m' := by
  intro c
  have e : p ^ m' = p ^ m * p ^ (m' - m) := by rw [← pow_add', show m + (m' - m) = m' by omega]
  have z : p ^ m * (g - p ^ (m' - m) * g') = 0 := by rw [e] at h'; grind
  rcases hE.2.1 _ _ z with q | q
  · exact pow_ne hE hp m q
  · refine hn ⟨p ^ (m' - m - 1) * g', ?_⟩
    have e2 : p ^ (m' - m) = p ^ (m' - m - 1) * p := by rw [← Lean.Grind.Semiring.pow_succ, show m' - m - 1 + 1 = m' - m by omega]
    rw [e2] at q
    grind
theorem mlt_uni {R : Type} [Lean.Grind.CommRing R] {deg : R → Nat} {mon : R → Prop} (hE : EU deg mon) {f p : R} (hp : irr deg mon p) {m m' : Nat} (h : MLT f p m) (h' : MLT f p m') : m = m' := by
  obtain ⟨g, h1, h2⟩ := h
  obtain ⟨g', k1, k2⟩ := h'
  have a := mlt_lt hE hp h1 k1 h2
  have b := mlt_lt hE hp k1 h1 k2
  omega
theorem P_cnt_i {K R : Type} [Lean.Grind.CommRing K] [Lean.Grind.CommRing R] {cd : K → Int32} {E : Nat → Int32} {kk : Int32} {md : Nat → Int32} (hC : CX cd E kk md) {cf : R → Nat → K} {deg : R → Nat} {mon : R → Prop} {X : R} {Cc : K → R} {Kl : List R} {q : Nat} (hR : PR cf deg mon X Cc Kl q) {P : Nat → Fin 20} (hP : PI P) {f p : R} (f0 : ¬ f = 0) (hf5 : deg f ≤ 5) (hp : irr deg mon p) {i : Nat} (hi : i < 5) (N : (Nat → Int32)) (x2 : Fin 20) (kc : Int32 → (Fin 20 → Nat → Int32) → (Nat → Int32) → Option ((Fin 20 → Nat → Int32) × (Nat → Int32))) (fu : Nat) (hfu : 18 ≤ fu) : ∀ (e j n : Nat) (M : (Fin 20 → Nat → Int32)) (C : (Nat → Int32)) (g : R), e + j = 5 → RW cd (M (P i)) (cf p) → RW cd (M 12) (cf g) → f = p ^ j * g → C i = nI j → e < n → ∃ y M' C' m, f_X3_countTimes_l37 kc fu E P N x2 (nI i) n (nI j) M C = kc y M' C' ∧ MLT f p m ∧ C' i = nI m ∧ (∀ t, ¬ t = i → C' t = C t) ∧ ∀ x : Fin 20, ¬ x = 2 → ¬ x = 12 → M' x = M x := by
  have hE := pr_eu hR
  intro e
  induction e with
  | zero =>
    intro j n M C g hj h1 h2 h3 h4 hn
    obtain ⟨n, rfl⟩ : ∃ n', n = n' + 1 := ⟨n - 1, by omega⟩
    obtain ⟨M1, qq, r, k1, k2, k3, k4, k5, k6⟩ := P_divR hC hR (a := 12) (b := P i) (PI_nf hP hi (by decide)) (by decide) (PI_nf hP hi (by decide)) h2 h1 hp.1 hfu
    have r0 : ¬ r = 0 := fun q => by
      have e6 : f = p ^ (j + 1) * qq := by rw [h3, k5, q, Lean.Grind.Semiring.pow_succ]; grind
      have := dv_deg hE f0 ⟨qq, e6⟩
      have := pow_deg hE hp (j + 1)
      omega
    have nd : ¬ dv p g := fun ⟨c, hc⟩ => r0 (pr_dun hR hp.1 (q1 := qq) (r1 := r) (q2 := c) (r2 := 0) (by rw [← k5, hc]; grind) k6 (by rw [(pr_sq0 hR 0).mpr rfl, (pr_mo hR hp.1).2]; omega)).2
    refine ⟨nI j, M1, C, j, ?_, ⟨g, h3, nd⟩, h4, fun _ _ => rfl, k2⟩
    rw [f_X3_countTimes_l37, if_neg (show ¬ (5 : Int32) < nI j from nI_nlt (a := 5) (by omega) (by decide)), P_part hi, Option.bind_some, k1, Option.bind_some, P_deg hC k4 (by omega), Option.bind_some, pr_sq hR r0, dI_s, if_neg (nI_pos (by have := sq_le k4.1; rw [pr_sq hR r0] at this; omega))]
  | succ e ih =>
    intro j n M C g hj h1 h2 h3 h4 hn
    obtain ⟨n, rfl⟩ : ∃ n', n = n' + 1 := ⟨n - 1, by omega⟩
    obtain ⟨M1, qq, r, k1, k2, k3, k4, k5, k6⟩ := P_divR hC hR (a := 12) (b := P i) (PI_nf hP hi (by decide)) (by decide) (PI_nf hP hi (by decide)) h2 h1 hp.1 hfu
    rw [f_X3_countTimes_l37, if_neg (show ¬ (5 : Int32) < nI j from nI_nlt (a := 5) (by omega) (by decide)), P_part hi, Option.bind_some, k1, Option.bind_some, P_deg hC k4 (by omega), Option.bind_some]
    by_cases r0 : r = 0
    · rw [(pr_sq0 hR r).mpr r0, if_pos dI_neg, if_neg (nI_in hi (by decide)), if_neg (nI_in hi (by decide)), nI_clamp (by omega)]
      obtain ⟨M2, l1, l2, l3⟩ := P_copy hC (M := M1) (r := 12) (b := 2) (by decide) k3 (show 17 ≤ fu by omega)
      rw [l1, Option.bind_some, h4, nI_1]
      have pne : ¬ P i = 12 := PI_nf hP hi (by decide)
      have pn2 : ¬ P i = 2 := PI_nf hP hi (by decide)
      obtain ⟨y, M', C', m, t1, t2, t3, t4, t5⟩ := ih (j + 1) n M2 (upd C i (nI (j + 1))) qq (by omega) (by rw [l2 _ pne, k2 _ pn2 pne]; exact h1) l3 (by rw [h3, k5, r0, Lean.Grind.Semiring.pow_succ]; grind) pk_us (by omega)
      exact ⟨y, M', C', m, t1, t2, t3, fun t ht => by rw [t4 t ht, pk_un ht], fun x hx hx2 => by rw [t5 x hx hx2, l2 x hx2, k2 x hx hx2]⟩
    · rw [pr_sq hR r0, dI_s, if_neg (nI_pos (by have := sq_le k4.1; rw [pr_sq hR r0] at this; omega))]
      have nd : ¬ dv p g := fun ⟨c, hc⟩ => r0 (pr_dun hR hp.1 (q1 := qq) (r1 := r) (q2 := c) (r2 := 0) (by rw [← k5, hc]; grind) k6 (by rw [(pr_sq0 hR 0).mpr rfl, (pr_mo hR hp.1).2]; omega)).2
      exact ⟨nI j, M1, C, j, rfl, ⟨g, h3, nd⟩, h4, fun _ _ => rfl, k2⟩
theorem P_cnt_o {K R : Type} [Lean.Grind.CommRing K] [Lean.Grind.CommRing R] {cd : K → Int32} {E : Nat → Int32} {kk : Int32} {md : Nat → Int32} (hC : CX cd E kk md) {cf : R → Nat → K} {deg : R → Nat} {mon : R → Prop} {X : R} {Cc : K → R} {Kl : List R} {q : Nat} (hR : PR cf deg mon X Cc Kl q) {P : Nat → Fin 20} (hP : PI P) {f : R} (f0 : ¬ f = 0) (hf5 : deg f ≤ 5) {ps : List R} (hp : ∀ p ∈ ps, irr deg mon p) {N : (Nat → Int32)} (hN : N 0 = nI ps.length) (kc : Int32 → (Fin 20 → Nat → Int32) → (Nat → Int32) → Option ((Fin 20 → Nat → Int32) × (Nat → Int32))) (fu : Nat) (hfu : 18 ≤ fu) : ∀ (e i n : Nat) (M : (Fin 20 → Nat → Int32)) (C : (Nat → Int32)), e + i = 5 → PL cd cf M P ps → RW cd (M 0) (cf f) → (∀ j p, j < i → ps[j]? = some p → ∃ m, MLT f p m ∧ C j = nI m) → e < n → ∃ y M' C', f_X3_countTimes_l2 kc fu E P N 0 n (nI i) M C = kc y M' C' ∧ (∀ j p, ps[j]? = some p → ∃ m, MLT f p m ∧ C' j = nI m) ∧ ∀ x : Fin 20, ¬ x = 2 → ¬ x = 12 → M' x = M x := by
  intro e
  induction e with
  | zero =>
    intro i n M C hi hPL h0 hC' hn
    obtain ⟨n, rfl⟩ : ∃ n', n = n' + 1 := ⟨n - 1, by omega⟩
    have h5 := hPL.1
    refine ⟨nI i, M, C, by rw [f_X3_countTimes_l2, hN, if_pos (nI_le (by omega) (by omega))], fun j p hj => hC' j p ?_ hj, fun _ _ _ => rfl⟩
    have := (List.getElem?_eq_some_iff.mp hj).1
    omega
  | succ e ih =>
    intro i n M C hi hPL h0 hC' hn
    obtain ⟨n, rfl⟩ : ∃ n', n = n' + 1 := ⟨n - 1, by omega⟩
    have h5 := hPL.1
    by_cases c : ps.length ≤ i
    · refine ⟨nI i, M, C, by rw [f_X3_countTimes_l2, hN, if_pos (nI_le c (by omega))], fun j p hj => hC' j p ?_ hj, fun _ _ _ => rfl⟩
      have := (List.getElem?_eq_some_iff.mp hj).1
      omega
    · obtain ⟨p, hpi⟩ : ∃ p, ps[i]? = some p := ⟨ps[i]'(by omega), List.getElem?_eq_getElem (by omega)⟩
      have pne : ¬ P i = 12 := PI_nf hP (by omega) (by decide)
      rw [f_X3_countTimes_l2, hN, if_neg (nI_ge (by omega) (by omega)), if_neg (show ¬ (5 : Int32) ≤ nI i from nI_ge (b := 5) (by omega) (by decide)), if_neg (nI_in (by omega) (by decide)), nI_clamp (by omega)]
      obtain ⟨M1, k1, k2, k3⟩ := P_copy hC (M := M) (r := 12) (b := 0) (by decide) h0 (show 17 ≤ fu by omega)
      rw [k1, Option.bind_some]
      obtain ⟨y, M2, C2, m, l1, l2, l3, l4, l5⟩ := P_cnt_i hC hR hP f0 hf5 (hp p (List.mem_of_getElem? hpi)) (i := i) (by omega) N 0 (fun y18 M19 C20 => f_X3_countTimes_l2 kc fu E P N 0 n (nI i + 1) M19 C20) fu hfu 5 0 fu M1 (upd C i 0) f (by omega) (by rw [k2 _ pne]; exact hPL.2 i p hpi) k3 (by rw [Lean.Grind.Semiring.pow_zero]; grind) pk_us (by omega)
      rw [show (nI 0 : Int32) = 0 from rfl] at l1
      rw [l1, nI_1]
      have fr : ∀ x : Fin 20, ¬ x = 2 → ¬ x = 12 → M2 x = M x := fun x h1 h2 => by rw [l5 x h1 h2, k2 x h2]
      obtain ⟨y2, M3, C3, n1, n2, n3⟩ := ih (i + 1) n M2 C2 (by omega) (PL_fr hP hPL (fun x hx => fr x (fun q => by rw [q] at hx; exact absurd hx (by decide)) (fun q => by rw [q] at hx; exact absurd hx (by decide)))) (by rw [fr 0 (by decide) (by decide)]; exact h0) (fun j p' hj hp' => by
        by_cases q : j = i
        · rw [q, hpi] at hp'
          rw [← Option.some.inj hp', q]
          exact ⟨m, l2, l3⟩
        · obtain ⟨m', a1, a2⟩ := hC' j p' (by omega) hp'
          exact ⟨m', a1, by rw [l4 j q, pk_un q]; exact a2⟩) (by omega)
      exact ⟨y2, M3, C3, n1, n2, fun x h1 h2 => by rw [n3 x h1 h2, fr x h1 h2]⟩
/-- the factors, in their order -/
def FP {K R : Type} [Lean.Grind.CommRing K] [Lean.Grind.CommRing R] (cd : K → Int32) (cf : R → Nat → K) (deg : R → Nat) (mon : R → Prop) (r : R) (ps : List R) : Prop := (∀ p ∈ ps, irr deg mon p) ∧ lp ps = r ∧ ps.Pairwise (BF cd cf)
theorem fp_uni {K R : Type} [Lean.Grind.CommRing K] [Lean.Grind.CommRing R] {cd : K → Int32} {cf : R → Nat → K} {deg : R → Nat} {mon : R → Prop} (hE : EU deg mon) {r : R} {ps ps' : List R} (h : FP cd cf deg mon r ps) (h' : FP cd cf deg mon r ps') : ps = ps' := sort_uni (lp_uni hE ps ps' h.1 h'.1 (by rw [h.2.1, h'.2.1])) h.2.2 h'.2.2
/-- what the class has found -/
def FD {K R : Type} [Lean.Grind.CommRing K] [Lean.Grind.CommRing R] (cd : K → Int32) (cf : R → Nat → K) (deg : R → Nat) (mon : R → Prop) (D : R → R) (M : (Fin 20 → Nat → Int32)) (P : Nat → Fin 20) (C N : (Nat → Int32)) (f : R) : Prop := ∃ r ps, RT mon D f r ∧ RW cd (M 11) (cf r) ∧ FP cd cf deg mon r ps ∧ PL cd cf M P ps ∧ N 0 = nI ps.length ∧ ∀ i p, ps[i]? = some p → ∃ m, MLT f p m ∧ C i = nI m
set_option maxHeartbeats 1000000 in
theorem P_find {K R : Type} [Lean.Grind.CommRing K] [Lean.Grind.CommRing R] {cd : K → Int32} {E : Nat → Int32} {kk : Int32} {md : Nat → Int32} {mn : Int64} {q k : Nat} {T : K} (hL : FL cd E kk md mn q k T) {cf : R → Nat → K} {deg : R → Nat} {mon : R → Prop} {X : R} {Cc : K → R} {Kl : List R} (hR : PR cf deg mon X Cc Kl q) {D : R → R} (hD : DR cf D) {M : (Fin 20 → Nat → Int32)} {P : Nat → Fin 20} (hP : PI P) (C : (Nat → Int32)) {N : (Nat → Int32)} {f : R} (hf : RW cd (M 0) (cf f)) (f0 : ¬ f = 0) (hs : sq (cf f) ≤ 6) (hN : N 1 = 0) {fu : Nat} (hfu : 1030400 ≤ fu) : ∃ M' P' C' N', f_X3_find fu M E P C N 0 = some (M', P', C', N') ∧ M' 0 = M 0 ∧ PI P' ∧ N' 1 = 1 ∧ FD cd cf deg mon D M' P' C' N' f := by
  have hE := pr_eu hR
  have hC := hL.1
  have df : deg f ≤ 5 := by have := pr_sq hR f0; omega
  obtain ⟨M1, M2, r, a1, a2, ⟨a3, a4⟩, a5, a6⟩ := P_root hC hR hL.2.1 hD hf f0 (show 32 ≤ fu by omega)
  obtain ⟨L, b1, b2, b3, b4⟩ := rt_list hE hR.1.2.1 (pr_lei hR hD) f0 a6
  obtain ⟨M3, c1, c2, c3⟩ := P_copy hC (M := M2) (r := 12) (b := 11) (by decide) a5 (show 17 ≤ fu by omega)
  rw [← b3] at c3
  have fi : FI cd cf deg P L 1 M3 (va_up N 0 0) [] L := ⟨⟨Nat.zero_le _, fun i a h => by simp at h⟩, rfl, (fun l h => absurd h List.not_mem_nil), List.Perm.refl _, fun p hp => (b1 p hp).2.1, c3⟩
  unfold f_X3_find
  rw [if_pos hN, a1, Option.bind_some, a2, Option.bind_some, c1, Option.bind_some]
  obtain ⟨y, d', M4, N4, W4, L4, e1, e2, e3, e4, e5, e6⟩ := P_floop hL hR hP b1 b2 (by rw [b3]; omega) C 0 (fun y17 M18 N19 =>
      (f_X2_degree fu M18 (12 : Fin 20)).bind (fun u20 =>
      ((
        if u20 ≤ 0 then
          some (M18, N19)
        else
          (f_X3_add fu M18 P N19 (12 : Fin 20)).bind (fun u24 =>
          some (u24.1, u24.2)) : Option ((Fin 20 → Nat → Int32) × (Nat → Int32)))).bind (fun w22 =>
      (f_X3_sort fu w22.1 P w22.2).bind (fun u26 =>
      (f_X3_countTimes fu w22.1 E u26 C w22.2 0).bind (fun u28 =>
      some (u28.1, u26, u28.2, va_up w22.2 1 1)))))) fu hfu 2 1 fu M3 (va_up N 0 0) [] L (by omega) (by omega) fi (by omega)
  rw [show (1 : Int32) = nI 1 from rfl] at e1 ⊢
  rw [e1]
  obtain ⟨u20, M5, N5, ps, g1, g2, g3, g4, g5, g6, g7, g8⟩ := P_flast hL hR hP b1 (by rw [b3]; omega) e2 e3 (show 17 ≤ fu by omega)
  rw [g1, Option.bind_some, g2, Option.bind_some]
  have pnd := g3.symm.nodup b2
  obtain ⟨P6, ps6, s1, s2, s3, s4, s5⟩ := P_sort hC hR hP g4 pnd g5 (show 18 ≤ fu by omega)
  have pl6 : ps6.length = ps.length := s4.length_eq
  have ir6 : ∀ p ∈ ps6, irr deg mon p := fun p hp => b1 p (g3.mem_iff.mp (s4.mem_iff.mp hp))
  have m50 : M5 0 = M 0 := by rw [g7, e5, c2 0 (by decide), a3]
  obtain ⟨y7, M7, C7, t1, t2, t3⟩ := P_cnt_o hC hR s2 f0 df ir6 (N := N5) (by rw [pl6]; exact g5) (fun y21 M22 C23 => some (M22, C23)) fu (by omega) 5 0 fu M5 C (by omega) s3 (by rw [m50]; exact hf) (fun j p hj _ => by omega) (by omega)
  have ct : f_X3_countTimes fu M5 E P6 C N5 0 = some (M7, C7) := t1
  refine ⟨M7, P6, C7, va_up N5 1 1, ?_, ?_, s2, va_up_self _ _ _, r, ps6, a6, ?_, ⟨ir6, ?_, s5⟩, ?_, ?_, t2⟩
  · show (f_X3_sort fu M5 P N5).bind (fun u26 => (f_X3_countTimes fu M5 E u26 C N5 0).bind (fun u28 => some (u28.1, u26, u28.2, va_up N5 1 1))) = _
    rw [s1, Option.bind_some, ct]
    rfl
  · rw [t3 0 (by decide) (by decide), m50]
  · rw [t3 11 (by decide) (by decide), g8, e6, c2 11 (by decide)]; exact a5
  · rw [lp_perm s4, lp_perm g3, b3]
  · exact PL_fr s2 s3 (fun x hx => t3 x (fun q => by rw [q] at hx; exact absurd hx (by decide)) (fun q => by rw [q] at hx; exact absurd hx (by decide)))
  · rw [va_up_ne _ _ (by decide), pl6]; exact g5
/-- the least number that all degrees go into -/
def CDG {R : Type} (deg : R → Nat) (ps : List R) (n : Nat) : Prop := 1 ≤ n ∧ n ≤ 60 ∧ (∀ p ∈ ps, deg p ∣ n) ∧ ∀ j, 1 ≤ j → j < n → ¬ ∀ p ∈ ps, deg p ∣ j
theorem cdg_uni {R : Type} {deg : R → Nat} {ps : List R} {n m : Nat} (h : CDG deg ps n) (k : CDG deg ps m) : n = m := by
  rcases Nat.lt_trichotomy n m with q | q | q
  · exact absurd h.2.2.1 (k.2.2.2 n h.1 q)
  · exact q
  · exact absurd k.2.2.1 (h.2.2.2 m k.1 q)
theorem P_comd_i {K R : Type} [Lean.Grind.CommRing K] [Lean.Grind.CommRing R] {cd : K → Int32} {E : Nat → Int32} {kk : Int32} {md : Nat → Int32} (hC : CX cd E kk md) {cf : R → Nat → K} {deg : R → Nat} {mon : R → Prop} {X : R} {Cc : K → R} {Kl : List R} {q : Nat} (hR : PR cf deg mon X Cc Kl q) {P : Nat → Fin 20} {ps : List R} (hp : ∀ p ∈ ps, irr deg mon p ∧ deg p ≤ 5) {M : (Fin 20 → Nat → Int32)} (hPL : PL cd cf M P ps) {N : (Nat → Int32)} (hN : N 0 = nI ps.length) {m : Nat} (hm : m ≤ 100) (kc : Int32 → Int32 → Option Int32) (fu : Nat) (hfu : 18 ≤ fu) : ∀ (e i n : Nat) (v : Int32), e + i = ps.length → e < n → ∃ v' y, f_X3_commonDegree_l12 kc fu M P N (nI m) n v (nI i) = kc v' y ∧ (v' = 0 ↔ v = 0 ∨ ∃ j p, i ≤ j ∧ ps[j]? = some p ∧ ¬ deg p ∣ m) := by
  have h5 := hPL.1
  intro e
  induction e with
  | zero =>
    intro i n v hi hn
    obtain ⟨n, rfl⟩ : ∃ n', n = n' + 1 := ⟨n - 1, by omega⟩
    refine ⟨v, nI i, by rw [f_X3_commonDegree_l12, hN, if_pos (nI_le (by omega) (by omega))], fun q => Or.inl q, fun q => ?_⟩
    rcases q with q | ⟨j, p, hj, hjp, _⟩
    · exact q
    · have := (List.getElem?_eq_some_iff.mp hjp).1
      omega
  | succ e ih =>
    intro i n v hi hn
    obtain ⟨n, rfl⟩ : ∃ n', n = n' + 1 := ⟨n - 1, by omega⟩
    obtain ⟨p, hpi⟩ : ∃ p, ps[i]? = some p := ⟨ps[i]'(by omega), List.getElem?_eq_getElem (by omega)⟩
    obtain ⟨ip, dp⟩ := hp p (List.mem_of_getElem? hpi)
    have d1 := ip.2.1
    have fin : ∀ v1 : Int32, (v1 = 0 ↔ v = 0 ∨ ¬ deg p ∣ m) → ∃ v' y, f_X3_commonDegree_l12 kc fu M P N (nI m) n v1 (nI i + 1) = kc v' y ∧ (v' = 0 ↔ v = 0 ∨ ∃ j p, i ≤ j ∧ ps[j]? = some p ∧ ¬ deg p ∣ m) := by
      intro v1 hv
      obtain ⟨v', y, h1, h2⟩ := ih (i + 1) n v1 (by omega) (by omega)
      rw [nI_1]
      refine ⟨v', y, h1, h2.trans ⟨fun q => ?_, fun q => ?_⟩⟩
      · rcases q with q | ⟨j, p', hj, hjp, hd⟩
        · rcases hv.mp q with q | q
          · exact Or.inl q
          · exact Or.inr ⟨i, p, Nat.le_refl _, hpi, q⟩
        · exact Or.inr ⟨j, p', by omega, hjp, hd⟩
      · rcases q with q | ⟨j, p', hj, hjp, hd⟩
        · exact Or.inl (hv.mpr (Or.inl q))
        · by_cases c : j = i
          · rw [c, hpi] at hjp
            exact Or.inl (hv.mpr (Or.inr (by rw [Option.some.inj hjp]; exact hd)))
          · exact Or.inr ⟨j, p', by omega, hjp, hd⟩
    rw [f_X3_commonDegree_l12, hN, if_neg (nI_ge (by omega) (by omega)), P_part (by omega), Option.bind_some, P_deg hC (hPL.2 i p hpi) (by omega), Option.bind_some, (pr_mo hR ip.1).2, dI_s]
    by_cases c : v = 0
    · rw [if_pos c, Option.bind_some]
      exact fin 0 ⟨fun _ => Or.inl c, fun _ => rfl⟩
    · rw [if_neg c, if_neg (nI_nle d1 (by omega)), if_neg (nI_ne0 d1 (by omega))]
      have jr : jrem (nI m) (nI (deg p)) = nI (m % deg p) := pk_rem (by omega) d1 (by omega)
      rw [jr]
      have ml : m % deg p < deg p := Nat.mod_lt _ d1
      by_cases c2 : m % deg p = 0
      · rw [if_pos (by rw [c2]; rfl), Option.bind_some, Option.bind_some, Option.bind_some]
        exact fin 1 ⟨fun q => absurd q (by decide), fun q => q.elim (fun q => absurd q c) (fun q => absurd (Nat.dvd_of_mod_eq_zero c2) q)⟩
      · rw [if_neg (nI_ne0 (by omega) (by omega)), Option.bind_some, Option.bind_some, Option.bind_some]
        exact fin 0 ⟨fun _ => Or.inr (fun q => c2 (Nat.mod_eq_zero_of_dvd q)), fun _ => rfl⟩
theorem P_comd_o {K R : Type} [Lean.Grind.CommRing K] [Lean.Grind.CommRing R] {cd : K → Int32} {E : Nat → Int32} {kk : Int32} {md : Nat → Int32} (hC : CX cd E kk md) {cf : R → Nat → K} {deg : R → Nat} {mon : R → Prop} {X : R} {Cc : K → R} {Kl : List R} {q : Nat} (hR : PR cf deg mon X Cc Kl q) {P : Nat → Fin 20} {ps : List R} (hp : ∀ p ∈ ps, irr deg mon p ∧ deg p ≤ 5) {M : (Fin 20 → Nat → Int32)} (hPL : PL cd cf M P ps) {N : (Nat → Int32)} (hN : N 0 = nI ps.length) (fu : Nat) (hfu : 18 ≤ fu) : ∀ (e m n : Nat), e + m = 60 → 1 ≤ m → (∀ j, 1 ≤ j → j < m → ¬ ∀ p ∈ ps, deg p ∣ j) → e < n → ∃ r, CDG deg ps r ∧ f_X3_commonDegree_l2 (fun y17 => some 0) fu M P N n (nI m) = some (nI r) := by
  have h5 := hPL.1
  intro e
  induction e with
  | zero =>
    intro m n hm h1 hj hn
    obtain ⟨n, rfl⟩ : ∃ n', n = n' + 1 := ⟨n - 1, by omega⟩
    have em : m = 60 := by omega
    subst em
    have all : ∀ p ∈ ps, deg p ∣ 60 := fun p hp' => by
      have a := hp p hp'
      have d1 := a.1.2.1
      have d2 := a.2
      have : deg p = 1 ∨ deg p = 2 ∨ deg p = 3 ∨ deg p = 4 ∨ deg p = 5 := by omega
      rcases this with h | h | h | h | h <;> rw [h] <;> decide
    refine ⟨60, ⟨h1, by omega, all, hj⟩, ?_⟩
    obtain ⟨v', y, k1, k2⟩ := P_comd_i hC hR hp hPL hN (m := 60) (by omega) (fun y14 y15 => if y14 = 0 then f_X3_commonDegree_l2 (fun y17 => some 0) fu M P N n (nI 60 + 1) else some (nI 60)) fu hfu ps.length 0 fu 1 (by omega) (by omega)
    have k1' : f_X3_commonDegree_l12 (fun y14 y15 => if y14 = 0 then f_X3_commonDegree_l2 (fun y17 => some 0) fu M P N n (nI 60 + 1) else some (nI 60)) fu M P N (nI 60) fu 1 0 = _ := k1
    rw [f_X3_commonDegree_l2, if_neg (by decide), k1', if_neg]
    intro q
    rcases k2.mp q with q | ⟨j, p, _, hjp, hd⟩
    · exact absurd q (by decide)
    · exact hd (all p (List.mem_of_getElem? hjp))
  | succ e ih =>
    intro m n hm h1 hj hn
    obtain ⟨n, rfl⟩ : ∃ n', n = n' + 1 := ⟨n - 1, by omega⟩
    obtain ⟨v', y, k1, k2⟩ := P_comd_i hC hR hp hPL hN (m := m) (by omega) (fun y14 y15 => if y14 = 0 then f_X3_commonDegree_l2 (fun y17 => some 0) fu M P N n (nI m + 1) else some (nI m)) fu hfu ps.length 0 fu 1 (by omega) (by omega)
    rw [f_X3_commonDegree_l2, if_neg (show ¬ (60 : Int32) < nI m from nI_nlt (a := 60) (by omega) (by decide))]
    have k1' : f_X3_commonDegree_l12 (fun y14 y15 => if y14 = 0 then f_X3_commonDegree_l2 (fun y17 => some 0) fu M P N n (nI m + 1) else some (nI m)) fu M P N (nI m) fu 1 0 = _ := k1
    rw [k1']
    by_cases c : v' = 0
    · rw [if_pos c, nI_1]
      refine ih (m + 1) n (by omega) (by omega) (fun j j1 j2 => ?_) (by omega)
      by_cases q : j = m
      · rw [q]
        rcases k2.mp c with q | ⟨j, p, _, hjp, hd⟩
        · exact absurd q (by decide)
        · exact fun all => hd (all p (List.mem_of_getElem? hjp))
      · exact hj j j1 (by omega)
    · rw [if_neg c]
      refine ⟨m, ⟨h1, by omega, fun p hp' => ?_, hj⟩, rfl⟩
      obtain ⟨j, hjp⟩ := List.mem_iff_getElem?.mp hp'
      exact Classical.byContradiction (fun q => c (k2.mpr (Or.inr ⟨j, p, Nat.zero_le _, hjp, q⟩)))
theorem P_comd {K R : Type} [Lean.Grind.CommRing K] [Lean.Grind.CommRing R] {cd : K → Int32} {E : Nat → Int32} {kk : Int32} {md : Nat → Int32} (hC : CX cd E kk md) {cf : R → Nat → K} {deg : R → Nat} {mon : R → Prop} {X : R} {Cc : K → R} {Kl : List R} {q : Nat} (hR : PR cf deg mon X Cc Kl q) {P : Nat → Fin 20} {ps : List R} (hp : ∀ p ∈ ps, irr deg mon p ∧ deg p ≤ 5) {M : (Fin 20 → Nat → Int32)} (hPL : PL cd cf M P ps) {N : (Nat → Int32)} (hN : N 0 = nI ps.length) {fu : Nat} (hfu : 62 ≤ fu) : ∃ r, CDG deg ps r ∧ f_X3_commonDegree fu M P N = some (nI r) := P_comd_o hC hR hp hPL hN fu (by omega) 59 1 fu (by omega) (by omega) (fun j h1 h2 => by omega) (by omega)
