/-! Division, and 1 at the highest power, as the class comes to them. -/
theorem cx_10 {K : Type} [Lean.Grind.CommRing K] {cd : K → Int32} {E : Nat → Int32} {kk : Int32} {md : Nat → Int32} (hC : CX cd E kk md) : ¬ (1 : K) = 0 := fun h => by
  have h1 := hC.2.1.2
  rw [h, hC.2.1.1] at h1
  exact absurd h1 (by decide)
theorem sq_mo {K : Type} [Lean.Grind.CommRing K] {cd : K → Int32} {E : Nat → Int32} {kk : Int32} {md : Nat → Int32} (hC : CX cd E kk md) {g : Nat → K} {d : Nat} (h : mo g d) : sq g = d + 1 := sq_of (by rw [h.1]; exact cx_10 hC) h.2
theorem P_div_i {K : Type} [Lean.Grind.CommRing K] {cd : K → Int32} {E : Nat → Int32} {kk : Int32} {md : Nat → Int32} (hC : CX cd E kk md) {a b : Fin 20} (hab : ¬ b = a) {g : Nat → K} {d i : Nat} (hg' : dl g (d + 1)) (hdi : d ≤ i) (hi : i < 16) {c : K} (k : Int32 → (Fin 20 → Nat → Int32) → Option (Fin 20 → Nat → Int32)) (fu : Nat) : ∀ (e j n : Nat) (M : Fin 20 → Nat → Int32) (p : Nat → K), e + j = d + 1 → RW cd (M b) g → RW cd (M a) p → e < n → ∃ y M', f_X1_divide_l52 k fu E a b (nI d) (nI i) (cd c) n (nI j) M = k y M' ∧ (∀ q, ¬ q = a → M' q = M q) ∧ RW cd (M' a) (fun t => p t - if i - d + j ≤ t then c * g (t - (i - d)) else 0) := by
  intro e
  induction e with
  | zero =>
    intro j n M p hj hg hp hn
    obtain ⟨n, rfl⟩ : ∃ n', n = n' + 1 := ⟨n - 1, by omega⟩
    have fin : RW cd (M a) (fun t => p t - if i - d + j ≤ t then c * g (t - (i - d)) else 0) := RW_c hp (fun t => by
      by_cases c1 : i - d + j ≤ t
      · rw [if_pos c1, hg' (t - (i - d)) (by omega)]; grind
      · rw [if_neg c1]; grind)
    refine ⟨nI j, M, ?_, fun _ _ => rfl, fin⟩
    rw [f_X1_divide_l52]
    by_cases c0 : cd c = 0
    · rw [if_pos c0]
    · rw [if_neg c0, if_pos ((nI_ltI (by omega) (by omega)).mpr (by omega))]
  | succ e ih =>
    intro j n M p hj hg hp hn
    obtain ⟨n, rfl⟩ : ∃ n', n = n' + 1 := ⟨n - 1, by omega⟩
    rw [f_X1_divide_l52]
    by_cases c0 : cd c = 0
    · rw [if_pos c0]
      refine ⟨nI j, M, rfl, fun _ _ => rfl, RW_c hp (fun t => ?_)⟩
      rw [(cd_0 hC c).mp c0]
      by_cases c1 : i - d + j ≤ t
      · rw [if_pos c1]; grind
      · rw [if_neg c1]; grind
    · rw [if_neg c0, if_neg (fun q => by have := (nI_ltI (by omega) (by omega)).mp q; omega)]
      simp only [nm]
      rw [pk_sub hdi, nI_add, P_get hC hp (by omega), Option.bind_some, P_get hC hg (by omega), Option.bind_some, hC.2.2.2.2.1, Option.bind_some, hC.2.2.2.1, Option.bind_some, P_set M a (by omega), Option.bind_some, nI_1]
      obtain ⟨y, M', h1, h2, h3⟩ := ih (j + 1) n (fup M a (upd (M a) (i - d + j) (cd (p (i - d + j) - c * g j)))) (fun t => if t = i - d + j then p (i - d + j) - c * g j else p t) (by omega) (by rw [fup_n _ _ hab]; exact hg) (by
        rw [fup_s]
        exact RW_upd hp (by omega) (if_pos rfl) (fun j hj => if_neg hj)) (by omega)
      refine ⟨y, M', h1, fun q hq => by rw [h2 q hq, fup_n _ _ hq], RW_c h3 (fun t => ?_)⟩
      by_cases c1 : t = i - d + j
      · subst c1
        rw [if_pos rfl, if_neg (by omega), if_pos (by omega), show i - d + j - (i - d) = j by omega]; grind
      · rw [if_neg c1]
        by_cases c2 : i - d + j ≤ t
        · rw [if_pos (show i - d + (j + 1) ≤ t by omega), if_pos c2]
        · rw [if_neg (show ¬ i - d + (j + 1) ≤ t by omega), if_neg c2]
theorem pm_put {K : Type} [Lean.Grind.CommRing K] {p : Nat → K} (g : Nat → K) {i : Nat} {c : K} (h : p i = 0) (t : Nat) : pm (fun t => if t = i then c else p t) g t = pm p g t + if i ≤ t then c * g (t - i) else 0 := by
  have e : (fun t => if t = i then c else p t) = fun t => p t + (fun t => c * xp i t) t := by
    funext t
    show (if t = i then c else p t) = p t + c * (if t = i then 1 else 0)
    by_cases h2 : t = i
    · rw [if_pos h2, if_pos h2, h2, h]; grind
    · rw [if_neg h2, if_neg h2]; grind
  rw [e, pm_add_l p (fun t => c * xp i t) g t, pm_mul_l, pm_xp]
  by_cases h : i ≤ t
  · rw [if_pos h, if_pos h]
  · rw [if_neg h, if_neg h]; grind
theorem P_div_o {K : Type} [Lean.Grind.CommRing K] {cd : K → Int32} {E : Nat → Int32} {kk : Int32} {md : Nat → Int32} (hC : CX cd E kk md) {a b : Fin 20} (hab : ¬ b = a) (ha : ¬ a = 2) (hb : ¬ b = 2) {f g : Nat → K} {d N : Nat} (hg' : mo g d) (hN : N ≤ 16) (k : Int32 → (Fin 20 → Nat → Int32) → Option (Fin 20 → Nat → Int32)) (fu : Nat) (hfu : 18 ≤ fu) : ∀ (s n : Nat) (M : Fin 20 → Nat → Int32) (p qv : Nat → K), s ≤ N → RW cd (M b) g → RW cd (M a) p → RW cd (M 2) qv → dl p s → dl qv (N - d) → (∀ t, t + d < s → qv t = 0) → (∀ t, f t = pm qv g t + p t) → s < n → ∃ y M' q r, f_X1_divide_l18 k fu E a b (nI d) n (dI s) M = k y M' ∧ (∀ x, ¬ x = 2 → ¬ x = a → M' x = M x) ∧ RW cd (M' 2) q ∧ RW cd (M' a) r ∧ (∀ t, f t = pm q g t + r t) ∧ dl r d ∧ dl q (N - d) := by
  intro s
  induction s with
  | zero =>
    intro n M p qv hs hg hp hq h1 h2 h3 h4 hn
    obtain ⟨n, rfl⟩ : ∃ n', n = n' + 1 := ⟨n - 1, by omega⟩
    have hd : d < 16 := by
      by_cases c : d < 16
      · exact c
      · exact absurd (hg.1 d (by omega)) (by rw [hg'.1]; exact cx_10 hC)
    refine ⟨dI 0, M, qv, p, ?_, fun _ _ _ => rfl, hq, hp, h4, fun i hi => h1 i (by omega), h2⟩
    rw [f_X1_divide_l18, if_neg (nI_pos (by omega)), if_pos ((dI_lt (by omega) (by omega)).mpr (by omega))]
  | succ s ih =>
    intro n M p qv hs hg hp hq h1 h2 h3 h4 hn
    obtain ⟨n, rfl⟩ : ∃ n', n = n' + 1 := ⟨n - 1, by omega⟩
    have hd : d < 16 := by
      by_cases c : d < 16
      · exact c
      · exact absurd (hg.1 d (by omega)) (by rw [hg'.1]; exact cx_10 hC)
    by_cases c : s < d
    · refine ⟨dI (s + 1), M, qv, p, ?_, fun _ _ _ => rfl, hq, hp, h4, fun i hi => h1 i (by omega), h2⟩
      rw [f_X1_divide_l18, if_neg (nI_pos (by omega)), if_pos ((dI_lt (by omega) (by omega)).mpr (by omega))]
    · rw [f_X1_divide_l18, if_neg (nI_pos (by omega)), if_neg (fun q => by have := (dI_lt (by omega) (by omega)).mp q; omega), dI_s, P_get hC hp (by omega), Option.bind_some, pk_sub (by omega), P_set M 2 (by omega), Option.bind_some]
      obtain ⟨y, M1, k1, k2, k3⟩ := P_div_i hC hab hg'.2 (i := s) (by omega) (by omega) (c := p s) (fun y26 M27 => f_X1_divide_l18 k fu E a b (nI d) n (nI s + (-1)) M27) fu (d + 1) 0 fu (fup M 2 (upd (M 2) (s - d) (cd (p s)))) p (by omega) (by rw [fup_n _ _ hb]; exact hg) (by rw [fup_n _ _ ha]; exact hp) (by omega)
      rw [show (0 : Int32) = nI 0 from rfl, k1, dI_m]
      obtain ⟨y2, M2, q, r, l1, l2, l3, l4, l5, l6, l7⟩ := ih n M1 (fun t => p t - if s - d + 0 ≤ t then p s * g (t - (s - d)) else 0) (fun t => if t = s - d then p s else qv t) (by omega) (by rw [k2 b hab, fup_n _ _ hb]; exact hg) k3 (by
        rw [k2 2 (fun e => ha e.symm), fup_s]
        exact RW_upd hq (by omega) (if_pos rfl) (fun j hj => if_neg hj)) (fun t ht => by
        show p t - (if s - d + 0 ≤ t then p s * g (t - (s - d)) else 0) = 0
        rw [if_pos (by omega)]
        by_cases e : t = s
        · rw [e, show s - (s - d) = d by omega, hg'.1]; grind
        · rw [h1 t (by omega), hg'.2 _ (by omega)]; grind) (fun t ht => by
        show (if t = s - d then p s else qv t) = 0
        rw [if_neg (by omega)]
        exact h2 t ht) (fun t ht => by
        show (if t = s - d then p s else qv t) = 0
        rw [if_neg (by omega)]
        exact h3 t (by omega)) (fun t => by
        show _ = pm (fun t => if t = s - d then p s else qv t) g t + (p t - if s - d + 0 ≤ t then p s * g (t - (s - d)) else 0)
        rw [pm_put g (h3 (s - d) (by omega)), Nat.add_zero, h4 t]; grind) (by omega)
      exact ⟨y2, M2, q, r, l1, fun x hx1 hx2 => by rw [l2 x hx1 hx2, k2 x hx2, fup_n _ _ hx1], l3, l4, l5, l6, l7⟩
theorem P_div {K : Type} [Lean.Grind.CommRing K] {cd : K → Int32} {E : Nat → Int32} {kk : Int32} {md : Nat → Int32} (hC : CX cd E kk md) {M : Fin 20 → Nat → Int32} {a b : Fin 20} (hab : ¬ b = a) (ha : ¬ a = 2) (hb : ¬ b = 2) {f g : Nat → K} {d : Nat} (hf : RW cd (M a) f) (hg : RW cd (M b) g) (hg' : mo g d) {fu : Nat} (hfu : 18 ≤ fu) : ∃ M' q r, f_X1_divide fu M E a b = some M' ∧ (∀ x, ¬ x = 2 → ¬ x = a → M' x = M x) ∧ RW cd (M' 2) q ∧ RW cd (M' a) r ∧ (∀ t, f t = pm q g t + r t) ∧ dl r d ∧ dl q (sq f - d) := by
  unfold f_X1_divide
  rw [P_deg hC hg (by omega), Option.bind_some]
  obtain ⟨M1, h1, h2, h3⟩ := P_clear hC M 2 (show 17 ≤ fu by omega)
  have hf1 : RW cd (M1 a) f := by rw [h2 a ha]; exact hf
  rw [h1, Option.bind_some, P_deg hC hf1 (by omega), Option.bind_some, sq_mo hC hg', dI_s]
  have := sq_le hf.1
  obtain ⟨y, M2, q, r, l1, l2, l3, l4, l5, l6, l7⟩ := P_div_o hC hab ha hb (f := f) hg' (sq_le hf.1) (fun y28 M29 => some M29) fu hfu (sq f) fu M1 f (fun _ => 0) (by omega) (by rw [h2 b hb]; exact hg) hf1 h3 (sq_dl hf.1) (fun _ _ => rfl) (fun _ _ => rfl) (fun t => by
    rw [show pm (fun _ => (0 : K)) g t = 0 from sm_zero (fun i _ => by grind)]; grind) (by omega)
  exact ⟨M2, q, r, l1, fun x hx1 hx2 => by rw [l2 x hx1 hx2, h2 x hx1], l3, l4, l5, l6, l7⟩
/-- the field's size, and Fermat -/
def FX (K : Type) [Lean.Grind.CommRing K] (q : Nat) (E : Nat → Int32) (mn : Int64) : Prop := fld K ∧ (∀ a : K, a ^ q = a) ∧ (q = 101 ∨ q = 10201 ∨ q = 1030301) ∧ E 1 = nI q ∧ mn = lN q
theorem fx_inv {K : Type} [Lean.Grind.CommRing K] {q : Nat} {E : Nat → Int32} {mn : Int64} (hF : FX K q E mn) {a : K} (ha : ¬ a = 0) : a ^ (q - 2) * a = 1 := by
  obtain ⟨b, hb⟩ := hF.1.2 a ha
  have h1 := hF.2.1 a
  have h2 : 2 ≤ q := by rcases hF.2.2.1 with h | h | h <;> omega
  rw [show q = q - 2 + 1 + 1 by omega, Lean.Grind.Semiring.pow_succ, Lean.Grind.Semiring.pow_succ] at h1
  grind
theorem P_mon_l {K : Type} [Lean.Grind.CommRing K] {cd : K → Int32} {E : Nat → Int32} {kk : Int32} {md : Nat → Int32} (hC : CX cd E kk md) {a : Fin 20} {f : Nat → K} {u : K} {N : Nat} (hN : N ≤ 16) (hd : dl f N) (k : Int32 → (Fin 20 → Nat → Int32) → Option (Fin 20 → Nat → Int32)) (fu : Nat) (x3 : Int32) : ∀ (e j n : Nat) (M : Fin 20 → Nat → Int32), e + j = N → RW cd (M a) (fun t => if t < j then f t * u else f t) → e < n → ∃ y M', f_X1_makeMonic_l43 k fu E a (dI N) x3 (cd u) n (nI j) M = k y M' ∧ (∀ q, ¬ q = a → M' q = M q) ∧ RW cd (M' a) (fun t => u * f t) := by
  intro e
  induction e with
  | zero =>
    intro j n M hj hf hn
    obtain ⟨n, rfl⟩ : ∃ n', n = n' + 1 := ⟨n - 1, by omega⟩
    refine ⟨nI j, M, by rw [f_X1_makeMonic_l43, if_pos ((dI_lt (by omega) (by omega)).mpr (by omega))], fun _ _ => rfl, RW_c hf (fun t => ?_)⟩
    by_cases c : t < j
    · rw [if_pos c]; grind
    · rw [if_neg c, hd t (by omega)]; grind
  | succ e ih =>
    intro j n M hj hf hn
    obtain ⟨n, rfl⟩ : ∃ n', n = n' + 1 := ⟨n - 1, by omega⟩
    rw [f_X1_makeMonic_l43, if_neg (fun q => by have := (dI_lt (by omega) (by omega)).mp q; omega), P_get hC hf (by omega), Option.bind_some, if_neg (by omega), hC.2.2.2.2.1, Option.bind_some, P_set M a (by omega), Option.bind_some, nI_1]
    obtain ⟨y, M', h1, h2, h3⟩ := ih (j + 1) n _ (by omega) (show RW cd ((fup M a (upd (M a) j (cd (f j * u)))) a) _ by
      rw [fup_s]
      refine RW_upd hf (by omega) (if_pos (by omega)) (fun t ht => ?_)
      by_cases c1 : t < j
      · rw [if_pos c1, if_pos (by omega)]
      · rw [if_neg c1, if_neg (by omega)]) (by omega)
    exact ⟨y, M', h1, fun q hq => by rw [h2 q hq, fup_n _ _ hq], h3⟩
theorem P_mon {K : Type} [Lean.Grind.CommRing K] {cd : K → Int32} {E : Nat → Int32} {kk : Int32} {md : Nat → Int32} (hC : CX cd E kk md) {q : Nat} {mn : Int64} (hF : FX K q E mn) {M : Fin 20 → Nat → Int32} {a : Fin 20} {f : Nat → K} (hf : RW cd (M a) f) {fu : Nat} (hfu : 32 ≤ fu) : ∃ M' u v, f_X1_makeMonic fu M E a = some M' ∧ (∀ q, ¬ q = a → M' q = M q) ∧ RW cd (M' a) (fun t => u * f t) ∧ u * v = 1 ∧ ∀ d, sq f = d + 1 → u * f d = 1 := by
  unfold f_X1_makeMonic
  rw [P_deg hC hf (by omega), Option.bind_some]
  have hs := sq_le hf.1
  have one : ∃ u v : K, RW cd (M a) (fun t => u * f t) ∧ u * v = 1 ∧ ∀ t, u * f t = f t := ⟨1, 1, RW_c hf (fun t => by grind), by grind, fun t => by grind⟩
  obtain ⟨u, v, o1, o2, o3⟩ := one
  rcases sq_cases hf.1 with ⟨h1, h2⟩ | ⟨d, h1, h2, h3, h4⟩
  · rw [h1, dI_0, P_getm hC, Option.bind_some, if_pos hC.2.1.1]
    exact ⟨M, u, v, rfl, fun _ _ => rfl, o1, o2, fun d hd => absurd hd (by omega)⟩
  · rw [h2, dI_s, P_get hC hf (by omega), Option.bind_some, if_neg (fun e => h3 ((cd_0 hC _).mp e))]
    by_cases c : cd (f d) = 1
    · rw [if_pos c]
      exact ⟨M, u, v, rfl, fun _ _ => rfl, o1, o2, fun d' hd => by rw [o3, show d' = d by omega]; exact (cd_1 hC _).mp c⟩
    · have hq : q < 2 ^ 30 ∧ 2 ≤ q := by rcases hF.2.2.1 with h | h | h <;> omega
      rw [if_neg c, hF.2.2.2.1, show (2 : Int32) = nI 2 from rfl, pk_sub hq.2, P_pow hC hfu (f d) (by omega), Option.bind_some, ← dI_s]
      obtain ⟨y, M', l1, l2, l3⟩ := P_mon_l hC (a := a) (f := f) (u := f d ^ (q - 2)) (N := d + 1) (by omega) h4 (fun y16 M17 => some M17) fu (cd (f d)) (d + 1) 0 fu M (by omega) (RW_c hf (fun t => (if_neg (by omega)).symm)) (by omega)
      exact ⟨M', _, f d, l1, l2, l3, fx_inv hF h3, fun d' hd => by rw [show d' = d by omega]; exact fx_inv hF h3⟩
