/-! Numbers of 64 bits (rows of the kit's BITS); the derivative; x + c to a power, as the class comes to it. -/
theorem wb_tb (n : Nat) : (lN n).toBitVec = BitVec.ofNat 64 n := rfl
theorem wb_inj {a b : Int64} (h : a.toBitVec = b.toBitVec) : a = b := Int64.toBitVec_inj.mp h
theorem wb_c : ∀ k, k < 64 → ((nI k).toInt64 &&& 63) = lN k := by decide +kernel
theorem wb_lt2 {a b : Nat} (h : a < b) : 2 ^ a < 2 ^ b := Nat.pow_lt_pow_right (by decide) h
theorem wb_and {a b : Nat} (ha : a < 2 ^ 64) (hb : b < 2 ^ 64) : lN a &&& lN b = lN (a &&& b) := by
  apply wb_inj
  rw [Int64.toBitVec_and, wb_tb, wb_tb, wb_tb]
  apply BitVec.eq_of_toNat_eq
  rw [BitVec.toNat_and, BitVec.toNat_ofNat, BitVec.toNat_ofNat, BitVec.toNat_ofNat, Nat.mod_eq_of_lt ha, Nat.mod_eq_of_lt hb, Nat.mod_eq_of_lt (Nat.and_lt_two_pow _ hb)]
theorem wb_mask {n k : Nat} (hn : n < 2 ^ 64) (hk : k < 64) : lN n &&& lN (2 ^ k - 1) = lN (n % 2 ^ k) := by
  rw [wb_and hn (by have := wb_lt2 hk; omega), Nat.and_two_pow_sub_one_eq_mod]
theorem wb_a1 {n : Nat} (hn : n < 2 ^ 64) : lN n &&& 1 = lN (n % 2) := wb_mask (k := 1) hn (by decide)
theorem pf_lI {a : Nat} (h : a < 2 ^ 63) : (lN a).toInt = (a : Int) := lg_ofNat_toInt h
theorem pf_shr {a d : Nat} {D : Int64} (hD : (D.toBitVec.smod 64).toNat = d) (h : a < 2 ^ 62) : lN a >>> D = lN (a / 2 ^ d) := by
  have hd : a / 2 ^ d ≤ a := Nat.div_le_self _ _
  apply Int64.toInt_inj.mp
  have e : (lN a >>> D).toInt = (lN a).toInt >>> d := by
    rw [← hD]
    exact BitVec.toInt_sshiftRight ..
  rw [e, Int.shiftRight_eq_div_pow, pf_lI (by omega), pf_lI (by omega)]
  rfl
theorem lN_c0 {a : Nat} (h : a < 2 ^ 62) : lg_cmp (lN a) 0 = 0 ↔ a = 0 := by
  unfold lg_cmp
  by_cases c : a = 0
  · subst c; exact ⟨fun _ => rfl, fun _ => by decide⟩
  · have h1 : lN a > 0 := (pk_lLT (a := 0) (by omega) (by omega)).mpr (by omega)
    rw [if_pos h1]
    exact ⟨fun q => absurd q (by decide), fun q => absurd q c⟩
theorem lN_c1 (a : Nat) : lg_cmp (lN (a % 2)) 1 = 0 ↔ a % 2 = 1 := by
  rcases Nat.mod_two_eq_zero_or_one a with h | h <;> rw [h] <;> decide
theorem lN_sh {a : Nat} (h : a < 2 ^ 62) {b : Nat} (hb : b < 64) : lN a >>> ((nI b).toInt64 &&& 63) = lN (a / 2 ^ b) := by
  rw [wb_c b hb]
  refine pf_shr ?_ h
  rw [wb_tb]
  exact (by decide +kernel : ∀ k, k < 64 → ((BitVec.ofNat 64 k).smod 64).toNat = k) b hb
/-- numbers among the elements -/
theorem pl_1 : ∀ n, n < 100 → f_X0_plus (nI n) 1 = some (nI (n + 1)) := by decide +kernel
theorem cd_n {K : Type} [Lean.Grind.CommRing K] {cd : K → Int32} {E : Nat → Int32} {kk : Int32} {md : Nat → Int32} (hC : CX cd E kk md) (n : Nat) (h : n ≤ 100) : cd (OfNat.ofNat n : K) = nI n := by
  induction n with
  | zero => exact hC.2.1.1
  | succ n ih =>
    have h1 := hC.2.2.1 (OfNat.ofNat n) 1
    rw [ih (by omega), hC.2.1.2, pl_1 n (by omega)] at h1
    rw [Lean.Grind.Semiring.ofNat_succ]
    exact (Option.some.inj h1).symm
/-- the derivative -/
def pd {K : Type} [Lean.Grind.CommRing K] (f : Nat → K) : Nat → K := fun t => OfNat.ofNat (t + 1) * f (t + 1)
def pt {K : Type} [Lean.Grind.CommRing K] (f : Nat → K) : Nat → K := fun t => OfNat.ofNat t * f t
theorem pt_pm {K : Type} [Lean.Grind.CommRing K] (f g : Nat → K) (n : Nat) : pt (pm f g) n = pm (pt f) g n + pm f (pt g) n := by
  show OfNat.ofNat n * sm (fun i => f i * g (n - i)) (n + 1) = sm (fun i => OfNat.ofNat i * f i * g (n - i)) (n + 1) + sm (fun i => f i * (OfNat.ofNat (n - i) * g (n - i))) (n + 1)
  rw [← sm_add, ← sm_mul]
  refine sm_congr (fun i hi => ?_)
  have : (OfNat.ofNat n : K) = OfNat.ofNat i + OfNat.ofNat (n - i) := by rw [← nc_add, show i + (n - i) = n by omega]
  rw [this]; grind
theorem pt_pd {K : Type} [Lean.Grind.CommRing K] (f : Nat → K) : pt f = pm (xp 1) (pd f) := by
  funext t
  rw [pm_xp]
  cases t with
  | zero =>
    rw [if_neg (by omega)]
    show (OfNat.ofNat 0 : K) * f 0 = 0
    rw [show (OfNat.ofNat 0 : K) = 0 from rfl]; grind
  | succ t => rw [if_pos (by omega)]; rfl
theorem pd_pm {K : Type} [Lean.Grind.CommRing K] (f g : Nat → K) (n : Nat) : pd (pm f g) n = pm (pd f) g n + pm f (pd g) n := by
  have h := pt_pm f g (n + 1)
  rw [pt_pd f, pt_pd g, pm_comm (n + 1) f (pm (xp 1) (pd g)), pm_assoc, pm_assoc, pm_xp, pm_xp, if_pos (by omega), if_pos (by omega), show n + 1 - 1 = n by omega, pm_comm n (pd g) f] at h
  exact h
theorem dl_pd {K : Type} [Lean.Grind.CommRing K] {f : Nat → K} {n : Nat} (h : dl f n) : dl (pd f) n := fun i hi => by
  show OfNat.ofNat (i + 1) * f (i + 1) = 0
  rw [h (i + 1) (by omega)]; grind
def DR {K R : Type} [Lean.Grind.CommRing K] (cf : R → Nat → K) (D : R → R) : Prop := ∀ a, cf (D a) = pd (cf a)
theorem pr_D {K R : Type} [Lean.Grind.CommRing K] [Lean.Grind.CommRing R] {cf : R → Nat → K} {deg : R → Nat} {mon : R → Prop} {X : R} {Cc : K → R} {Kl : List R} {q : Nat} (hR : PR cf deg mon X Cc Kl q) : ∃ D : R → R, DR cf D :=
  ⟨fun a => (pr_ex hR (dl_pd (pr_dl hR a))).choose, fun a => (pr_ex hR (dl_pd (pr_dl hR a))).choose_spec⟩
theorem pr_lei {K R : Type} [Lean.Grind.CommRing K] [Lean.Grind.CommRing R] {cf : R → Nat → K} {deg : R → Nat} {mon : R → Prop} {X : R} {Cc : K → R} {Kl : List R} {q : Nat} (hR : PR cf deg mon X Cc Kl q) {D : R → R} (hD : DR cf D) (a b : R) : D (a * b) = D a * b + a * D b := pr_ext hR (fun i => by
  rw [hD, pr_add hR, pr_mul hR, pr_mul hR, pr_mul hR, pd_pm, hD, hD])
theorem P_sqr_l {K : Type} [Lean.Grind.CommRing K] {cd : K → Int32} {E : Nat → Int32} {kk : Int32} {md : Nat → Int32} (hC : CX cd E kk md) {a : Fin 20} (ha : ¬ a = 5) {f : Nat → K} (k : Int32 → (Fin 20 → Nat → Int32) → Option (Fin 20 → Nat → Int32)) (fu : Nat) (x2 : Fin 20) : ∀ (s n : Nat) (M : Fin 20 → Nat → Int32), s ≤ 16 → RW cd (M a) f → RW cd (M 5) (fun t => if s ≤ t + 1 then pd f t else 0) → s < n → ∃ y M', f_X1_findSquares_l12 k fu E a x2 n (dI s) M = k y M' ∧ (∀ q, ¬ q = 5 → M' q = M q) ∧ RW cd (M' 5) (pd f) := by
  intro s
  induction s with
  | zero =>
    intro n M hs hf h5 hn
    obtain ⟨n, rfl⟩ : ∃ n', n = n' + 1 := ⟨n - 1, by omega⟩
    refine ⟨dI 0, M, by rw [f_X1_findSquares_l12, if_pos (by decide)], fun _ _ => rfl, RW_c h5 (fun t => if_pos (by omega))⟩
  | succ s ih =>
    intro n M hs hf h5 hn
    obtain ⟨n, rfl⟩ : ∃ n', n = n' + 1 := ⟨n - 1, by omega⟩
    cases s with
    | zero => refine ⟨dI 1, M, by rw [f_X1_findSquares_l12, if_pos (by decide)], fun _ _ => rfl, RW_c h5 (fun t => if_pos (by omega))⟩
    | succ s =>
      rw [f_X1_findSquares_l12, dI_s, if_neg (nI_nle (by omega) (by omega)), P_get hC hf (by omega), Option.bind_some, ← cd_n hC (s + 1) (by omega), hC.2.2.2.2.1, cd_n hC (s + 1) (by omega), Option.bind_some, nI_pred, P_set M 5 (by omega), Option.bind_some, dI_m]
      obtain ⟨y, M', h1, h2, h3⟩ := ih n _ (by omega) (show RW cd ((fup M 5 (upd (M 5) s (cd (pd f s)))) a) f by rw [fup_n _ _ ha]; exact hf) (by
        rw [fup_s]
        refine RW_upd h5 (by omega) (if_pos (by omega)) (fun t ht => ?_)
        by_cases c1 : s + 1 + 1 ≤ t + 1
        · rw [if_pos c1, if_pos (by omega)]
        · rw [if_neg c1, if_neg (by omega)]) (by omega)
      exact ⟨y, M', h1, fun q hq => by rw [h2 q hq, fup_n _ _ hq], h3⟩
theorem P_sqr {K R : Type} [Lean.Grind.CommRing K] [Lean.Grind.CommRing R] {cd : K → Int32} {E : Nat → Int32} {kk : Int32} {md : Nat → Int32} (hC : CX cd E kk md) {cf : R → Nat → K} {deg : R → Nat} {mon : R → Prop} {X : R} {Cc : K → R} {Kl : List R} {q : Nat} (hR : PR cf deg mon X Cc Kl q) {mn : Int64} (hF : FX K q E mn) {D : R → R} (hD : DR cf D) {M : Fin 20 → Nat → Int32} {x1 x2 : Fin 20} (d1 : ¬ x1 = 3 ∧ ¬ x1 = 5) (d3 : ¬ x2 = 2 ∧ ¬ x2 = 3 ∧ ¬ x2 = 4) {a : R} (ha : RW cd (M x1) (cf a)) {fu : Nat} (hfu : 32 ≤ fu) : ∃ M' g, f_X1_findSquares fu M E x1 x2 = some M' ∧ (∀ x, ¬ x = 2 → ¬ x = 3 → ¬ x = 4 → ¬ x = 5 → ¬ x = x2 → M' x = M x) ∧ RW cd (M' x2) (cf g) ∧ GC mon a (D a) g := by
  unfold f_X1_findSquares
  obtain ⟨M1, h1, h2, h3⟩ := P_clear hC M 5 (show 17 ≤ fu by omega)
  have ha1 : RW cd (M1 x1) (cf a) := by rw [h2 x1 d1.2]; exact ha
  have hs := sq_le ha.1
  have hd := sq_dl ha.1
  rw [h1, Option.bind_some, P_deg hC ha1 (by omega), Option.bind_some]
  obtain ⟨y, M2, k1, k2, k3⟩ := P_sqr_l hC d1.2 (fun y12 M13 => (f_X1_findCommon fu M13 E x1 (5 : Fin 20) x2).bind (fun u14 => some u14)) fu x2 (sq (cf a)) fu M1 hs ha1 (RW_c h3 (fun t => by
    by_cases c : sq (cf a) ≤ t + 1
    · rw [if_pos c]
      show 0 = OfNat.ofNat (t + 1) * cf a (t + 1)
      rw [hd (t + 1) c]; grind
    · rw [if_neg c])) (by omega)
  rw [k1]
  obtain ⟨M3, g, l1, l2, l3, l4⟩ := P_gcd hC hR hF (x1 := x1) (x2 := 5) (x3 := x2) d1.1 (by decide) d3 (by rw [k2 x1 d1.2]; exact ha1) (by rw [hD a]; exact k3 : RW cd (M2 5) (cf (D a))) hfu
  show ∃ M' g, (f_X1_findCommon fu M2 E x1 (5 : Fin 20) x2).bind (fun u14 => some u14) = some M' ∧ _
  rw [l1]
  exact ⟨M3, g, rfl, fun x e2 e3 e4 e5 e6 => by rw [l2 x e2 e3 e4 e6, k2 x e5, h2 x e5], l3, l4⟩
theorem pr_lin {K R : Type} [Lean.Grind.CommRing K] [Lean.Grind.CommRing R] {cf : R → Nat → K} {deg : R → Nat} {mon : R → Prop} {X : R} {Cc : K → R} {Kl : List R} {q : Nat} (hR : PR cf deg mon X Cc Kl q) (c : K) (a : R) : cf ((X + Cc c) * a) = lin c (cf a) := by
  funext t
  rw [pr_mul hR, show cf (X + Cc c) = fun i => xp 1 i + pc c i from funext (fun i => by rw [pr_add hR, pr_X hR, pr_C hR]), pm_add_l, pm_xp, pm_pc]
  show (if 1 ≤ t then cf a (t - 1) else 0) + c * cf a t = (if t = 0 then 0 else cf a (t - 1)) + c * cf a t
  by_cases h : t = 0
  · rw [if_neg (by omega), if_pos h]
  · rw [if_pos (by omega), if_neg h]
theorem pr_sqle {K R : Type} [Lean.Grind.CommRing K] [Lean.Grind.CommRing R] {cf : R → Nat → K} {deg : R → Nat} {mon : R → Prop} {X : R} {Cc : K → R} {Kl : List R} {q : Nat} (hR : PR cf deg mon X Cc Kl q) (a b : R) : sq (cf (a * b)) ≤ sq (cf a) + sq (cf b) - 1 := by
  by_cases ha : a = 0
  · rw [show a * b = 0 by rw [ha]; grind, (pr_sq0 hR 0).mpr rfl]; omega
  by_cases hb : b = 0
  · rw [show a * b = 0 by rw [hb]; grind, (pr_sq0 hR 0).mpr rfl]; omega
  have := pr_sqm hR ha hb
  omega
theorem pr_sqX {K R : Type} [Lean.Grind.CommRing K] [Lean.Grind.CommRing R] {cf : R → Nat → K} {deg : R → Nat} {mon : R → Prop} {X : R} {Cc : K → R} {Kl : List R} {q : Nat} (hR : PR cf deg mon X Cc Kl q) (c : K) : sq (cf (X + Cc c)) ≤ 2 := sq_le (n := 2) (fun i hi => by
  rw [pr_add hR, pr_X hR, pr_C hR]
  show (if i = 1 then 1 else 0) + (if i = 0 then c else 0) = 0
  rw [if_neg (by omega), if_neg (by omega)]; grind)
theorem P_raise_l {K R : Type} [Lean.Grind.CommRing K] [Lean.Grind.CommRing R] {cd : K → Int32} {E : Nat → Int32} {kk : Int32} {md : Nat → Int32} (hC : CX cd E kk md) {cf : R → Nat → K} {deg : R → Nat} {mon : R → Prop} {X : R} {Cc : K → R} {Kl : List R} {q : Nat} (hR : PR cf deg mon X Cc Kl q) {xb xi : Fin 20} (d1 : ¬ xb = 1 ∧ ¬ xb = 2 ∧ ¬ xb = xi) (d2 : ¬ xi = 1 ∧ ¬ xi = 2) {b : R} (hm : mon b) (hb1 : 1 ≤ deg b) (hb8 : deg b ≤ 8) {e : Nat} (he : e < 2 ^ 62) {c : K} (k : Int32 → (Fin 20 → Nat → Int32) → Option (Fin 20 → Nat → Int32)) (fu : Nat) (hfu : 32 ≤ fu) : ∀ (j n : Nat) (M : Fin 20 → Nat → Int32) (r cc : R), j ≤ 41 → RW cd (M xb) (cf b) → RW cd (M xi) (cf r) → (X + Cc c) ^ (e / 2 ^ j) = cc * b + r → sq (cf r) < sq (cf b) → j < n → ∃ y M' r' cc', f_X1_raiseLinear_l9 k fu E (cd c) (lN e) xb xi n (dI j) M = k y M' ∧ (∀ q, ¬ q = 1 → ¬ q = 2 → ¬ q = xi → M' q = M q) ∧ RW cd (M' xi) (cf r') ∧ (X + Cc c) ^ e = cc' * b + r' ∧ sq (cf r') < sq (cf b) := by
  have hsb := (pr_mo hR hm).2
  intro j
  induction j with
  | zero =>
    intro n M r cc hj hb hr h1 h2 hn
    obtain ⟨n, rfl⟩ : ∃ n', n = n' + 1 := ⟨n - 1, by omega⟩
    refine ⟨dI 0, M, r, cc, by rw [f_X1_raiseLinear_l9, if_pos dI_neg], fun _ _ _ _ => rfl, hr, ?_, h2⟩
    rw [← h1, show e / 2 ^ 0 = e by omega]
  | succ j ih =>
    intro n M r cc hj hb hr h1 h2 hn
    obtain ⟨n, rfl⟩ : ∃ n', n = n' + 1 := ⟨n - 1, by omega⟩
    have hE : e / 2 ^ j / 2 = e / 2 ^ (j + 1) := by rw [Nat.div_div_eq_div_mul, ← Nat.pow_succ]
    have hlt : e / 2 ^ j < 2 ^ 62 := Nat.lt_of_le_of_lt (Nat.div_le_self _ _) he
    rw [f_X1_raiseLinear_l9, dI_s, if_neg (nI_pos (by omega)), lN_sh he (by omega), wb_a1 (by omega)]
    by_cases z : e / 2 ^ j = 0
    · rw [if_pos ((lN_c0 hlt).mpr z), Option.bind_some, dI_m]
      exact ih n M r cc (by omega) hb hr (by rw [z]; rw [← hE, z] at h1; exact h1) h2 (by omega)
    · rw [if_neg (fun q => z ((lN_c0 hlt).mp q))]
      obtain ⟨M1, m1, m2, m3⟩ := P_mul hC d2.1 d2.1 hr hr (by omega) (show 17 ≤ fu by omega)
      rw [← pr_mul hR] at m3
      have hs1 := pr_sqle hR r r
      rw [m1, Option.bind_some]
      have two : ∃ M2 r2 cc2, (if (lg_cmp (lN (e / 2 ^ j % 2)) 1) = 0 then (f_X1_multiplyLinear fu M1 E xi (cd c)).bind (fun u10 => some u10) else some M1 : Option (Fin 20 → Nat → Int32)) = some M2 ∧ (∀ q, ¬ q = xi → M2 q = M1 q) ∧ RW cd (M2 xi) (cf r2) ∧ (X + Cc c) ^ (e / 2 ^ j) = cc2 * b + r2 := by
        have sqr : (X + Cc c) ^ (2 * (e / 2 ^ (j + 1))) = (cc * b + r) * (cc * b + r) := by rw [← h1, ← pow_add', show e / 2 ^ (j + 1) + e / 2 ^ (j + 1) = 2 * (e / 2 ^ (j + 1)) by omega]
        by_cases o : e / 2 ^ j % 2 = 1
        · rw [if_pos ((lN_c1 _).mpr o)]
          obtain ⟨M2, n1, n2, n3⟩ := P_lin hC m3 (by omega) c (show 18 ≤ fu by omega)
          rw [n1]
          refine ⟨M2, (X + Cc c) * (r * r), (X + Cc c) * (cc * cc * b + 2 * (cc * r)), rfl, n2, by rw [pr_lin hR]; exact n3, ?_⟩
          rw [show e / 2 ^ j = 2 * (e / 2 ^ (j + 1)) + 1 by omega, Lean.Grind.Semiring.pow_succ, sqr]; grind
        · rw [if_neg (fun q => o ((lN_c1 _).mp q))]
          refine ⟨M1, r * r, cc * cc * b + 2 * (cc * r), rfl, fun _ _ => rfl, m3, ?_⟩
          rw [show e / 2 ^ j = 2 * (e / 2 ^ (j + 1)) by omega, sqr]; grind
      obtain ⟨M2, r2, cc2, t1, t2, t3, t4⟩ := two
      rw [t1, Option.bind_some]
      obtain ⟨M3, qq, r3, u1, u2, u3, u4, u5, u6⟩ := P_divR hC hR d1.2.2 d2.2 d1.2.1 t3 (by rw [t2 xb d1.2.2, m2 xb d1.1 d1.2.2]; exact hb) hm (show 18 ≤ fu by omega)
      rw [u1, Option.bind_some, Option.bind_some, dI_m]
      obtain ⟨y, M', r', cc', v1, v2, v3, v4, v5⟩ := ih n M3 r3 (cc2 + qq) (by omega) (by rw [u2 xb d1.2.1 d1.2.2, t2 xb d1.2.2, m2 xb d1.1 d1.2.2]; exact hb) u4 (by rw [t4, u5]; grind) u6 (by omega)
      exact ⟨y, M', r', cc', v1, fun x e1 e2 e3 => by rw [v2 x e1 e2 e3, u2 x e2 e3, t2 x e3, m2 x e1 e3], v3, v4, v5⟩
theorem P_raise {K R : Type} [Lean.Grind.CommRing K] [Lean.Grind.CommRing R] {cd : K → Int32} {E : Nat → Int32} {kk : Int32} {md : Nat → Int32} (hC : CX cd E kk md) {cf : R → Nat → K} {deg : R → Nat} {mon : R → Prop} {X : R} {Cc : K → R} {Kl : List R} {q : Nat} (hR : PR cf deg mon X Cc Kl q) {M : Fin 20 → Nat → Int32} {xb xi : Fin 20} (d1 : ¬ xb = 1 ∧ ¬ xb = 2 ∧ ¬ xb = xi) (d2 : ¬ xi = 1 ∧ ¬ xi = 2) {b : R} (hb : RW cd (M xb) (cf b)) (hm : mon b) (hb1 : 1 ≤ deg b) (hb8 : deg b ≤ 8) {e : Nat} (he : e < 2 ^ 41) (c : K) {fu : Nat} (hfu : 42 ≤ fu) : ∃ M' r cc, f_X1_raiseLinear fu M E (cd c) (lN e) xb xi = some M' ∧ (∀ q, ¬ q = 1 → ¬ q = 2 → ¬ q = xi → M' q = M q) ∧ RW cd (M' xi) (cf r) ∧ (X + Cc c) ^ e = cc * b + r ∧ sq (cf r) < sq (cf b) := by
  unfold f_X1_raiseLinear
  obtain ⟨M1, h1, h2, h3⟩ := P_one hC M xi (show 17 ≤ fu by omega)
  have hsb := (pr_mo hR hm).2
  rw [← pr_1 hR] at h3
  have s1 : sq (cf (1 : R)) = 1 := by rw [pr_sq hR (pr_eu hR).2.2.2.2.1.1, (pr_eu hR).2.2.2.2.1.2.2]
  obtain ⟨y, M', r, cc, v1, v2, v3, v4, v5⟩ := P_raise_l hC hR d1 d2 hm hb1 hb8 (e := e) (by omega) (c := c) (fun y14 M15 => some M15) fu (by omega) 41 fu M1 1 0 (by omega) (by rw [h2 xb d1.2.2]; exact hb) h3 (by rw [Nat.div_eq_of_lt he, Lean.Grind.Semiring.pow_zero]; grind) (by omega) (by omega)
  rw [h1, Option.bind_some]
  exact ⟨M', r, cc, v1, fun x e1 e2 e3 => by rw [v2 x e1 e2 e3, h2 x e3], v3, v4, v5⟩
