/-! Norms, least polynomials and shifts, as the class comes to them. -/
def MR {K R : Type} [Lean.Grind.CommRing K] (cf : R → Nat → K) (F : R → R) : Prop := ∀ a, cf (F a) = fun t => (cf a t) ^ 101
theorem z101 {K : Type} [Lean.Grind.CommRing K] : (0 : K) ^ 101 = 0 := by rw [Lean.Grind.Semiring.pow_succ]; grind
theorem pr_F {K R : Type} [Lean.Grind.CommRing K] [Lean.Grind.CommRing R] {cf : R → Nat → K} {deg : R → Nat} {mon : R → Prop} {X : R} {Cc : K → R} {Kl : List R} {q : Nat} (hR : PR cf deg mon X Cc Kl q) : ∃ F : R → R, MR cf F := by
  have h : ∀ a, dl (fun t => (cf a t) ^ 101) (sq (cf a)) := fun a i hi => by
    show (cf a i) ^ 101 = 0
    rw [pr_dl hR a i hi, z101]
  exact ⟨fun a => (pr_ex hR (h a)).choose, fun a => (pr_ex hR (h a)).choose_spec⟩
def it {R : Type} (F : R → R) : Nat → R → R
  | 0, a => a
  | n + 1, a => F (it F n a)
def nr {R : Type} [Lean.Grind.CommRing R] (F : R → R) (a : R) : Nat → R
  | 0 => a
  | n + 1 => nr F a n * it F (n + 1) a
theorem it_dl {K R : Type} [Lean.Grind.CommRing K] [Lean.Grind.CommRing R] {cf : R → Nat → K} {deg : R → Nat} {mon : R → Prop} {X : R} {Cc : K → R} {Kl : List R} {q : Nat} (hR : PR cf deg mon X Cc Kl q) {F : R → R} (hM : MR cf F) (a : R) (n : Nat) : dl (cf (it F n a)) (sq (cf a)) := by
  induction n with
  | zero => exact pr_dl hR a
  | succ n ih =>
    intro i hi
    show cf (F (it F n a)) i = 0
    rw [hM]
    show (cf (it F n a) i) ^ 101 = 0
    rw [ih i hi, z101]
theorem nr_sq {K R : Type} [Lean.Grind.CommRing K] [Lean.Grind.CommRing R] {cf : R → Nat → K} {deg : R → Nat} {mon : R → Prop} {X : R} {Cc : K → R} {Kl : List R} {q : Nat} (hR : PR cf deg mon X Cc Kl q) {F : R → R} (hM : MR cf F) (a : R) (n : Nat) : sq (cf (nr F a n)) ≤ (n + 1) * (sq (cf a) - 1) + 1 := by
  induction n with
  | zero => show sq (cf a) ≤ _; omega
  | succ n ih =>
    have h1 := pr_sqle hR (nr F a n) (it F (n + 1) a)
    have h2 := sq_le (it_dl hR hM a (n + 1))
    show sq (cf (nr F a n * it F (n + 1) a)) ≤ _
    rw [Nat.add_mul (n + 1) 1]
    omega
theorem P_norm_i {K : Type} [Lean.Grind.CommRing K] {cd : K → Int32} {E : Nat → Int32} {kk : Int32} {md : Nat → Int32} {mn : Int64} {q k : Nat} {T : K} (hL : FL cd E kk md mn q k T) {g : Nat → K} {s : Nat} (hs : s ≤ 16) (hd : dl g s) (kc : Int32 → (Fin 20 → Nat → Int32) → Option (Fin 20 × (Fin 20 → Nat → Int32))) (fu : Nat) (x1 : Fin 20) (x3 : Int32) : ∀ (e j n : Nat) (M : Fin 20 → Nat → Int32), e + j = s → RW cd (M 6) (fun t => if t < j then (g t) ^ 101 else g t) → e < n → ∃ y M', f_X1_normOf_l37 kc fu E x1 (dI s) x3 n (nI j) M = kc y M' ∧ (∀ q, ¬ q = 6 → M' q = M q) ∧ RW cd (M' 6) (fun t => (g t) ^ 101) := by
  intro e
  induction e with
  | zero =>
    intro j n M hj h6 hn
    obtain ⟨n, rfl⟩ : ∃ n', n = n' + 1 := ⟨n - 1, by omega⟩
    refine ⟨nI j, M, by rw [f_X1_normOf_l37, if_pos ((dI_lt (by omega) (by omega)).mpr (by omega))], fun _ _ => rfl, RW_c h6 (fun t => ?_)⟩
    by_cases c : t < j
    · rw [if_pos c]
    · rw [if_neg c, hd t (by omega), z101]
  | succ e ih =>
    intro j n M hj h6 hn
    obtain ⟨n, rfl⟩ : ∃ n', n = n' + 1 := ⟨n - 1, by omega⟩
    rw [f_X1_normOf_l37, if_neg (fun q => by have := (dI_lt (by omega) (by omega)).mp q; omega), P_get hL.1 h6 (by omega), Option.bind_some, if_neg (by omega), P_mate hL, Option.bind_some, P_set M 6 (by omega), Option.bind_some, nI_1]
    obtain ⟨y, M', h1, h2, h3⟩ := ih (j + 1) n _ (by omega) (show RW cd ((fup M 6 (upd (M 6) j (cd (g j ^ 101)))) 6) _ by
      rw [fup_s]
      refine RW_upd h6 (by omega) (if_pos (by omega)) (fun t ht => ?_)
      by_cases c1 : t < j
      · rw [if_pos c1, if_pos (by omega)]
      · rw [if_neg c1, if_neg (by omega)]) (by omega)
    exact ⟨y, M', h1, fun q hq => by rw [h2 q hq, fup_n _ _ hq], h3⟩
theorem P_norm_o {K R : Type} [Lean.Grind.CommRing K] [Lean.Grind.CommRing R] {cd : K → Int32} {E : Nat → Int32} {kk : Int32} {md : Nat → Int32} {mn : Int64} {q k : Nat} {T : K} (hL : FL cd E kk md mn q k T) {cf : R → Nat → K} {deg : R → Nat} {mon : R → Prop} {X : R} {Cc : K → R} {Kl : List R} (hR : PR cf deg mon X Cc Kl q) {F : R → R} (hM : MR cf F) {a : R} (ha : sq (cf a) ≤ 6) (kc : Int32 → (Fin 20 → Nat → Int32) → Option (Fin 20 × (Fin 20 → Nat → Int32))) (fu : Nat) (hfu : 18 ≤ fu) (x1 : Fin 20) : ∀ (d i n : Nat) (M : Fin 20 → Nat → Int32), d + i + 1 = k → RW cd (M 7) (cf (nr F a i)) → RW cd (M 6) (cf (it F i a)) → d < n → ∃ y M', f_X1_normOf_l23 kc fu E x1 (dI (sq (cf a))) n (nI (i + 1)) M = kc y M' ∧ (∀ q, ¬ q = 1 → ¬ q = 6 → ¬ q = 7 → M' q = M q) ∧ RW cd (M' 7) (cf (nr F a (k - 1))) := by
  obtain ⟨hE0, _, hk1, hk3, _⟩ := hL.2.2.2.1
  intro d
  induction d with
  | zero =>
    intro i n M hi h7 h6 hn
    obtain ⟨n, rfl⟩ : ∃ n', n = n' + 1 := ⟨n - 1, by omega⟩
    refine ⟨nI (i + 1), M, by rw [f_X1_normOf_l23, hE0, if_pos (nI_le (by omega) (by omega))], fun _ _ _ _ => rfl, ?_⟩
    rw [show k - 1 = i by omega]; exact h7
  | succ d ih =>
    intro i n M hi h7 h6 hn
    obtain ⟨n, rfl⟩ : ∃ n', n = n' + 1 := ⟨n - 1, by omega⟩
    rw [f_X1_normOf_l23, hE0, if_neg (nI_ge (by omega) (by omega))]
    have hn1 := nr_sq hR hM a i
    have hn2 := sq_le (it_dl hR hM a (i + 1))
    have hi2 : (i + 1) * (sq (cf a) - 1) ≤ (i + 1) * 5 := Nat.mul_le_mul_left _ (by omega)
    obtain ⟨y, M1, k1, k2, k3⟩ := P_norm_i hL (s := sq (cf a)) (by omega) (it_dl hR hM a i) (fun y15 M16 => (f_X1_multiply fu M16 E (7 : Fin 20) (6 : Fin 20)).bind (fun u17 => f_X1_normOf_l23 kc fu E x1 (dI (sq (cf a))) n (nI (i + 1) + 1) u17)) fu x1 (nI (i + 1)) (sq (cf a)) 0 fu M (by omega) (RW_c h6 (fun t => (if_neg (by omega)).symm)) (by omega)
    rw [show (0 : Int32) = nI 0 from rfl, k1]
    have k3' : RW cd (M1 6) (cf (it F (i + 1) a)) := by show RW cd (M1 6) (cf (F (it F i a))); rw [hM]; exact k3
    obtain ⟨M2, l1, l2, l3⟩ := P_mul hL.1 (a := 7) (b := 6) (by decide) (by decide) (by rw [k2 7 (by decide)]; exact h7) k3' (by omega) (show 17 ≤ fu by omega)
    rw [← pr_mul hR] at l3
    show ∃ y M', (f_X1_multiply fu M1 E (7 : Fin 20) (6 : Fin 20)).bind (fun u17 => f_X1_normOf_l23 kc fu E x1 (dI (sq (cf a))) n (nI (i + 1) + 1) u17) = kc y M' ∧ _
    rw [l1, Option.bind_some, nI_1]
    obtain ⟨y2, M3, m1, m2, m3⟩ := ih (i + 1) n M2 (by omega) l3 (by rw [l2 6 (by decide) (by decide)]; exact k3') (by omega)
    exact ⟨y2, M3, m1, fun q e1 e6 e7 => by rw [m2 q e1 e6 e7, l2 q e1 e7, k2 q e6], m3⟩
theorem P_norm {K R : Type} [Lean.Grind.CommRing K] [Lean.Grind.CommRing R] {cd : K → Int32} {E : Nat → Int32} {kk : Int32} {md : Nat → Int32} {mn : Int64} {q k : Nat} {T : K} (hL : FL cd E kk md mn q k T) {cf : R → Nat → K} {deg : R → Nat} {mon : R → Prop} {X : R} {Cc : K → R} {Kl : List R} (hR : PR cf deg mon X Cc Kl q) {F : R → R} (hM : MR cf F) {M : Fin 20 → Nat → Int32} {x : Fin 20} (hx : ¬ x = 7 ∧ ¬ x = 6) {a : R} (h : RW cd (M x) (cf a)) (ha : sq (cf a) ≤ 6) {fu : Nat} (hfu : 18 ≤ fu) : ∃ M', f_X1_normOf fu M E x = some (7, M') ∧ (∀ q, ¬ q = 1 → ¬ q = 6 → ¬ q = 7 → M' q = M q) ∧ RW cd (M' 7) (cf (nr F a (k - 1))) := by
  obtain ⟨hE0, _, hk1, hk3, _⟩ := hL.2.2.2.1
  unfold f_X1_normOf
  obtain ⟨M1, h1, h2, h3⟩ := P_copy hL.1 hx.1 h (r := 7) (show 17 ≤ fu by omega)
  obtain ⟨M2, k1, k2, k3⟩ := P_copy hL.1 hx.2 (M := M1) (by rw [h2 x hx.1]; exact h) (r := 6) (show 17 ≤ fu by omega)
  rw [h1, Option.bind_some, k1, Option.bind_some, P_deg hL.1 (M := M2) (r := x) (f := cf a) (by rw [k2 x hx.2, h2 x hx.1]; exact h) (by omega), Option.bind_some]
  obtain ⟨y, M3, l1, l2, l3⟩ := P_norm_o hL hR hM ha (fun y19 M20 => some ((7 : Fin 20), M20)) fu hfu x (k - 1) 0 fu M2 (by omega) (by rw [k2 7 (by decide)]; exact h3) k3 (by omega)
  exact ⟨M3, l1, fun q e1 e6 e7 => by rw [l2 q e1 e6 e7, k2 q e6, h2 q e7], l3⟩
/-- x less each of the first n mates -/
def mpol {K R : Type} [Lean.Grind.CommRing K] [Lean.Grind.CommRing R] (X : R) (Cc : K → R) (a : K) : Nat → R
  | 0 => 1
  | n + 1 => (X + Cc (0 - mt a n)) * mpol X Cc a n
theorem mpol_sq {K R : Type} [Lean.Grind.CommRing K] [Lean.Grind.CommRing R] {cf : R → Nat → K} {deg : R → Nat} {mon : R → Prop} {X : R} {Cc : K → R} {Kl : List R} {q : Nat} (hR : PR cf deg mon X Cc Kl q) (a : K) (n : Nat) : sq (cf (mpol X Cc a n)) ≤ n + 1 := by
  induction n with
  | zero =>
    show sq (cf 1) ≤ _
    rw [pr_sq hR (pr_eu hR).2.2.2.2.1.1, (pr_eu hR).2.2.2.2.1.2.2]; omega
  | succ n ih =>
    have h1 := pr_sqle hR (X + Cc (0 - mt a n)) (mpol X Cc a n)
    have h2 := pr_sqX hR (0 - mt a n)
    show sq (cf ((X + Cc (0 - mt a n)) * mpol X Cc a n)) ≤ _
    omega
theorem P_least {K R : Type} [Lean.Grind.CommRing K] [Lean.Grind.CommRing R] {cd : K → Int32} {E : Nat → Int32} {kk : Int32} {md : Nat → Int32} {mn : Int64} {q k : Nat} {T : K} (hL : FL cd E kk md mn q k T) {cf : R → Nat → K} {deg : R → Nat} {mon : R → Prop} {X : R} {Cc : K → R} {Kl : List R} (hR : PR cf deg mon X Cc Kl q) (M : Fin 20 → Nat → Int32) {a : K} {N : Nat} (hN : N ≤ 3) (hd : f_X0_differentMates E (cd a) = some (nI N)) {fu : Nat} (hfu : 18 ≤ fu) : ∃ M', f_X1_leastPolynomial fu M E (cd a) = some (9, M') ∧ (∀ q, ¬ q = 9 → M' q = M q) ∧ RW cd (M' 9) (cf (mpol X Cc a N)) := by
  unfold f_X1_leastPolynomial
  obtain ⟨M1, h1, h2, h3⟩ := P_one hL.1 M 9 (show 17 ≤ fu by omega)
  rw [hd, Option.bind_some, h1, Option.bind_some]
  have : ∀ (d i n : Nat) (M : Fin 20 → Nat → Int32), d + i = N → RW cd (M 9) (cf (mpol X Cc a i)) → d < n → ∃ M', f_X1_leastPolynomial_l21 (fun y12 y13 M14 => some ((9 : Fin 20), M14)) fu E (cd a) (nI N) n (cd (mt a i)) (nI i) M = some (9, M') ∧ (∀ q, ¬ q = 9 → M' q = M q) ∧ RW cd (M' 9) (cf (mpol X Cc a N)) := by
    intro d
    induction d with
    | zero =>
      intro i n M hi h9 hn
      obtain ⟨n, rfl⟩ : ∃ n', n = n' + 1 := ⟨n - 1, by omega⟩
      have e : i = N := by omega
      subst e
      exact ⟨M, by rw [f_X1_leastPolynomial_l21, if_pos (nI_le (by omega) (by omega))], fun _ _ => rfl, h9⟩
    | succ d ih =>
      intro i n M hi h9 hn
      obtain ⟨n, rfl⟩ : ∃ n', n = n' + 1 := ⟨n - 1, by omega⟩
      have hs := mpol_sq hR a i
      rw [f_X1_leastPolynomial_l21, if_neg (nI_ge (by omega) (by omega)), ← hL.1.2.1.1, hL.1.2.2.2.1, Option.bind_some]
      obtain ⟨M2, l1, l2, l3⟩ := P_lin hL.1 h9 (by omega) (0 - mt a i) (show 18 ≤ fu by omega)
      rw [← pr_lin hR] at l3
      rw [l1, Option.bind_some, P_mate hL, Option.bind_some, nI_1, ← mt_s]
      obtain ⟨M3, m1, m2, m3⟩ := ih (i + 1) n M2 (by omega) l3 (by omega)
      exact ⟨M3, m1, fun q hq => by rw [m2 q hq, l2 q hq], m3⟩
  obtain ⟨M2, m1, m2, m3⟩ := this N 0 fu M1 (by omega) (by show RW cd (M1 9) (cf 1); rw [pr_1 hR]; exact h3) (by omega)
  rw [mt_0] at m1
  exact ⟨M2, m1, fun q hq => by rw [m2 q hq, h2 q hq], m3⟩
theorem tau_dl {K : Type} [Lean.Grind.CommRing K] (c : K) : ∀ (n : Nat) (f : Nat → K), dl (tau c n f) n := by
  intro n
  induction n with
  | zero => intro f i _; rfl
  | succ n ih =>
    intro f i hi
    show (if i = 0 then f 0 else 0) + ((if i = 0 then 0 else tau c n (sh f) (i - 1)) + c * tau c n (sh f) i) = 0
    rw [if_neg (by omega), if_neg (by omega), ih (sh f) (i - 1) (by omega), ih (sh f) i (by omega)]; grind
/-- by s the norm has a square -/
def SB {K R : Type} [Lean.Grind.CommRing K] [Lean.Grind.CommRing R] (cf : R → Nat → K) (deg : R → Nat) (mon : R → Prop) (D F : R → R) (k : Nat) (T : K) (root : R) (s : Nat) : Prop := ∃ m g, cf m = tau (0 - OfNat.ofNat s * T) 16 (cf root) ∧ GC mon (nr F m (k - 1)) (D (nr F m (k - 1))) g ∧ 0 < deg g
theorem dI_0lt {K R : Type} [Lean.Grind.CommRing K] [Lean.Grind.CommRing R] {cf : R → Nat → K} {deg : R → Nat} {mon : R → Prop} {X : R} {Cc : K → R} {Kl : List R} {q : Nat} (hR : PR cf deg mon X Cc Kl q) {g : R} (h : dl (cf g) 16) : 0 < dI (sq (cf g)) ↔ 0 < deg g := by
  have h0 := sq_le h
  by_cases z : g = 0
  · rw [(pr_sq0 hR g).mpr z, z, pr_d0 hR]
    exact ⟨fun q => absurd q (by decide), fun q => absurd q (by omega)⟩
  · rw [pr_sq hR z, dI_s]
    rw [pr_sq hR z] at h0
    exact nI_ltI (a := 0) (by omega) (by omega)
theorem P_shift_l {K R : Type} [Lean.Grind.CommRing K] [Lean.Grind.CommRing R] {cd : K → Int32} {E : Nat → Int32} {kk : Int32} {md : Nat → Int32} {mn : Int64} {q k : Nat} {T : K} (hL : FL cd E kk md mn q k T) {cf : R → Nat → K} {deg : R → Nat} {mon : R → Prop} {X : R} {Cc : K → R} {Kl : List R} (hR : PR cf deg mon X Cc Kl q) {D F : R → R} (hD : DR cf D) (hM : MR cf F) {root : R} (hr : sq (cf root) ≤ 6) (kc : Int32 → (Fin 20 → Nat → Int32) → Option (Int32 × (Fin 20 → Nat → Int32))) (fu : Nat) (hfu : 32 ≤ fu) : ∀ (d s n : Nat) (M : Fin 20 → Nat → Int32), d + s = 101 → RW cd (M 11) (cf root) → d < n → (∃ s' M', s ≤ s' ∧ s' < 101 ∧ ¬ SB cf deg mon D F k T root s' ∧ (∀ j, s ≤ j → j < s' → SB cf deg mon D F k T root j) ∧ f_X1_leastShift_l2 kc fu E 11 n (nI s) M = some (nI s', M') ∧ (∀ q, ¬ (1 ≤ q.val ∧ q.val ≤ 10) → M' q = M q)) ∨ (∀ j, s ≤ j → j < 101 → SB cf deg mon D F k T root j) := by
  intro d
  induction d with
  | zero =>
    intro s n M hs h hn
    exact Or.inr (fun j h1 h2 => by omega)
  | succ d ih =>
    intro s n M hs h hn
    obtain ⟨n, rfl⟩ : ∃ n', n = n' + 1 := ⟨n - 1, by omega⟩
    rw [f_X1_leastShift_l2, if_neg (show ¬ (101 : Int32) ≤ nI s from nI_ge (b := 101) (by omega) (by decide))]
    obtain ⟨M1, h1, h2, h3⟩ := P_copy hL.1 (r := 8) (b := 11) (by decide) h (show 17 ≤ fu by omega)
    rw [h1, Option.bind_some, ← cd_n hL.1 s (by omega), hL.2.2.2.2.1.1, hL.1.2.2.2.2.1, Option.bind_some, ← hL.1.2.1.1, hL.1.2.2.2.1, Option.bind_some]
    obtain ⟨M2, k1, k2, k3⟩ := P_disp hL.1 h3 (0 - OfNat.ofNat s * T) (show 18 ≤ fu by omega)
    obtain ⟨m, hm⟩ := pr_ex hR k3.1
    rw [← hm] at k3
    have hms : sq (cf m) ≤ 6 := by
      rw [hm, tau_all _ (pr_dl hR root) (by omega)]
      have := sq_le (tau_dl (0 - OfNat.ofNat s * T) (sq (cf root)) (cf root))
      omega
    obtain ⟨M3, l1, l2, l3⟩ := P_norm hL hR hM (x := 8) (by decide) k3 hms (show 18 ≤ fu by omega)
    obtain ⟨M4, g, n1, n2, n3, n4⟩ := P_sqr hL.1 hR hL.2.1 hD (x1 := 7) (x2 := 10) (by decide) (by decide) l3 hfu
    have nin : ∀ (q : Fin 20) (v : Nat), ¬ (1 ≤ q.val ∧ q.val ≤ 10) → 1 ≤ v ∧ v ≤ 10 → (hv : v < 20) → ¬ q = ⟨v, hv⟩ := fun q v hq hv h e => hq (by rw [e]; exact hv)
    have fr : ∀ q : Fin 20, ¬ (1 ≤ q.val ∧ q.val ≤ 10) → M4 q = M q := fun q hq => by
      have N := nin q
      rw [n2 q (N 2 hq (by omega) (by omega)) (N 3 hq (by omega) (by omega)) (N 4 hq (by omega) (by omega)) (N 5 hq (by omega) (by omega)) (N 10 hq (by omega) (by omega)), l2 q (N 1 hq (by omega) (by omega)) (N 6 hq (by omega) (by omega)) (N 7 hq (by omega) (by omega)), k2 q (N 8 hq (by omega) (by omega)), h2 q (N 8 hq (by omega) (by omega))]
    rw [k1, Option.bind_some, l1, Option.bind_some, n1, Option.bind_some, P_deg hL.1 n3 (by omega), Option.bind_some]
    by_cases c : 0 < deg g
    · rw [hL.1.2.1.1, if_pos ((dI_0lt hR n3.1).mpr c), cd_n hL.1 s (by omega), nI_1]
      have bad : SB cf deg mon D F k T root s := ⟨m, g, hm, n4, c⟩
      rcases ih (s + 1) n M4 (by omega) (by rw [fr 11 (by decide)]; exact h) (by omega) with ⟨s', M', e1, e2, e3, e4, e5, e6⟩ | e
      · exact Or.inl ⟨s', M', by omega, e2, e3, fun j j1 j2 => by
          by_cases q : j = s
          · rw [q]; exact bad
          · exact e4 j (by omega) j2, e5, fun q hq => by rw [e6 q hq, fr q hq]⟩
      · exact Or.inr (fun j j1 j2 => by
          by_cases q : j = s
          · rw [q]; exact bad
          · exact e j (by omega) j2)
    · rw [hL.1.2.1.1, if_neg (fun q => c ((dI_0lt hR n3.1).mp q)), cd_n hL.1 s (by omega)]
      refine Or.inl ⟨s, M4, by omega, by omega, ?_, fun j j1 j2 => by omega, rfl, fr⟩
      rintro ⟨m', g', q1, q2, q3⟩
      have em : m' = m := pr_ext hR (fun i => by rw [q1, hm])
      rw [em] at q2
      rw [gc_uni (pr_eu hR) q2 n4] at q3
      exact c q3
theorem P_shift {K R : Type} [Lean.Grind.CommRing K] [Lean.Grind.CommRing R] {cd : K → Int32} {E : Nat → Int32} {kk : Int32} {md : Nat → Int32} {mn : Int64} {q k : Nat} {T : K} (hL : FL cd E kk md mn q k T) {cf : R → Nat → K} {deg : R → Nat} {mon : R → Prop} {X : R} {Cc : K → R} {Kl : List R} (hR : PR cf deg mon X Cc Kl q) {D F : R → R} (hD : DR cf D) (hM : MR cf F) {root : R} (hr : sq (cf root) ≤ 6) {M : Fin 20 → Nat → Int32} (h : RW cd (M 11) (cf root)) (hex : ∃ s, s < 101 ∧ ¬ SB cf deg mon D F k T root s) {fu : Nat} (hfu : 102 ≤ fu) : ∃ s M', s < 101 ∧ ¬ SB cf deg mon D F k T root s ∧ (∀ j, j < s → SB cf deg mon D F k T root j) ∧ f_X1_leastShift fu M E 11 = some (nI s, M') ∧ (∀ q, ¬ (1 ≤ q.val ∧ q.val ≤ 10) → M' q = M q) := by
  unfold f_X1_leastShift
  rcases P_shift_l hL hR hD hM hr (fun y17 M18 => some (0, M18)) fu (by omega) 101 0 fu M (by omega) h (by omega) with ⟨s', M', e1, e2, e3, e4, e5, e6⟩ | e
  · exact ⟨s', M', e2, e3, fun j hj => e4 j (by omega) hj, e5, e6⟩
  · obtain ⟨s, s1, s2⟩ := hex
    exact absurd (e s (by omega) s1) s2
