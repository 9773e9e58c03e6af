/-! Norms, least polynomials, values, roots and shifts of the reference. -/
theorem p101 {K : Type} [Lean.Grind.CommRing K] (hK : fld K) {a : K} (n : Nat) (h : ¬ a = 0) : ¬ a ^ n = 0 := by
  induction n with
  | zero => rw [Lean.Grind.Semiring.pow_zero]; exact hK.1
  | succ n ih =>
    rw [Lean.Grind.Semiring.pow_succ]
    exact fun q => (fld_dom hK q).elim ih h
theorem F_sq {K R : Type} [Lean.Grind.CommRing K] [Lean.Grind.CommRing R] {cf : R → Nat → K} {deg : R → Nat} {mon : R → Prop} {X : R} {Cc : K → R} {Kl : List R} {q : Nat} (hR : PR cf deg mon X Cc Kl q) {F : R → R} (hM : MR cf F) (a : R) : sq (cf (F a)) = sq (cf a) := by
  rw [hM]
  rcases sq_cases (pr_dl hR a) with ⟨h1, h2⟩ | ⟨e, h1, h2, h3, h4⟩
  · rw [h1, sq_0 (fun i => by rw [h2 i, z101])]
  · rw [h2]
    refine sq_of (p101 (pr_fld hR) 101 h3) (fun i hi => ?_)
    show cf a i ^ 101 = 0
    rw [h4 i hi, z101]
theorem it_sq {K R : Type} [Lean.Grind.CommRing K] [Lean.Grind.CommRing R] {cf : R → Nat → K} {deg : R → Nat} {mon : R → Prop} {X : R} {Cc : K → R} {Kl : List R} {q : Nat} (hR : PR cf deg mon X Cc Kl q) {F : R → R} (hM : MR cf F) (a : R) (n : Nat) : sq (cf (it F n a)) = sq (cf a) := by
  induction n with
  | zero => rfl
  | succ n ih => show sq (cf (F (it F n a))) = _; rw [F_sq hR hM, ih]
theorem P_rnorm_i {K : Type} [Lean.Grind.CommRing K] {cd : K → Int32} {E : Nat → Int32} {kk : Int32} {md : Nat → Int32} {mn : Int64} {q k : Nat} {T : K} (hL : FL cd E kk md mn q k T) {g : Nat → K} {s : Nat} (hs : s ≤ 16) (hd : dl g s) (kc : Int32 → (Nat → Int32) → Option ((Nat → Int32) × (Nat → Int32))) (fu : Nat) (hfu : 64 ≤ fu) {dg : (Nat → Int32)} (hdg : dg 2 = dI s) (x1 x2 x3 : Int32) : ∀ (e j n : Nat) (rw : (Nat → Int32)), e + j = s → RW cd (rv rw 2) (fun t => if t < j then (g t) ^ 101 else g t) → e < n → ∃ y rw', f_X5_normOf_l25 kc fu kk md dg x1 x2 x3 n (nI j) rw = kc y rw' ∧ (∀ r, ¬ r = 2 → ∀ t, t < 16 → rv rw' r t = rv rw r t) ∧ RW cd (rv rw' 2) (fun t => (g t) ^ 101) := by
  have n2 : ¬ ((2 : Int32) < 0 ∨ 25 ≤ (2 : Int32).toNatClampNeg) := by decide
  have c2 : (2 : Int32).toNatClampNeg = 2 := by decide
  intro e
  induction e with
  | zero =>
    intro j n rw hj h hn
    obtain ⟨n, rfl⟩ : ∃ n', n = n' + 1 := ⟨n - 1, by omega⟩
    refine ⟨nI j, rw, by rw [f_X5_normOf_l25, if_neg n2, c2, hdg, if_pos ((dI_lt (by omega) (by omega)).mpr (by omega))], fun _ _ _ _ => rfl, RW_c h (fun t => ?_)⟩
    by_cases c : t < j
    · rw [if_pos c]
    · rw [if_neg c, hd t (by omega), z101]
  | succ e ih =>
    intro j n rw hj h hn
    obtain ⟨n, rfl⟩ : ∃ n', n = n' + 1 := ⟨n - 1, by omega⟩
    have ie : (32 : Int32) + nI j = nI (16 * 2 + j) := by rw [show (32 : Int32) = nI 32 from rfl, nI_add]
    have mt1 : f_X5_mate fu kk md (cd (g j)) 1 = some (cd (g j ^ 101)) := by
      have := P_rmate hL.1 hfu (g j) (N := 1) (by omega)
      rw [mt_s, mt_0] at this
      exact this
    rw [f_X5_normOf_l25, if_neg n2, c2, hdg, if_neg (fun q => by have := (dI_lt (by omega) (by omega)).mp q; omega), P_rget (x := 2) (r := 2) rfl rfl (by omega) (by omega) h, Option.bind_some, if_neg (by omega), mt1, Option.bind_some, ie, if_neg (in400 (by omega)), nI_clamp (by omega), nI_1]
    obtain ⟨y, rw', h1, h2, h3⟩ := ih (j + 1) n (upd rw (16 * 2 + j) (cd (g j ^ 101))) (by omega) (by
      rw [rv_s]
      refine RW_upd h (by omega) (if_pos (by omega)) (fun t ht => ?_)
      by_cases c1 : t < j
      · rw [if_pos c1, if_pos (by omega)]
      · rw [if_neg c1, if_neg (by omega)]) (by omega)
    exact ⟨y, rw', h1, fun r hr t ht => by rw [h2 r hr t ht, rv_n hr (by omega) t ht], h3⟩
theorem P_rnorm_o {K R : Type} [Lean.Grind.CommRing K] [Lean.Grind.CommRing R] {cd : K → Int32} {E : Nat → Int32} {kk : Int32} {md : Nat → Int32} {mn : Int64} {q k : Nat} {T : K} (hL : FL cd E kk md mn q k T) {cf : R → Nat → K} {deg : R → Nat} {mon : R → Prop} {X : R} {Cc : K → R} {Kl : List R} (hR : PR cf deg mon X Cc Kl q) {F : R → R} (hM : MR cf F) {a : R} (ha : sq (cf a) ≤ 6) (kc : Int32 → (Nat → Int32) → (Nat → Int32) → Option ((Nat → Int32) × (Nat → Int32))) (fu : Nat) (hfu : 64 ≤ fu) (x1 x2 : Int32) : ∀ (d i n : Nat) (rw dg : (Nat → Int32)), d + i + 1 = k → RX cd rw dg 3 (cf (nr F a i)) → RX cd rw dg 2 (cf (it F i a)) → d < n → ∃ y rw' dg', f_X5_normOf_l14 kc fu kk md x1 x2 n (nI (i + 1)) rw dg = kc y rw' dg' ∧ FR [2, 3, 4] rw dg rw' dg' ∧ RX cd rw' dg' 3 (cf (nr F a (k - 1))) := by
  obtain ⟨_, hkk, hk1, hk3, _⟩ := hL.2.2.2.1
  intro d
  induction d with
  | zero =>
    intro i n rw dg hi h3 h2 hn
    obtain ⟨n, rfl⟩ : ∃ n', n = n' + 1 := ⟨n - 1, by omega⟩
    refine ⟨nI (i + 1), rw, dg, ?_, FR_rf _ _ _, by rw [show k - 1 = i by omega]; exact h3⟩
    have : nI k ≤ nI (i + 1) := nI_le (by omega) (by omega)
    rw [f_X5_normOf_l14, if_pos (by rw [hkk]; exact this)]
  | succ d ih =>
    intro i n rw dg hi h3 h2 hn
    obtain ⟨n, rfl⟩ : ∃ n', n = n' + 1 := ⟨n - 1, by omega⟩
    have hlt : ¬ nI k ≤ nI (i + 1) := nI_ge (by omega) (by omega)
    rw [f_X5_normOf_l14, if_neg (by rw [hkk]; exact hlt)]
    have hn1 := nr_sq hR hM a i
    have hi1 := it_sq hR hM a (i + 1)
    have hi0 := it_sq hR hM a i
    have hi2 : (i + 1) * (sq (cf a) - 1) ≤ (i + 1) * 5 := Nat.mul_le_mul_left _ (by omega)
    have hdg := h2.2
    rw [hi0] at hdg
    obtain ⟨y, rw1, k1, k2, k3⟩ := P_rnorm_i hL (s := sq (cf a)) (by omega) (it_dl hR hM a i) (fun y13 rw14 =>
        (f_X5_product fu kk md rw14 dg 2 3 4).bind (fun u15 =>
        (f_X5_copy fu u15.1 u15.2 4 3).bind (fun u17 =>
        f_X5_normOf_l14 kc fu kk md x1 x2 n (nI (i + 1) + 1) u17.1 u17.2))) fu hfu hdg x1 x2 (nI (i + 1)) (sq (cf a)) 0 fu rw (by omega) (RW_c h2.1 (fun t => (if_neg (by omega)).symm)) (by omega)
    have k3' : RX cd rw1 dg 2 (cf (it F (i + 1) a)) := ⟨by show RW cd (rv rw1 2) (cf (F (it F i a))); rw [hM]; exact k3, by rw [hi1]; exact hdg⟩
    have fr1 : FR [2] rw dg rw1 dg := fun r hr => ⟨k2 r (fun q => hr (by rw [q]; exact List.mem_cons_self)), rfl⟩
    obtain ⟨rw2, dg2, l1, l2, l3⟩ := P_rmul hL.1 hR (x := 2) (y := 3) (z := 4) (a := 2) (b := 3) (c := 4) rfl rfl rfl (by omega) (by omega) (by omega) (by omega) (by omega) k3' (RX_fr fr1 (by decide) h3) (by omega) (show 20 ≤ fu by omega)
    have l3' : RX cd rw2 dg2 4 (cf (nr F a (i + 1))) := by
      show RX cd rw2 dg2 4 (cf (nr F a i * it F (i + 1) a))
      rw [show nr F a i * it F (i + 1) a = it F (i + 1) a * nr F a i by grind]
      exact l3
    obtain ⟨rw3, dg3, m1, m2, m3⟩ := P_rcopy (x := 4) (y := 3) (a := 4) (b := 3) rfl rfl (by omega) (by omega) (by omega) l3' (show 17 ≤ fu by omega)
    obtain ⟨y2, rw4, dg4, n1, n2, n3⟩ := ih (i + 1) n rw3 dg3 (by omega) m3 (RX_fr m2 (by decide) (RX_fr l2 (by decide) k3')) (by omega)
    refine ⟨y2, rw4, dg4, ?_, FR_mo (FR_tr fr1 (FR_tr l2 (FR_tr m2 n2))) (fun r hr => by simp at hr ⊢; omega), n3⟩
    refine k1.trans ?_
    show (f_X5_product fu kk md rw1 dg 2 3 4).bind _ = _
    rw [l1, Option.bind_some]
    show (f_X5_copy fu rw2 dg2 4 3).bind _ = _
    rw [m1, Option.bind_some, nI_1]
    exact n1
theorem P_rnorm {K R : Type} [Lean.Grind.CommRing K] [Lean.Grind.CommRing R] {cd : K → Int32} {E : Nat → Int32} {kk : Int32} {md : Nat → Int32} {mn : Int64} {q k : Nat} {T : K} (hL : FL cd E kk md mn q k T) {cf : R → Nat → K} {deg : R → Nat} {mon : R → Prop} {X : R} {Cc : K → R} {Kl : List R} (hR : PR cf deg mon X Cc Kl q) {F : R → R} (hM : MR cf F) {rw dg : (Nat → Int32)} {x z : Int32} {r c : Nat} (hx : x = nI r) (hz : z = nI c) (hr : r < 25) (hc : c < 25) (hr2 : ¬ r = 3 ∧ ¬ r = 2) (hc3 : ¬ c = 3) {a : R} (h : RX cd rw dg r (cf a)) (ha : sq (cf a) ≤ 6) {fu : Nat} (hfu : 64 ≤ fu) : ∃ rw' dg', f_X5_normOf fu kk md rw dg x z = some (rw', dg') ∧ FR [2, 3, 4, c] rw dg rw' dg' ∧ RX cd rw' dg' c (cf (nr F a (k - 1))) := by
  obtain ⟨_, hkk, hk1, hk3, _⟩ := hL.2.2.2.1
  obtain ⟨rw1, dg1, h1, h2, h3⟩ := P_rcopy (x := x) (y := 3) (a := r) (b := 3) hx rfl hr (by omega) hr2.1 h (show 17 ≤ fu by omega)
  obtain ⟨rw2, dg2, k1, k2, k3⟩ := P_rcopy (x := x) (y := 2) (a := r) (b := 2) hx rfl hr (by omega) hr2.2 (RX_fr h2 (by simp; omega) h) (show 17 ≤ fu by omega)
  obtain ⟨y, rw3, dg3, l1, l2, l3⟩ := P_rnorm_o hL hR hM ha (fun y19 rw20 dg21 => (f_X5_copy fu rw20 dg21 3 z).bind (fun u22 => some (u22.1, u22.2))) fu hfu x z (k - 1) 0 fu rw2 dg2 (by omega) (RX_fr k2 (by decide) h3) k3 (by omega)
  obtain ⟨rw4, dg4, m1, m2, m3⟩ := P_rcopy (x := 3) (y := z) (a := 3) (b := c) rfl hz (by omega) hc (fun e => hc3 e.symm) l3 (show 17 ≤ fu by omega)
  refine ⟨rw4, dg4, ?_, FR_mo (FR_tr h2 (FR_tr k2 (FR_tr l2 m2))) (fun r hr => by simp at hr ⊢; omega), m3⟩
  unfold f_X5_normOf
  rw [h1, Option.bind_some]
  show (f_X5_copy fu rw1 dg1 x 2).bind _ = _
  rw [k1, Option.bind_some]
  refine l1.trans ?_
  show (f_X5_copy fu rw3 dg3 3 z).bind _ = _
  rw [m1, Option.bind_some]
theorem P_rmin {K R : Type} [Lean.Grind.CommRing K] [Lean.Grind.CommRing R] {cd : K → Int32} {E : Nat → Int32} {kk : Int32} {md : Nat → Int32} {mn : Int64} {q k : Nat} {T : K} (hL : FL cd E kk md mn q k T) {cf : R → Nat → K} {deg : R → Nat} {mon : R → Prop} {X : R} {Cc : K → R} {Kl : List R} (hR : PR cf deg mon X Cc Kl q) {a : K} {N : Nat} (hN : N ≤ 3) (kc : Int32 → (Nat → Int32) → (Nat → Int32) → Option (Int32 × Int32 × (Nat → Int32) × (Nat → Int32))) (fu : Nat) (hfu : 64 ≤ fu) (th x2 : Int32) : ∀ (d i n : Nat) (rw dg : (Nat → Int32)), d + i = N → RX cd rw dg 2 (cf (mpol X Cc a i)) → d < n → ∃ y rw' dg', f_X5_minimal_l57 kc fu th kk mn md (cd a) x2 (nI N) n (nI i) rw dg = kc y rw' dg' ∧ FR [2, 3, 4] rw dg rw' dg' ∧ RX cd rw' dg' 2 (cf (mpol X Cc a N)) := by
  intro d
  induction d with
  | zero =>
    intro i n rw dg hi h hn
    obtain ⟨n, rfl⟩ : ∃ n', n = n' + 1 := ⟨n - 1, by omega⟩
    have e : i = N := by omega
    subst e
    exact ⟨nI i, rw, dg, by rw [f_X5_minimal_l57, if_pos (nI_le (by omega) (by omega))], FR_rf _ _ _, h⟩
  | succ d ih =>
    intro i n rw dg hi h hn
    obtain ⟨n, rfl⟩ : ∃ n', n = n' + 1 := ⟨n - 1, by omega⟩
    have hs := mpol_sq hR a i
    have hsX := pr_sqX hR (0 - mt a i)
    obtain ⟨rw1, dg1, h1, h2, h3⟩ := P_rclear hL.1 rw dg (x := 3) (r := 3) rfl (by omega) (show 17 ≤ fu by omega)
    obtain ⟨rw2, dg2, k1, k2, k3⟩ := P_rset hL.1 dg1 (x := 3) (y := 0) (z := cd (- mt a i)) (r := 3) (i := 0) (a := - mt a i) (g := fun t => if t = 0 then - mt a i else 0) rfl rfl (by omega) (by omega) rfl h3.1 rfl (fun j hj => if_neg hj) (show 17 ≤ fu by omega)
    obtain ⟨rw3, dg3, l1, l2, l3⟩ := P_rset hL.1 dg2 (x := 3) (y := 1) (z := 1) (r := 3) (i := 1) (a := 1) (g := cf (X + Cc (0 - mt a i))) rfl rfl (by omega) (by omega) hL.1.2.1.2.symm k3.1 (by
      rw [pr_add hR, pr_X hR, pr_C hR]
      show (1 : K) + 0 = 1
      grind) (fun j hj => by
      rw [pr_add hR, pr_X hR, pr_C hR]
      show (if j = 1 then 1 else 0) + (if j = 0 then 0 - mt a i else 0) = if j = 0 then - mt a i else 0
      rw [if_neg hj]
      by_cases q : j = 0
      · rw [if_pos q, if_pos q]; grind
      · rw [if_neg q, if_neg q]; grind) (show 17 ≤ fu by omega)
    have h2' := RX_fr l2 (by decide) (RX_fr k2 (by decide) (RX_fr h2 (r := 2) (by decide) h))
    obtain ⟨rw4, dg4, m1, m2, m3⟩ := P_rmul hL.1 hR (x := 2) (y := 3) (z := 4) (a := 2) (b := 3) (c := 4) rfl rfl rfl (by omega) (by omega) (by omega) (by omega) (by omega) h2' l3 (by omega) (show 20 ≤ fu by omega)
    have m3' : RX cd rw4 dg4 4 (cf (mpol X Cc a (i + 1))) := by
      show RX cd rw4 dg4 4 (cf ((X + Cc (0 - mt a i)) * mpol X Cc a i))
      rw [show (X + Cc (0 - mt a i)) * mpol X Cc a i = mpol X Cc a i * (X + Cc (0 - mt a i)) by grind]
      exact m3
    obtain ⟨rw5, dg5, n1, n2, n3⟩ := P_rcopy (x := 4) (y := 2) (a := 4) (b := 2) rfl rfl (by omega) (by omega) (by omega) m3' (show 17 ≤ fu by omega)
    obtain ⟨y, rw6, dg6, o1, o2, o3⟩ := ih (i + 1) n rw5 dg5 (by omega) n3 (by omega)
    refine ⟨y, rw6, dg6, ?_, FR_mo (FR_tr h2 (FR_tr k2 (FR_tr l2 (FR_tr m2 (FR_tr n2 o2))))) (fun r hr => by simp at hr ⊢; omega), o3⟩
    rw [f_X5_minimal_l57, if_neg (nI_ge (by omega) (by omega)), h1, Option.bind_some, P_rmate hL.1 hfu a (by omega), Option.bind_some, hL.1.2.2.2.2.2.2.1, Option.bind_some]
    show (f_X5_set fu rw1 dg1 3 0 (cd (- mt a i))).bind _ = _
    rw [k1, Option.bind_some]
    show (f_X5_set fu rw2 dg2 3 1 1).bind _ = _
    rw [l1, Option.bind_some]
    show (f_X5_product fu kk md rw3 dg3 2 3 4).bind _ = _
    rw [m1, Option.bind_some]
    show (f_X5_copy fu rw4 dg4 4 2).bind _ = _
    rw [n1, Option.bind_some, nI_1]
    exact o1
theorem P_rval_l {K : Type} [Lean.Grind.CommRing K] {cd : K → Int32} {E : Nat → Int32} {kk : Int32} {md : Nat → Int32} (hC : CX cd E kk md) {rw : (Nat → Int32)} {f : Nat → K} (hf : RW cd (rv rw 0) f) (x : K) (kc : Int32 → Int32 → Option (Int32 × Int32)) (fu : Nat) (hfu : 10 ≤ fu) (th : Int32) (mn : Int64) : ∀ (i n : Nat), i ≤ 6 → i < n → ∃ y, f_X5_value_l27 kc fu th kk mn md rw (cd x) n (cd (hv x (6 - i) (shn i f))) (dI i) = kc (cd (hv x 6 f)) y := by
  intro i
  induction i with
  | zero =>
    intro n hi hn
    obtain ⟨n, rfl⟩ : ∃ n', n = n' + 1 := ⟨n - 1, by omega⟩
    exact ⟨dI 0, by rw [f_X5_value_l27, if_pos dI_neg]; rfl⟩
  | succ i ih =>
    intro n hi hn
    obtain ⟨n, rfl⟩ : ∃ n', n = n' + 1 := ⟨n - 1, by omega⟩
    obtain ⟨y, h⟩ := ih n (by omega) (by omega)
    rw [f_X5_value_l27, dI_s, if_neg (nI_pos (by omega)), hC.2.2.2.2.2.2.2 fu _ _ hfu, Option.bind_some, P_rget (x := 0) (r := 0) rfl rfl (by omega) (by omega) hf, Option.bind_some, P_add, hC.2.2.1, Option.bind_some, dI_m]
    rw [show 6 - i = 6 - (i + 1) + 1 by omega, hv_s, shn_s, shn_v] at h
    exact ⟨y, h⟩
theorem P_rroot {K R : Type} [Lean.Grind.CommRing K] [Lean.Grind.CommRing R] {cd : K → Int32} {E : Nat → Int32} {kk : Int32} {md : Nat → Int32} (hC : CX cd E kk md) {cf : R → Nat → K} {deg : R → Nat} {mon : R → Prop} {X : R} {Cc : K → R} {Kl : List R} {q : Nat} (hR : PR cf deg mon X Cc Kl q) {mn : Int64} (hF : FX K q E mn) {D : R → R} (hD : DR cf D) {rw dg : (Nat → Int32)} {f : R} (hf : RX cd rw dg 0 (cf f)) (f0 : ¬ f = 0) {fu : Nat} (hfu : 64 ≤ fu) : ∃ rw' dg' r, f_X5_root fu kk mn md rw dg = some (rw', dg') ∧ FR [1, 2, 3, 5] rw dg rw' dg' ∧ RX cd rw' dg' 1 (cf r) ∧ RT mon D f r := by
  obtain ⟨rw1, dg1, h1, h2, h3⟩ := P_rcopy (x := 0) (y := 2) (a := 0) (b := 2) rfl rfl (by omega) (by omega) (by omega) hf (show 17 ≤ fu by omega)
  have f1 := RX_fr h2 (r := 0) (by decide) hf
  obtain ⟨rw2, dg2, k1, k2, k3⟩ := P_rslope hC hR hD (x := 0) (y := 3) (a := 0) (b := 3) rfl rfl (by omega) (by omega) (by omega) f1 (show 20 ≤ fu by omega)
  have f2 := RX_fr k2 (r := 0) (by decide) f1
  obtain ⟨rw3, dg3, g, l1, l2, l3, l4⟩ := P_rgcd hC hR hF (x1 := 2) (x2 := 3) (a := 2) (b := 3) rfl rfl (by omega) (by omega) (by omega) (by omega) (by omega) (RX_fr k2 (by decide) h3) k3 hfu
  have f3 := RX_fr l2 (r := 0) (by decide) f2
  obtain ⟨rw4, dg4, m1, m2, m3⟩ := P_rcopy (x := 0) (y := 3) (a := 0) (b := 3) rfl rfl (by omega) (by omega) (by omega) f3 (show 17 ≤ fu by omega)
  have g0 : ¬ g = 0 := fun e => f0 (by
    obtain ⟨c, hc⟩ := l4.1
    rw [hc, e]; grind)
  obtain ⟨rw5, dg5, qq, r, n1, n2, n3, n4, n5, n6⟩ := P_rdiv hC hR hF (x := 3) (y := 2) (z := 1) (a := 3) (b := 2) (c := 1) rfl rfl rfl (by omega) (by omega) (by omega) (by omega) (by omega) (by omega) m3 (RX_fr m2 (by decide) l3) g0 hfu
  obtain ⟨c, hc⟩ := l4.1
  have hun := pr_dun2 hR g0 (q1 := qq) (r1 := r) (q2 := c) (r2 := 0) (by rw [← n5, hc]; grind) n6 (by rw [(pr_sq0 hR 0).mpr rfl, pr_sq hR g0]; omega)
  have eq : f = qq * g := by rw [n5, hun.2]; grind
  have q0 : ¬ qq = 0 := fun e => f0 (by rw [eq, e]; grind)
  obtain ⟨rw6, w, w', o1, o2, o3, o4, o5⟩ := P_rmon hC hR hF (x := 1) (a := 1) rfl (by omega) n3 hfu
  refine ⟨rw6, dg5, w * qq, ?_, FR_mo (FR_tr h2 (FR_tr k2 (FR_tr l2 (FR_tr m2 (FR_tr n2 o2))))) (fun r hr => by simp at hr ⊢; omega), o3, g, w, w', qq, l4, eq, o4, rfl, o5.resolve_left q0⟩
  unfold f_X5_root
  rw [h1, Option.bind_some]
  show (f_X5_slope fu kk md rw1 dg1 0 3).bind _ = _
  rw [k1, Option.bind_some]
  show (f_X5_divisor fu kk mn md rw2 dg2 2 3).bind _ = _
  rw [l1, Option.bind_some]
  show (f_X5_copy fu rw3 dg3 0 3).bind _ = _
  rw [m1, Option.bind_some]
  show (f_X5_divide fu kk mn md rw4 dg4 3 2 1).bind _ = _
  rw [n1, Option.bind_some]
  show (f_X5_monic fu kk mn md rw5 dg5 1).bind _ = _
  rw [o1, Option.bind_some]
theorem dI_le0 {K R : Type} [Lean.Grind.CommRing K] [Lean.Grind.CommRing R] {cf : R → Nat → K} {deg : R → Nat} {mon : R → Prop} {X : R} {Cc : K → R} {Kl : List R} {q : Nat} (hR : PR cf deg mon X Cc Kl q) {g : R} (h : dl (cf g) 16) : dI (sq (cf g)) ≤ 0 ↔ ¬ 0 < deg g := by
  rw [← dI_0lt hR h, Int32.not_lt]
set_option maxHeartbeats 1000000 in
theorem P_rshift_l {K R : Type} [Lean.Grind.CommRing K] [Lean.Grind.CommRing R] {cd : K → Int32} {E : Nat → Int32} {kk : Int32} {md : Nat → Int32} {mn : Int64} {q k : Nat} {T : K} (hL : FL cd E kk md mn q k T) {cf : R → Nat → K} {deg : R → Nat} {mon : R → Prop} {X : R} {Cc : K → R} {Kl : List R} (hR : PR cf deg mon X Cc Kl q) {D F : R → R} (hD : DR cf D) (hM : MR cf F) {root : R} (hr : sq (cf root) ≤ 6) {TR : K} (fu : Nat) (hfu : 64 ≤ fu) (kc : Int32 → Int32 → (Nat → Int32) → (Nat → Int32) → Option (Int32 × Int32 × (Nat → Int32) × (Nat → Int32))) (th : Int32) : ∀ (d s n : Nat) (rw dg : (Nat → Int32)), d + s = 101 → RX cd rw dg 1 (cf root) → d + 1 < n → (∃ s' rw' dg', s ≤ s' ∧ s' < 101 ∧ ¬ SB cf deg mon D F k TR root s' ∧ (∀ j, s ≤ j → j < s' → SB cf deg mon D F k TR root j) ∧ f_X5_shift_l37 kc fu th kk mn md (cd TR) n (nI s) 1 rw dg = kc (nI s') 0 rw' dg' ∧ FR [2, 3, 4, 5, 8, 10] rw dg rw' dg') ∨ (∀ j, s ≤ j → j < 101 → SB cf deg mon D F k TR root j) := by
  intro d
  induction d with
  | zero =>
    intro s n rw dg hs h hn
    exact Or.inr (fun j h1 h2 => by omega)
  | succ d ih =>
    intro s n rw dg hs h hn
    obtain ⟨n, rfl⟩ : ∃ n', n = n' + 1 := ⟨n - 1, by omega⟩
    obtain ⟨rw2, dg2, k1, k2, k3⟩ := P_rmov hL.1 (x := 1) (z := 8) (a := 1) (b := 8) rfl rfl (by omega) (by omega) (by omega) h (-(TR * OfNat.ofNat s)) (show 20 ≤ fu by omega)
    obtain ⟨m, hm⟩ := pr_ex hR k3.1.1
    rw [← hm] at k3
    have ec : -(TR * OfNat.ofNat s) = 0 - OfNat.ofNat s * TR := by grind
    rw [ec] at hm
    have hms : sq (cf m) ≤ 6 := by
      rw [hm, tau_all _ (pr_dl hR root) (by omega)]
      have := sq_le (tau_dl (0 - OfNat.ofNat s * TR) (sq (cf root)) (cf root))
      omega
    obtain ⟨rw3, dg3, l1, l2, l3⟩ := P_rnorm hL hR hM (x := 8) (z := 10) (r := 8) (c := 10) rfl rfl (by omega) (by omega) (by omega) (by omega) k3 hms hfu
    obtain ⟨rw4, dg4, m1, m2, m3⟩ := P_rcopy (x := 10) (y := 2) (a := 10) (b := 2) rfl rfl (by omega) (by omega) (by omega) l3 (show 17 ≤ fu by omega)
    obtain ⟨rw5, dg5, n1, n2, n3⟩ := P_rslope hL.1 hR hD (x := 10) (y := 3) (a := 10) (b := 3) rfl rfl (by omega) (by omega) (by omega) (RX_fr m2 (by decide) l3) (show 20 ≤ fu by omega)
    obtain ⟨rw6, dg6, g, o1, o2, o3, o4⟩ := P_rgcd hL.1 hR hL.2.1 (x1 := 2) (x2 := 3) (a := 2) (b := 3) rfl rfl (by omega) (by omega) (by omega) (by omega) (by omega) (RX_fr n2 (by decide) m3) n3 hfu
    have fr : FR [2, 3, 4, 5, 8, 10] rw dg rw6 dg6 := FR_mo (FR_tr k2 (FR_tr l2 (FR_tr m2 (FR_tr n2 o2)))) (fun r hr => by simp at hr ⊢; omega)
    have c2 : (2 : Int32).toNatClampNeg = 2 := by decide
    have body : f_X5_shift_l37 kc fu th kk mn md (cd TR) (n + 1) (nI s) 1 rw dg = f_X5_shift_l37 kc fu th kk mn md (cd TR) n (nI s + (if 0 < deg g then 1 else 0)) (if 0 < deg g then 1 else 0) rw6 dg6 := by
      rw [f_X5_shift_l37, if_neg (by decide), if_neg (show ¬ (101 : Int32) ≤ nI s from nI_ge (b := 101) (by omega) (by decide)), ← cd_n hL.1 s (by omega), hL.1.2.2.2.2.2.2.2 fu _ _ (by omega), Option.bind_some, hL.1.2.2.2.2.2.2.1, Option.bind_some, k1, Option.bind_some]
      show (f_X5_normOf fu kk md rw2 dg2 8 10).bind _ = _
      rw [l1, Option.bind_some]
      show (f_X5_copy fu rw3 dg3 10 2).bind _ = _
      rw [m1, Option.bind_some]
      show (f_X5_slope fu kk md rw4 dg4 10 3).bind _ = _
      rw [n1, Option.bind_some]
      show (f_X5_divisor fu kk mn md rw5 dg5 2 3).bind _ = _
      rw [o1, Option.bind_some, if_neg (by decide), c2]
      show (if dg6 2 ≤ 0 then some (0 : Int32) else some 1).bind _ = _
      rw [o3.2]
      by_cases c : 0 < deg g
      · rw [if_neg (fun q => (dI_le0 hR o3.1.1).mp q c), if_pos c, Option.bind_some, if_neg (by decide), Option.bind_some]
        rfl
      · rw [if_pos ((dI_le0 hR o3.1.1).mpr c), if_neg c, Option.bind_some, if_pos rfl, Option.bind_some]
        rfl
    rw [body]
    by_cases c : 0 < deg g
    · rw [if_pos c, nI_1]
      have bad : SB cf deg mon D F k TR root s := ⟨m, g, hm, o4, c⟩
      rcases ih (s + 1) n rw6 dg6 (by omega) (RX_fr fr (by decide) h) (by omega) with ⟨s', rw', dg', e1, e2, e3, e4, e5, e6⟩ | e
      · exact Or.inl ⟨s', rw', dg', by omega, e2, e3, fun j j1 j2 => by
          by_cases q : j = s
          · rw [q]; exact bad
          · exact e4 j (by omega) j2, e5, FR_mo (FR_tr fr e6) (fun r hr => by simp at hr ⊢; omega)⟩
      · exact Or.inr (fun j j1 j2 => by
          by_cases q : j = s
          · rw [q]; exact bad
          · exact e j (by omega) j2)
    · rw [if_neg c, show nI s + 0 = nI s from nI_add s 0]
      obtain ⟨n, rfl⟩ : ∃ n', n = n' + 1 := ⟨n - 1, by omega⟩
      refine Or.inl ⟨s, rw6, dg6, by omega, by omega, ?_, fun j j1 j2 => by omega, by rw [f_X5_shift_l37, if_pos rfl], fr⟩
      rintro ⟨m', g', q1, q2, q3⟩
      have em : m' = m := pr_ext hR (fun i => by rw [q1, hm])
      rw [em] at q2
      rw [gc_uni (pr_eu hR) q2 o4] at q3
      exact c q3
