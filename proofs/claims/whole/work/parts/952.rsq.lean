/-! Derivatives, powers, displacements and norms of the reference. -/
theorem P_rslope_l {K : Type} [Lean.Grind.CommRing K] {cd : K → Int32} {E : Nat → Int32} {kk : Int32} {md : Nat → Int32} (hC : CX cd E kk md) {a b s : Nat} (ha : a < 25) (hb : b < 25) (hab : ¬ a = b) {f : Nat → K} {dg : (Nat → Int32)} (hdg : dg a = dI s) (hs : s ≤ 16) (hd : dl f s) (k : Int32 → (Nat → Int32) → Option ((Nat → Int32) × (Nat → Int32))) (fu : Nat) (hfu : 10 ≤ fu) : ∀ (e i n : Nat) (rw : (Nat → Int32)), s ≤ e + (i + 1) → i ≤ 16 → RW cd (rv rw a) f → RW cd (rv rw b) (fun t => if t < i then pd f t else 0) → e < n → ∃ y rw', f_X5_slope_l7 k fu kk md dg (nI a) (nI b) n (nI (i + 1)) rw = k y rw' ∧ (∀ r, ¬ r = b → ∀ t, t < 16 → rv rw' r t = rv rw r t) ∧ RW cd (rv rw' b) (pd f) := by
  have out : ∀ (i n : Nat) (rw : (Nat → Int32)), s ≤ i + 1 → i ≤ 16 → RW cd (rv rw b) (fun t => if t < i then pd f t else 0) → 0 < n → ∃ y rw', f_X5_slope_l7 k fu kk md dg (nI a) (nI b) n (nI (i + 1)) rw = k y rw' ∧ (∀ r, ¬ r = b → ∀ t, t < 16 → rv rw' r t = rv rw r t) ∧ RW cd (rv rw' b) (pd f) := by
    intro i n rw hi hi2 hf hn
    obtain ⟨n, rfl⟩ : ∃ n', n = n' + 1 := ⟨n - 1, by omega⟩
    refine ⟨nI (i + 1), rw, by rw [f_X5_slope_l7, if_neg (in25 ha), nI_clamp (by omega), hdg, if_pos ((dI_lt (by omega) (by omega)).mpr (by omega))], fun _ _ _ _ => rfl, RW_c hf (fun t => ?_)⟩
    by_cases c : t < i
    · rw [if_pos c]
    · rw [if_neg c]
      show 0 = OfNat.ofNat (t + 1) * f (t + 1)
      rw [hd (t + 1) (by omega)]; grind
  intro e
  induction e with
  | zero => intro i n rw hi hi2 hf h hn; exact out i n rw (by omega) hi2 h hn
  | succ e ih =>
    intro i n rw hi hi2 hf h hn
    by_cases c : s ≤ i + 1
    · exact out i n rw c hi2 h (by omega)
    · obtain ⟨n, rfl⟩ : ∃ n', n = n' + 1 := ⟨n - 1, by omega⟩
      have ie : (16 : Int32) * nI b + nI (i + 1) - 1 = nI (16 * b + i) := by rw [ix, show 16 * b + (i + 1) = 16 * b + i + 1 by omega, nI_pred]
      have tm : f_X5_times fu kk md (cd (f (i + 1))) (nI (i + 1)) = some (cd (pd f i)) := by
        rw [← cd_n hC (i + 1) (by omega), hC.2.2.2.2.2.2.2 fu _ _ hfu]
        show some (cd (f (i + 1) * OfNat.ofNat (i + 1))) = some (cd (OfNat.ofNat (i + 1) * f (i + 1)))
        rw [show f (i + 1) * OfNat.ofNat (i + 1) = OfNat.ofNat (i + 1) * f (i + 1) by grind]
      rw [f_X5_slope_l7, if_neg (in25 ha), nI_clamp (by omega), hdg, if_neg (fun q => by have := (dI_lt (by omega) (by omega)).mp q; omega), P_rget rfl rfl ha (by omega) hf, Option.bind_some, tm, Option.bind_some, ie, if_neg (in400 (by omega)), nI_clamp (by omega), nI_1]
      obtain ⟨y, rw', h1, h2, h3⟩ := ih (i + 1) n (upd rw (16 * b + i) (cd (pd f i))) (by omega) (by omega) (RW_e hf (rv_n hab (by omega))) (by
        rw [rv_s]
        refine RW_upd h (by omega) (if_pos (by omega)) (fun t ht => ?_)
        by_cases c1 : t < i
        · rw [if_pos c1, if_pos (by omega)]
        · rw [if_neg c1, if_neg (by omega)]) (by omega)
      exact ⟨y, rw', h1, fun r hr t ht => by rw [h2 r hr t ht, rv_n hr (by omega) t ht], h3⟩
theorem P_rslope {K R : Type} [Lean.Grind.CommRing K] [Lean.Grind.CommRing R] {cd : K → Int32} {E : Nat → Int32} {kk : Int32} {md : Nat → Int32} (hC : CX cd E kk md) {cf : R → Nat → K} {deg : R → Nat} {mon : R → Prop} {X : R} {Cc : K → R} {Kl : List R} {q : Nat} (hR : PR cf deg mon X Cc Kl q) {D : R → R} (hD : DR cf D) {rw dg : (Nat → Int32)} {x y : Int32} {a b : Nat} (hx : x = nI a) (hy : y = nI b) (ha : a < 25) (hb : b < 25) (hab : ¬ a = b) {A : R} (hA : RX cd rw dg a (cf A)) {fu : Nat} (hfu : 20 ≤ fu) : ∃ rw' dg', f_X5_slope fu kk md rw dg x y = some (rw', dg') ∧ FR [b] rw dg rw' dg' ∧ RX cd rw' dg' b (cf (D A)) := by
  obtain ⟨rw1, dg1, h1, h2, h3⟩ := P_rclear hC rw dg hy hb (show 17 ≤ fu by omega)
  subst hx
  subst hy
  have hA1 := RX_fr h2 (r := a) (fun q => hab (List.mem_singleton.mp q)) hA
  have hs := sq_le hA.1.1
  obtain ⟨y2, rw2, k1, k2, k3⟩ := P_rslope_l hC ha hb hab hA1.2 hs (pr_dl hR A) (fun y10 rw11 =>
    (f_X5_cell rw11 (nI b) 0).bind (fun u12 =>
    (f_X5_set fu rw11 dg1 (nI b) 0 u12).bind (fun u14 =>
    some (u14.1, u14.2)))) fu (by omega) 16 0 fu rw1 (by omega) (by omega) hA1.1 (RW_c h3.1 (fun t => (if_neg (by omega)).symm)) (by omega)
  rw [← hD A] at k3
  obtain ⟨rw3, dg3, m1, m2, m3⟩ := P_rdeg hC dg1 (x := nI b) (y := 0) (r := b) rfl rfl hb k3 (z := cd (cf (D A) 0)) rfl (show 17 ≤ fu by omega)
  refine ⟨rw3, dg3, ?_, fun r hr => ?_, m3⟩
  · unfold f_X5_slope
    rw [h1, Option.bind_some]
    refine k1.trans ?_
    show (f_X5_cell rw2 (nI b) 0).bind _ = _
    rw [P_rget (y := 0) (i := 0) rfl rfl hb (by omega) k3, Option.bind_some, m1, Option.bind_some]
  · obtain ⟨e1, e2⟩ := h2 r hr
    obtain ⟨f1, f2⟩ := m2 r hr
    have hrb : ¬ r = b := fun q => hr (by rw [q]; exact List.mem_cons_self)
    exact ⟨fun i hi => by rw [f1 i hi, k2 r hrb i hi, e1 i hi], by rw [f2, e2]⟩
theorem P_rpows_l {K R : Type} [Lean.Grind.CommRing K] [Lean.Grind.CommRing R] {cd : K → Int32} {E : Nat → Int32} {kk : Int32} {md : Nat → Int32} (hC : CX cd E kk md) {cf : R → Nat → K} {deg : R → Nat} {mon : R → Prop} {X : R} {Cc : K → R} {Kl : List R} {q : Nat} (hR : PR cf deg mon X Cc Kl q) {mn : Int64} (hF : FX K q E mn) {x4 x5 : Int32} {b c : Nat} (hx4 : x4 = nI b) (hx5 : x5 = nI c) (hb : b < 25) (hc : c < 25) (hb4 : ¬ b = 5 ∧ ¬ b = 6 ∧ ¬ b = 7 ∧ ¬ b = c) (hc4 : ¬ c = 5 ∧ ¬ c = 6 ∧ ¬ c = 7) {A B : R} (B0 : ¬ B = 0) (sB : sq (cf B) ≤ 9) {e : Nat} (k : Int64 → (Nat → Int32) → (Nat → Int32) → Option ((Nat → Int32) × (Nat → Int32))) (fu : Nat) (hfu : 64 ≤ fu) (x1 : Int32) (x2 : Int64) : ∀ (n m : Nat) (rw dg : (Nat → Int32)) (V S cc : R), m < 2 ^ 62 → m < 2 ^ n → RX cd rw dg b (cf B) → RX cd rw dg c (cf V) → RX cd rw dg 6 (cf S) → A ^ e = cc * B + V * S ^ m → sq (cf V) < sq (cf B) → sq (cf S) < sq (cf B) → ∃ y rw' dg' r cc', f_X5_powers_l34 k fu kk mn md x1 x2 x4 x5 (n + 1) (lN m) rw dg = k y rw' dg' ∧ FR [5, 6, 7, c] rw dg rw' dg' ∧ RX cd rw' dg' c (cf r) ∧ A ^ e = cc' * B + r ∧ sq (cf r) < sq (cf B) := by
  subst hx4
  subst hx5
  have base : ∀ (n m : Nat) (rw dg : (Nat → Int32)) (V S cc : R), m = 0 → RX cd rw dg c (cf V) → A ^ e = cc * B + V * S ^ m → sq (cf V) < sq (cf B) → ∃ y rw' dg' r cc', f_X5_powers_l34 k fu kk mn md x1 x2 (nI b) (nI c) (n + 1) (lN m) rw dg = k y rw' dg' ∧ FR [5, 6, 7, c] rw dg rw' dg' ∧ RX cd rw' dg' c (cf r) ∧ A ^ e = cc' * B + r ∧ sq (cf r) < sq (cf B) := by
    intro n m rw dg V S cc hm hV he hs
    subst hm
    refine ⟨lN 0, rw, dg, V, cc, by rw [f_X5_powers_l34, if_pos ((lN_cle (by omega)).mpr rfl)], FR_rf _ _ _, hV, ?_, hs⟩
    rw [he, Lean.Grind.Semiring.pow_zero]; grind
  intro n
  induction n with
  | zero =>
    intro m rw dg V S cc h62 hm hB hV hS he hsV hsS
    exact base 0 m rw dg V S cc (by simpa using hm) hV he hsV
  | succ n ih =>
    intro m rw dg V S cc h62 hm hB hV hS he hsV hsS
    by_cases m0 : m = 0
    · exact base (n + 1) m rw dg V S cc m0 hV he hsV
    · have hh : m / 2 < 2 ^ n := by rw [Nat.pow_succ] at hm; omega
      rw [f_X5_powers_l34, if_neg (fun q => m0 ((lN_cle h62).mp q)), wb_a1 (by omega)]
      simp only [nm]
      rw [show ((1 : Int32).toInt64 &&& 63) = ((nI 1).toInt64 &&& 63) from rfl, lN_sh h62 (by omega), Nat.pow_one]
      have one : ∃ rw1 dg1 V1 cc1, (if (lg_cmp (lN (m % 2)) 1) = 0 then (f_X5_product fu kk md rw dg (nI c) 6 7).bind (fun u12 => (f_X5_divide fu kk mn md u12.1 u12.2 7 (nI b) 5).bind (fun u14 => (f_X5_copy fu u14.1 u14.2 7 (nI c)).bind (fun u16 => some (u16.1, u16.2)))) else some (rw, dg) : Option ((Nat → Int32) × (Nat → Int32))) = some (rw1, dg1) ∧ FR [7, 5, c] rw dg rw1 dg1 ∧ RX cd rw1 dg1 c (cf V1) ∧ sq (cf V1) < sq (cf B) ∧ A ^ e = cc1 * B + V1 * (S * S) ^ (m / 2) := by
        by_cases o : m % 2 = 1
        · rw [if_pos ((lN_c1 m).mpr o)]
          have em : S ^ m = S * (S * S) ^ (m / 2) := by
            rw [mul_pow', show S ^ m = S ^ (m / 2 + m / 2 + 1) by rw [show m / 2 + m / 2 + 1 = m by omega], pow_add', pow_add', Lean.Grind.Semiring.pow_succ, Lean.Grind.Semiring.pow_zero]; grind
          obtain ⟨rw1, dg1, k1, k2, k3⟩ := P_rmul hC hR (x := nI c) (y := 6) (z := 7) (a := c) (b := 6) (c := 7) rfl rfl rfl hc (by omega) (by omega) hc4.2.2 (by omega) hV hS (by omega) (show 20 ≤ fu by omega)
          have hB1 := RX_fr k2 (r := b) (by simp; omega) hB
          obtain ⟨rw2, dg2, qq, r, l1, l2, l3, l4, l5, l6⟩ := P_rdiv hC hR hF (x := 7) (y := nI b) (z := 5) (a := 7) (b := b) (c := 5) rfl rfl rfl (by omega) hb (by omega) hb4.2.2.1 (by omega) hb4.1 k3 hB1 B0 hfu
          obtain ⟨rw3, dg3, n1, n2, n3⟩ := P_rcopy (x := 7) (y := nI c) (a := 7) (b := c) rfl rfl (by omega) hc (fun e => hc4.2.2 e.symm) l4 (show 17 ≤ fu by omega)
          refine ⟨rw3, dg3, r, cc + qq * (S * S) ^ (m / 2), ?_, FR_mo (FR_tr k2 (FR_tr l2 n2)) (fun r hr => by simp at hr ⊢; omega), n3, l6, ?_⟩
          · rw [k1, Option.bind_some]
            show (f_X5_divide fu kk mn md rw1 dg1 7 (nI b) 5).bind _ = _
            rw [l1, Option.bind_some]
            show (f_X5_copy fu rw2 dg2 7 (nI c)).bind _ = _
            rw [n1, Option.bind_some]
          · rw [he, em, show V * (S * (S * S) ^ (m / 2)) = (V * S) * (S * S) ^ (m / 2) by grind, l5]; grind
        · rw [if_neg (fun q => o ((lN_c1 m).mp q))]
          have em : S ^ m = (S * S) ^ (m / 2) := by
            rw [mul_pow', show S ^ m = S ^ (m / 2 + m / 2) by rw [show m / 2 + m / 2 = m by omega], pow_add']
          exact ⟨rw, dg, V, cc, rfl, FR_rf _ _ _, hV, hsV, by rw [he, em]⟩
      obtain ⟨rw1, dg1, V1, cc1, o1, o2, o3, o4, o5⟩ := one
      rw [o1, Option.bind_some]
      have hS1 := RX_fr o2 (r := 6) (by simp; omega) hS
      have hB1 := RX_fr o2 (r := b) (by simp; omega) hB
      obtain ⟨rw2, dg2, k1, k2, k3⟩ := P_rmul hC hR (x := 6) (y := 6) (z := 7) (a := 6) (b := 6) (c := 7) rfl rfl rfl (by omega) (by omega) (by omega) (by omega) (by omega) hS1 hS1 (by omega) (show 20 ≤ fu by omega)
      have hB2 := RX_fr k2 (r := b) (by simp; omega) hB1
      have hV2 := RX_fr k2 (r := c) (by simp; omega) o3
      obtain ⟨rw3, dg3, qq, r, l1, l2, l3, l4, l5, l6⟩ := P_rdiv hC hR hF (x := 7) (y := nI b) (z := 5) (a := 7) (b := b) (c := 5) rfl rfl rfl (by omega) hb (by omega) hb4.2.2.1 (by omega) hb4.1 k3 hB2 B0 hfu
      have hB3 := RX_fr l2 (r := b) (by simp; omega) hB2
      have hV3 := RX_fr l2 (r := c) (by simp; omega) hV2
      obtain ⟨rw4, dg4, n1, n2, n3⟩ := P_rcopy (x := 7) (y := 6) (a := 7) (b := 6) rfl rfl (by omega) (by omega) (by omega) l4 (show 17 ≤ fu by omega)
      have hB4 := RX_fr n2 (r := b) (by simp; omega) hB3
      have hV4 := RX_fr n2 (r := c) (by simp; omega) hV3
      obtain ⟨z, hz⟩ := cong_pow (p := B) (a := S * S) (b := r) ⟨qq, by rw [l5]; grind⟩ (m / 2)
      obtain ⟨y, rw5, dg5, r5, cc5, t1, t2, t3, t4, t5⟩ := ih (m / 2) rw4 dg4 V1 r (cc1 + V1 * z) (by omega) hh hB4 hV4 n3 (by
        rw [o5]
        have : (S * S) ^ (m / 2) = r ^ (m / 2) + B * z := by rw [← hz]; grind
        rw [this]; grind) o4 l6
      refine ⟨y, rw5, dg5, r5, cc5, ?_, FR_mo (FR_tr o2 (FR_tr k2 (FR_tr l2 (FR_tr n2 t2)))) (fun r hr => by simp at hr ⊢; omega), t3, t4, t5⟩
      show (f_X5_product fu kk md rw1 dg1 6 6 7).bind _ = _
      rw [k1, Option.bind_some]
      show (f_X5_divide fu kk mn md rw2 dg2 7 (nI b) 5).bind _ = _
      rw [l1, Option.bind_some]
      show (f_X5_copy fu rw3 dg3 7 6).bind _ = _
      rw [n1, Option.bind_some]
      exact t1
theorem P_rpows {K R : Type} [Lean.Grind.CommRing K] [Lean.Grind.CommRing R] {cd : K → Int32} {E : Nat → Int32} {kk : Int32} {md : Nat → Int32} (hC : CX cd E kk md) {cf : R → Nat → K} {deg : R → Nat} {mon : R → Prop} {X : R} {Cc : K → R} {Kl : List R} {q : Nat} (hR : PR cf deg mon X Cc Kl q) {mn : Int64} (hF : FX K q E mn) {rw dg : (Nat → Int32)} {x y z : Int32} {a b c : Nat} (hx : x = nI a) (hy : y = nI b) (hz : z = nI c) (ha : a < 25) (hb : b < 25) (hc : c < 25) (hac : ¬ a = c ∧ ¬ a = 6) (hb4 : ¬ b = 5 ∧ ¬ b = 6 ∧ ¬ b = 7 ∧ ¬ b = c) (hc4 : ¬ c = 5 ∧ ¬ c = 6 ∧ ¬ c = 7) {A B : R} (hA : RX cd rw dg a (cf A)) (hB : RX cd rw dg b (cf B)) (B2 : 2 ≤ sq (cf B)) (sB : sq (cf B) ≤ 9) {e : Nat} (he : e < 2 ^ 62) {fu : Nat} (hfu : 64 ≤ fu) : ∃ rw' dg' r cc, f_X5_powers fu kk mn md rw dg x (lN e) y z = some (rw', dg') ∧ FR [5, 6, 7, c] rw dg rw' dg' ∧ RX cd rw' dg' c (cf r) ∧ A ^ e = cc * B + r ∧ sq (cf r) < sq (cf B) := by
  have B0 : ¬ B = 0 := fun q => by rw [(pr_sq0 hR B).mpr q] at B2; omega
  have s1 : sq (cf (1 : R)) = 1 := by rw [pr_sq hR (pr_eu hR).2.2.2.2.1.1, (pr_eu hR).2.2.2.2.1.2.2]
  obtain ⟨rw1, dg1, h1, h2, h3⟩ := P_rclear hC rw dg hz hc (show 17 ≤ fu by omega)
  obtain ⟨rw2, dg2, k1, k2, k3⟩ := P_rset hC dg1 (x := z) (y := 0) (z := 1) (i := 0) (a := 1) (g := cf (1 : R)) hz rfl hc (by omega) hC.2.1.2.symm h3.1 (by rw [pr_1 hR]; rfl) (fun j hj => by rw [pr_1 hR]; exact if_neg hj) (show 17 ≤ fu by omega)
  have hA2 := RX_fr k2 (r := a) (by simp; omega) (RX_fr h2 (r := a) (by simp; omega) hA)
  have hB2 := RX_fr k2 (r := b) (by simp; omega) (RX_fr h2 (r := b) (by simp; omega) hB)
  obtain ⟨rw3, dg3, l1, l2, l3⟩ := P_rcopy (x := x) (y := 6) (a := a) (b := 6) hx rfl ha (by omega) hac.2 hA2 (show 17 ≤ fu by omega)
  have hB3 := RX_fr l2 (r := b) (by simp; omega) hB2
  have hV3 := RX_fr l2 (r := c) (by simp; omega) k3
  obtain ⟨rw4, dg4, qq, r, m1, m2, m3, m4, m5, m6⟩ := P_rdiv hC hR hF (x := 6) (y := y) (z := 7) (a := 6) (b := b) (c := 7) rfl hy rfl (by omega) hb (by omega) hb4.2.1 (by omega) hb4.2.2.1 l3 hB3 B0 hfu
  have hB4 := RX_fr m2 (r := b) (by simp; omega) hB3
  have hV4 := RX_fr m2 (r := c) (by simp; omega) hV3
  obtain ⟨w, hw⟩ := cong_pow (p := B) (a := A) (b := r) ⟨qq, by rw [m5]; grind⟩ e
  obtain ⟨n, hn⟩ : ∃ n, fu = n + 1 := ⟨fu - 1, by omega⟩
  obtain ⟨y', rw5, dg5, r5, cc5, t1, t2, t3, t4, t5⟩ := P_rpows_l hC hR hF hy hz hb hc hb4 hc4 B0 sB (A := A) (e := e) (fun y25 rw26 dg27 => some (rw26, dg27)) fu hfu x (lN e) n e rw4 dg4 1 r w he (Nat.lt_of_lt_of_le he (Nat.pow_le_pow_right (by omega) (by omega))) hB4 hV4 m4 (by grind) (by omega) m6
  refine ⟨rw5, dg5, r5, cc5, ?_, FR_mo (FR_tr h2 (FR_tr k2 (FR_tr l2 (FR_tr m2 t2)))) (fun r hr => by simp at hr ⊢; omega), t3, t4, t5⟩
  unfold f_X5_powers
  rw [h1, Option.bind_some]
  show (f_X5_set fu rw1 dg1 z 0 1).bind _ = _
  rw [k1, Option.bind_some]
  show (f_X5_copy fu rw2 dg2 x 6).bind _ = _
  rw [l1, Option.bind_some]
  show (f_X5_divide fu kk mn md rw3 dg3 6 y 7).bind _ = _
  rw [m1, Option.bind_some]
  rw [← hn] at t1
  exact t1
theorem P_rmov_i {K : Type} [Lean.Grind.CommRing K] {cd : K → Int32} {E : Nat → Int32} {kk : Int32} {md : Nat → Int32} (hC : CX cd E kk md) {b : Nat} (hb : b < 25) {g : Nat → K} {c : K} (k : Int32 → (Nat → Int32) → Option ((Nat → Int32) × (Nat → Int32))) (fu : Nat) (hfu : 10 ≤ fu) (dg : (Nat → Int32)) (x1 x4 : Int32) : ∀ (j n : Nat) (rw : (Nat → Int32)), j ≤ 15 → RW cd (rv rw b) (fun t => if t ≤ j then g t else lin c g t) → j < n → ∃ y rw', f_X5_moved_l22 k fu kk md dg x1 (cd c) (nI b) x4 n (nI j) rw = k y rw' ∧ (∀ r, ¬ r = b → ∀ t, t < 16 → rv rw' r t = rv rw r t) ∧ RW cd (rv rw' b) (fun t => if t ≤ 0 then g t else lin c g t) := by
  intro j
  induction j with
  | zero =>
    intro n rw hj h hn
    obtain ⟨n, rfl⟩ : ∃ n', n = n' + 1 := ⟨n - 1, by omega⟩
    exact ⟨nI 0, rw, by rw [f_X5_moved_l22, if_pos (by decide)], fun _ _ _ _ => rfl, h⟩
  | succ j ih =>
    intro n rw hj h hn
    obtain ⟨n, rfl⟩ : ∃ n', n = n' + 1 := ⟨n - 1, by omega⟩
    have i1 : (16 : Int32) * nI b + nI (j + 1) - 1 = nI (16 * b + j) := by rw [ix, show 16 * b + (j + 1) = 16 * b + j + 1 by omega, nI_pred]
    have v1 : rw (16 * b + j) = cd (g j) := (h.2 j (by omega)).trans (congrArg cd (if_pos (by omega)))
    have v2 : rw (16 * b + (j + 1)) = cd (g (j + 1)) := (h.2 (j + 1) (by omega)).trans (congrArg cd (if_pos (by omega)))
    have e3 : g j + g (j + 1) * c = lin c g (j + 1) := by
      show _ = (if j + 1 = 0 then 0 else g (j + 1 - 1)) + c * g (j + 1)
      rw [if_neg (by omega), show j + 1 - 1 = j by omega]; grind
    rw [f_X5_moved_l22, if_neg (nI_nle (by omega) (by omega)), i1, if_neg (in400 (by omega)), ix, if_neg (in400 (by omega)), nI_clamp (by omega), nI_clamp (by omega), v1, v2, hC.2.2.2.2.2.2.2 fu _ _ hfu, Option.bind_some, P_add, hC.2.2.1, Option.bind_some, if_neg (show ¬ (nI (16 * b + (j + 1)) < 0 ∨ 400 ≤ 16 * b + (j + 1)) from fun q => q.elim (nI_pos (by omega)) (by omega)), e3, pk_m1]
    obtain ⟨y, rw', h1, h2, h3⟩ := ih n (upd rw (16 * b + (j + 1)) (cd (lin c g (j + 1)))) (by omega) (by
      rw [rv_s]
      refine RW_upd h (by omega) (if_neg (by omega)) (fun t ht => ?_)
      by_cases c1 : t ≤ j
      · rw [if_pos c1, if_pos (by omega)]
      · rw [if_neg c1, if_neg (by omega)]) (by omega)
    exact ⟨y, rw', h1, fun r hr t ht => by rw [h2 r hr t ht, rv_n hr (by omega) t ht], h3⟩
theorem P_rmov_o {K : Type} [Lean.Grind.CommRing K] {cd : K → Int32} {E : Nat → Int32} {kk : Int32} {md : Nat → Int32} (hC : CX cd E kk md) {a b s : Nat} (ha : a < 25) (hb : b < 25) (hab : ¬ a = b) {f : Nat → K} {c : K} (hs : s ≤ 16) (k : Int32 → (Nat → Int32) → Option ((Nat → Int32) × (Nat → Int32))) (fu : Nat) (hfu : 20 ≤ fu) (dg : (Nat → Int32)) : ∀ (i n : Nat) (rw : (Nat → Int32)), i ≤ s → RW cd (rv rw a) f → RW cd (rv rw b) (tau c (s - i) (shn i f)) → i < n → ∃ y rw', f_X5_moved_l13 k fu kk md dg (nI a) (cd c) (nI b) n (dI i) rw = k y rw' ∧ (∀ r, ¬ r = b → ∀ t, t < 16 → rv rw' r t = rv rw r t) ∧ RW cd (rv rw' b) (tau c s f) := by
  intro i
  induction i with
  | zero =>
    intro n rw hi hf h hn
    obtain ⟨n, rfl⟩ : ∃ n', n = n' + 1 := ⟨n - 1, by omega⟩
    exact ⟨dI 0, rw, by rw [f_X5_moved_l13, if_pos dI_neg], fun _ _ _ _ => rfl, h⟩
  | succ i ih =>
    intro n rw hi hf h hn
    obtain ⟨n, rfl⟩ : ∃ n', n = n' + 1 := ⟨n - 1, by omega⟩
    have dt := tau_dl c (s - (i + 1)) (shn (i + 1) f)
    rw [f_X5_moved_l13, dI_s, if_neg (nI_pos (by omega))]
    obtain ⟨y, rw1, k1, k2, k3⟩ := P_rmov_i hC hb (g := tau c (s - (i + 1)) (shn (i + 1) f)) (c := c) (fun y14 rw15 =>
        if (16 * nI b) < 0 ∨ 400 ≤ (16 * nI b).toNatClampNeg then none else
        (f_X5_times fu kk md (rw15 (16 * nI b).toNatClampNeg) (cd c)).bind (fun u17 =>
        (f_X5_cell rw15 (nI a) (nI i)).bind (fun u19 =>
        (f_X5_add u17 u19).bind (fun u21 =>
        if (16 * nI b) < 0 ∨ 400 ≤ (16 * nI b).toNatClampNeg then none else
        f_X5_moved_l13 k fu kk md dg (nI a) (cd c) (nI b) n (nI i + (-1)) (upd rw15 (16 * nI b).toNatClampNeg u21))))) fu (by omega) dg (nI a) (nI i) 15 fu rw (by omega) (RW_c h (fun t => by
      by_cases q : t ≤ 15
      · rw [if_pos q]
      · rw [if_neg q, dt t (by omega)]
        show 0 = (if t = 0 then 0 else tau c (s - (i + 1)) (shn (i + 1) f) (t - 1)) + c * tau c (s - (i + 1)) (shn (i + 1) f) t
        rw [if_neg (by omega), dt t (by omega), dt (t - 1) (by omega)]; grind)) (by omega)
    have k1' : f_X5_moved_l22 _ fu kk md dg (nI a) (cd c) (nI b) (nI i) fu 15 rw = _ := k1
    have hf1 := RW_e hf (k2 a hab)
    have v0 : rw1 (16 * b) = cd (tau c (s - (i + 1)) (shn (i + 1) f) 0) := (k3.2 0 (by omega)).trans (congrArg cd (if_pos (by omega)))
    rw [k1', ix0, if_neg (in400 (by omega)), nI_clamp (by omega), v0, hC.2.2.2.2.2.2.2 fu _ _ (by omega), Option.bind_some, P_rget rfl rfl ha (by omega) hf1, Option.bind_some, P_add, hC.2.2.1, Option.bind_some, if_neg (show ¬ (nI (16 * b) < 0 ∨ 400 ≤ 16 * b) from fun q => q.elim (nI_pos (by omega)) (by omega)), dI_m]
    obtain ⟨y2, rw2, l1, l2, l3⟩ := ih n (upd rw1 (16 * b + 0) (cd (tau c (s - (i + 1)) (shn (i + 1) f) 0 * c + f i))) (by omega) (RW_e hf1 (rv_n hab (by omega))) (by
      rw [rv_s, show s - i = s - (i + 1) + 1 by omega]
      refine RW_upd k3 (by omega) ?_ (fun t ht => ?_)
      · rw [tau_s, shn_s, shn_v]
        show f i + (0 + c * tau c (s - (i + 1)) (shn (i + 1) f) 0) = _
        grind
      · rw [tau_s, shn_s, if_neg (by omega)]
        show (if t = 0 then _ else 0) + _ = _
        rw [if_neg ht]; grind) (by omega)
    exact ⟨y2, rw2, l1, fun r hr t ht => by rw [l2 r hr t ht, rv_n hr (by omega) t ht, k2 r hr t ht], l3⟩
theorem P_rmov {K : Type} [Lean.Grind.CommRing K] {cd : K → Int32} {E : Nat → Int32} {kk : Int32} {md : Nat → Int32} (hC : CX cd E kk md) {rw dg : (Nat → Int32)} {x z : Int32} {a b : Nat} (hx : x = nI a) (hz : z = nI b) (ha : a < 25) (hb : b < 25) (hab : ¬ a = b) {f : Nat → K} (hf : RX cd rw dg a f) (c : K) {fu : Nat} (hfu : 20 ≤ fu) : ∃ rw' dg', f_X5_moved fu kk md rw dg x (cd c) z = some (rw', dg') ∧ FR [b] rw dg rw' dg' ∧ RX cd rw' dg' b (tau c 16 f) := by
  obtain ⟨rw1, dg1, h1, h2, h3⟩ := P_rclear hC rw dg hz hb (show 17 ≤ fu by omega)
  subst hx
  subst hz
  have hf1 := RX_fr h2 (r := a) (fun q => hab (List.mem_singleton.mp q)) hf
  have hs := sq_le hf.1.1
  obtain ⟨y2, rw2, k1, k2, k3⟩ := P_rmov_o hC ha hb hab (f := f) (c := c) hs (fun y24 rw25 =>
    (f_X5_cell rw25 (nI b) 0).bind (fun u26 =>
    (f_X5_set fu rw25 dg1 (nI b) 0 u26).bind (fun u28 =>
    some (u28.1, u28.2)))) fu hfu dg1 (sq f) fu rw1 (Nat.le_refl _) hf1.1 (RW_c h3.1 (fun t => by rw [Nat.sub_self]; rfl)) (by omega)
  rw [← tau_all c (sq_dl hf.1.1) hs] at k3
  obtain ⟨rw3, dg3, m1, m2, m3⟩ := P_rdeg hC dg1 (x := nI b) (y := 0) (r := b) rfl rfl hb k3 (z := cd (tau c 16 f 0)) rfl (show 17 ≤ fu by omega)
  refine ⟨rw3, dg3, ?_, fun r hr => ?_, m3⟩
  · unfold f_X5_moved
    rw [h1, Option.bind_some, if_neg (in25 ha)]
    simp only [nm]
    rw [nI_clamp (by omega), hf1.2]
    refine k1.trans ?_
    show (f_X5_cell rw2 (nI b) 0).bind _ = _
    rw [P_rget (y := 0) (i := 0) rfl rfl hb (by omega) k3, Option.bind_some, m1, Option.bind_some]
  · obtain ⟨e1, e2⟩ := h2 r hr
    obtain ⟨f1, f2⟩ := m2 r hr
    have hrb : ¬ r = b := fun q => hr (by rw [q]; exact List.mem_cons_self)
    exact ⟨fun i hi => by rw [f1 i hi, k2 r hrb i hi, e1 i hi], by rw [f2, e2]⟩
