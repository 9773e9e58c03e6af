/-! Products, divisions and greatest divisors of the reference. -/
theorem P_rmul_i {K : Type} [Lean.Grind.CommRing K] {cd : K → Int32} {E : Nat → Int32} {kk : Int32} {md : Nat → Int32} (hC : CX cd E kk md) {a b c i m : Nat} (ha : a < 25) (hb : b < 25) (hc : c < 25) (hac : ¬ a = c) (hbc : ¬ b = c) {f g : Nat → K} {dg : (Nat → Int32)} (hdb : dg b = dI m) (hgm : dl g m) (him : i + m ≤ 16) (hi : i < 16) (k : Int32 → (Nat → Int32) → Option ((Nat → Int32) × (Nat → Int32))) (fu : Nat) (hfu : 10 ≤ fu) : ∀ (d j n : Nat) (rw : (Nat → Int32)) (w : Nat → K), d + j = m → RW cd (rv rw a) f → RW cd (rv rw b) g → RW cd (rv rw c) w → d < n → ∃ y rw', f_X5_product_l22 k fu kk md dg (nI a) (nI b) (nI c) (nI i) n (nI j) rw = k y rw' ∧ (∀ r, ¬ r = c → ∀ t, t < 16 → rv rw' r t = rv rw r t) ∧ RW cd (rv rw' c) (fun t => w t + if i + j ≤ t then f i * g (t - i) else 0) := by
  intro d
  induction d with
  | zero =>
    intro j n rw w hj hf hg hw hn
    obtain ⟨n, rfl⟩ : ∃ n', n = n' + 1 := ⟨n - 1, by omega⟩
    refine ⟨nI j, rw, ?_, fun _ _ _ _ => rfl, RW_c hw (fun t => ?_)⟩
    · rw [f_X5_product_l22, if_neg (in25 hb), nI_clamp (by omega), hdb, if_pos ((dI_lt (by omega) (by omega)).mpr (by omega))]
    · by_cases q : i + j ≤ t
      · rw [if_pos q, hgm (t - i) (by omega)]; grind
      · rw [if_neg q]; grind
  | succ d ih =>
    intro j n rw w hj hf hg hw hn
    obtain ⟨n, rfl⟩ : ∃ n', n = n' + 1 := ⟨n - 1, by omega⟩
    have hv : rw (16 * c + (i + j)) = cd (w (i + j)) := hw.2 (i + j) (by omega)
    have ie : (16 : Int32) * nI c + nI i + nI j = nI (16 * c + (i + j)) := by rw [ix, nI_add, show 16 * c + i + j = 16 * c + (i + j) by omega]
    rw [f_X5_product_l22, if_neg (in25 hb), nI_clamp (by omega), hdb, if_neg (fun q => by have := (dI_lt (by omega) (by omega)).mp q; omega), ie, if_neg (in400 (by omega)), P_rget rfl rfl ha hi hf, Option.bind_some, P_rget rfl rfl hb (by omega) hg, Option.bind_some, hC.2.2.2.2.2.2.2 fu _ _ hfu, Option.bind_some, nI_clamp (by omega), hv, P_add, hC.2.2.1, Option.bind_some, if_neg (show ¬ (nI (16 * c + (i + j)) < 0 ∨ 400 ≤ 16 * c + (i + j)) from fun q => q.elim (nI_pos (by omega)) (by omega)), nI_1]
    obtain ⟨y, rw', h1, h2, h3⟩ := ih (j + 1) n (upd rw (16 * c + (i + j)) (cd (w (i + j) + f i * g j))) (fun t => if t = i + j then w (i + j) + f i * g j else w t) (by omega) (RW_e hf (rv_n hac (by omega))) (RW_e hg (rv_n hbc (by omega))) (by
      rw [rv_s]
      exact RW_upd hw (by omega) (if_pos rfl) (fun j hj => if_neg hj)) (by omega)
    refine ⟨y, rw', h1, fun r hr t ht => by rw [h2 r hr t ht, rv_n hr (by omega) t ht], RW_c h3 (fun t => ?_)⟩
    by_cases c1 : t = i + j
    · subst c1
      rw [if_pos rfl, if_neg (by omega), if_pos (by omega), show i + j - i = j by omega]; grind
    · rw [if_neg c1]
      by_cases c2 : i + j ≤ t
      · rw [if_pos (show i + (j + 1) ≤ t by omega), if_pos c2]
      · rw [if_neg (show ¬ i + (j + 1) ≤ t by omega), if_neg c2]
theorem P_rmul_o {K : Type} [Lean.Grind.CommRing K] {cd : K → Int32} {E : Nat → Int32} {kk : Int32} {md : Nat → Int32} (hC : CX cd E kk md) {a b c l m : Nat} (ha : a < 25) (hb : b < 25) (hc : c < 25) (hac : ¬ a = c) (hbc : ¬ b = c) {f g : Nat → K} {dg : (Nat → Int32)} (hda : dg a = dI l) (hdb : dg b = dI m) (hfl : dl f l) (hgm : dl g m) (hlm : l + m ≤ 17) (hl16 : l ≤ 16) (k : Int32 → (Nat → Int32) → Option ((Nat → Int32) × (Nat → Int32))) (fu : Nat) (hfu : 20 ≤ fu) : ∀ (d i n : Nat) (rw : (Nat → Int32)), d + i = l → RW cd (rv rw a) f → RW cd (rv rw b) g → RW cd (rv rw c) (pm (tr i f) g) → d < n → ∃ y rw', f_X5_product_l8 k fu kk md dg (nI a) (nI b) (nI c) n (nI i) rw = k y rw' ∧ (∀ r, ¬ r = c → ∀ t, t < 16 → rv rw' r t = rv rw r t) ∧ RW cd (rv rw' c) (pm f g) := by
  intro d
  induction d with
  | zero =>
    intro i n rw hi hf hg hw hn
    obtain ⟨n, rfl⟩ : ∃ n', n = n' + 1 := ⟨n - 1, by omega⟩
    have e : i = l := by omega
    subst e
    rw [tr_all hfl] at hw
    refine ⟨nI i, rw, ?_, fun _ _ _ _ => rfl, hw⟩
    rw [f_X5_product_l8, if_neg (in25 ha), nI_clamp (by omega), hda, if_pos ((dI_lt (by omega) (by omega)).mpr (by omega))]
  | succ d ih =>
    intro i n rw hi hf hg hw hn
    obtain ⟨n, rfl⟩ : ∃ n', n = n' + 1 := ⟨n - 1, by omega⟩
    rw [f_X5_product_l8, if_neg (in25 ha), nI_clamp (by omega), hda, if_neg (fun q => by have := (dI_lt (by omega) (by omega)).mp q; omega)]
    obtain ⟨y, rw', h1, h2, h3⟩ := P_rmul_i hC ha hb hc hac hbc hdb hgm (i := i) (by omega) (by omega) (fun y17 rw18 => f_X5_product_l8 k fu kk md dg (nI a) (nI b) (nI c) n (nI i + 1) rw18) fu (by omega) m 0 fu rw (pm (tr i f) g) (by omega) hf hg hw (by omega)
    rw [show (nI 0 : Int32) = 0 from rfl] at h1
    rw [h1, nI_1]
    obtain ⟨y2, rw2, k1, k2, k3⟩ := ih (i + 1) n rw' (by omega) (RW_e hf (h2 a hac)) (RW_e hg (h2 b hbc)) (RW_c h3 (fun t => by rw [tr_s]; rfl)) (by omega)
    exact ⟨y2, rw2, k1, fun r hr t ht => by rw [k2 r hr t ht, h2 r hr t ht], k3⟩
theorem P_rmul {K R : Type} [Lean.Grind.CommRing K] [Lean.Grind.CommRing R] {cd : K → Int32} {E : Nat → Int32} {kk : Int32} {md : Nat → Int32} (hC : CX cd E kk md) {cf : R → Nat → K} {deg : R → Nat} {mon : R → Prop} {X : R} {Cc : K → R} {Kl : List R} {q : Nat} (hR : PR cf deg mon X Cc Kl q) {rw dg : (Nat → Int32)} {x y z : Int32} {a b c : Nat} (hx : x = nI a) (hy : y = nI b) (hz : z = nI c) (ha : a < 25) (hb : b < 25) (hc : c < 25) (hac : ¬ a = c) (hbc : ¬ b = c) {A B : R} (hA : RX cd rw dg a (cf A)) (hB : RX cd rw dg b (cf B)) (hs : sq (cf A) + sq (cf B) ≤ 17) {fu : Nat} (hfu : 20 ≤ fu) : ∃ rw' dg', f_X5_product fu kk md rw dg x y z = some (rw', dg') ∧ FR [c] rw dg rw' dg' ∧ RX cd rw' dg' c (cf (A * B)) := by
  subst hx
  subst hy
  obtain ⟨rw1, dg1, h1, h2, h3⟩ := P_rclear hC rw dg hz hc (show 17 ≤ fu by omega)
  subst hz
  have nc : ∀ r, ¬ r = c → ¬ r ∈ [c] := fun r hr q => hr (List.mem_singleton.mp q)
  have hA1 := RX_fr h2 (nc a hac) hA
  have hB1 := RX_fr h2 (nc b hbc) hB
  have sA := sq_le hA.1.1
  have sB := sq_le hB.1.1
  obtain ⟨y2, rw2, k1, k2, k3⟩ := P_rmul_o hC ha hb hc hac hbc hA1.2 hB1.2 (pr_dl hR A) (pr_dl hR B) hs (by omega) (fun y19 rw20 =>
    if (nI a) < 0 ∨ 25 ≤ (nI a).toNatClampNeg then none else
    ((
      if (dg1 (nI a).toNatClampNeg) < 0 then
        some (-1)
      else
        if (nI b) < 0 ∨ 25 ≤ (nI b).toNatClampNeg then none else
        ((
          if 0 ≤ (dg1 (nI b).toNatClampNeg) then
            if (nI a) < 0 ∨ 25 ≤ (nI a).toNatClampNeg then none else
            if (nI b) < 0 ∨ 25 ≤ (nI b).toNatClampNeg then none else
            some ((dg1 (nI a).toNatClampNeg) + (dg1 (nI b).toNatClampNeg))
          else
            some (-1) : Option (Int32))).bind (fun w25 =>
        some w25) : Option (Int32))).bind (fun w22 =>
    if (nI c) < 0 ∨ 25 ≤ (nI c).toNatClampNeg then none else
    some (rw20, upd dg1 (nI c).toNatClampNeg w22))) fu hfu (sq (cf A)) 0 fu rw1 (by omega) hA1.1 hB1.1 (RW_c h3.1 (fun t => by rw [tr_0])) (by omega)
  have fin : ∀ v, v = dI (sq (cf (A * B))) → ∃ rw' dg', some (rw2, upd dg1 c v) = some (rw', dg') ∧ FR [c] rw dg rw' dg' ∧ RX cd rw' dg' c (cf (A * B)) := fun v hv => ⟨rw2, upd dg1 c v, rfl, fun r hr => by
    have hrc : ¬ r = c := fun q => hr (by rw [q]; exact List.mem_cons_self)
    obtain ⟨e1, e2⟩ := h2 r hr
    exact ⟨fun i hi => by rw [k2 r hrc i hi, e1 i hi], by rw [pk_un hrc, e2]⟩, by rw [pr_mul hR]; exact k3, by rw [pk_us, hv]⟩
  unfold f_X5_product
  rw [h1, Option.bind_some]
  show ∃ rw' dg', f_X5_product_l8 _ fu kk md dg1 (nI a) (nI b) (nI c) fu (nI 0) rw1 = some (rw', dg') ∧ _
  rw [k1, if_neg (in25 ha), nI_clamp (by omega), nI_clamp (by omega), hA1.2, hB1.2]
  by_cases zA : A = 0
  · rw [(pr_sq0 hR A).mpr zA, if_pos dI_neg, Option.bind_some, if_neg (in25 hc), nI_clamp (by omega)]
    exact fin (-1) (by rw [show A * B = 0 by rw [zA]; grind, (pr_sq0 hR 0).mpr rfl]; rfl)
  · rw [pr_sq hR zA, dI_s, if_neg (nI_pos (by rw [pr_sq hR zA] at sA; omega))]
    by_cases zB : B = 0
    · rw [(pr_sq0 hR B).mpr zB, if_neg (show ¬ (nI b < 0 ∨ 25 ≤ b) from fun q => q.elim (nI_pos (by omega)) (by omega)), if_neg (show ¬ (0 : Int32) ≤ dI 0 by decide), Option.bind_some, Option.bind_some, if_neg (in25 hc), nI_clamp (by omega)]
      exact fin (-1) (by rw [show A * B = 0 by rw [zB]; grind, (pr_sq0 hR 0).mpr rfl]; rfl)
    · have sm := pr_sqm hR zA zB
      rw [pr_sq hR zA, pr_sq hR zB] at sm
      rw [pr_sq hR zA] at sA
      rw [pr_sq hR zB] at sB
      rw [pr_sq hR zB, dI_s, if_neg (show ¬ (nI b < 0 ∨ 25 ≤ b) from fun q => q.elim (nI_pos (by omega)) (by omega)), if_pos (nI_pos' (by omega)), if_neg (show ¬ (nI a < 0 ∨ 25 ≤ a) from fun q => q.elim (nI_pos (by omega)) (by omega)), if_neg (show ¬ (nI b < 0 ∨ 25 ≤ b) from fun q => q.elim (nI_pos (by omega)) (by omega)), Option.bind_some, Option.bind_some, if_neg (in25 hc), nI_clamp (by omega), nI_add]
      exact fin _ (by rw [show sq (cf (A * B)) = deg A + deg B + 1 by omega, dI_s])
theorem P_rdiv_i {K : Type} [Lean.Grind.CommRing K] {cd : K → Int32} {E : Nat → Int32} {kk : Int32} {md : Nat → Int32} (hC : CX cd E kk md) {a b d i : Nat} (ha : a < 25) (hb : b < 25) (hab : ¬ b = a) {g : Nat → K} (hg' : dl g (d + 1)) (hdi : d ≤ i) (hi : i < 16) {c : K} (k : Int32 → (Nat → Int32) → Option ((Nat → Int32) × (Nat → Int32))) (fu : Nat) (hfu : 10 ≤ fu) (mn : Int64) (dg : (Nat → Int32)) (x3 x4 : Int32) : ∀ (e j n : Nat) (rw : (Nat → Int32)) (p : Nat → K), e + j = d + 1 → RW cd (rv rw b) g → RW cd (rv rw a) p → e < n → ∃ y rw', f_X5_divide_l63 k fu kk mn md dg (nI a) (nI b) x3 x4 (nI d) (nI i) (cd c) n (nI j) rw = k y rw' ∧ (∀ r, ¬ r = a → ∀ t, t < 16 → rv rw' r t = rv rw r t) ∧ RW cd (rv rw' a) (fun t => p t - if i - d + j ≤ t then c * g (t - (i - d)) else 0) := by
  intro e
  induction e with
  | zero =>
    intro j n rw p hj hg hp hn
    obtain ⟨n, rfl⟩ : ∃ n', n = n' + 1 := ⟨n - 1, by omega⟩
    refine ⟨nI j, rw, by rw [f_X5_divide_l63, if_pos (nI_lt (by omega) (by omega))], fun _ _ _ _ => rfl, RW_c hp (fun t => ?_)⟩
    by_cases c1 : i - d + j ≤ t
    · rw [if_pos c1, hg' (t - (i - d)) (by omega)]; grind
    · rw [if_neg c1]; grind
  | succ e ih =>
    intro j n rw p hj hg hp hn
    obtain ⟨n, rfl⟩ : ∃ n', n = n' + 1 := ⟨n - 1, by omega⟩
    rw [f_X5_divide_l63, if_neg (nI_nlt (by omega) (by omega))]
    by_cases c0 : cd c = 0
    · rw [if_pos c0]
      refine ⟨nI j, rw, rfl, fun _ _ _ _ => rfl, RW_c hp (fun t => ?_)⟩
      rw [(cd_0 hC c).mp c0]
      by_cases c1 : i - d + j ≤ t
      · rw [if_pos c1]; grind
      · rw [if_neg c1]; grind
    · have hv : rw (16 * a + (i - d + j)) = cd (p (i - d + j)) := hp.2 (i - d + j) (by omega)
      have ie : (16 : Int32) * nI a + nI i - nI d + nI j = nI (16 * a + (i - d + j)) := by rw [ix, pk_sub (by omega), nI_add, show 16 * a + i - d + j = 16 * a + (i - d + j) by omega]
      rw [if_neg c0, ie, if_neg (in400 (by omega)), P_rget rfl rfl hb (by omega) hg, Option.bind_some, hC.2.2.2.2.2.2.2 fu _ _ hfu, Option.bind_some, nI_clamp (by omega), hv, hC.2.2.2.2.2.1, Option.bind_some, if_neg (show ¬ (nI (16 * a + (i - d + j)) < 0 ∨ 400 ≤ 16 * a + (i - d + j)) from fun q => q.elim (nI_pos (by omega)) (by omega)), nI_1]
      obtain ⟨y, rw', h1, h2, h3⟩ := ih (j + 1) n (upd rw (16 * a + (i - d + j)) (cd (p (i - d + j) - c * g j))) (fun t => if t = i - d + j then p (i - d + j) - c * g j else p t) (by omega) (RW_e hg (rv_n hab (by omega))) (by
        rw [rv_s]
        exact RW_upd hp (by omega) (if_pos rfl) (fun j hj => if_neg hj)) (by omega)
      refine ⟨y, rw', h1, fun r hr t ht => by rw [h2 r hr t ht, rv_n hr (by omega) t ht], RW_c h3 (fun t => ?_)⟩
      by_cases c1 : t = i - d + j
      · subst c1
        rw [if_pos rfl, if_neg (by omega), if_pos (by omega), show i - d + j - (i - d) = j by omega]; grind
      · rw [if_neg c1]
        by_cases c2 : i - d + j ≤ t
        · rw [if_pos (show i - d + (j + 1) ≤ t by omega), if_pos c2]
        · rw [if_neg (show ¬ i - d + (j + 1) ≤ t by omega), if_neg c2]
theorem P_rdiv_o {K : Type} [Lean.Grind.CommRing K] {cd : K → Int32} {E : Nat → Int32} {kk : Int32} {md : Nat → Int32} (hC : CX cd E kk md) {a b c d N : Nat} (ha : a < 25) (hb : b < 25) (hc : c < 25) (hab : ¬ b = a) (hac : ¬ a = c) (hbc : ¬ b = c) {f g : Nat → K} {u : K} (hu : g d * u = 1) (hd : d < 16) (hg' : dl g (d + 1)) (hN : N ≤ 16) (k : Int32 → (Nat → Int32) → Option ((Nat → Int32) × (Nat → Int32))) (fu : Nat) (hfu : 20 ≤ fu) (mn : Int64) (dg : (Nat → Int32)) : ∀ (s n : Nat) (rw : (Nat → Int32)) (p qv : Nat → K), s ≤ N → RW cd (rv rw b) g → RW cd (rv rw a) p → RW cd (rv rw c) qv → dl p s → (∀ t, t + d < s → qv t = 0) → (∀ t, f t = pm qv g t + p t) → s < n → ∃ y rw' q r, f_X5_divide_l38 k fu kk mn md dg (nI a) (nI b) (nI c) (cd u) (nI d) n (dI s) rw = k y rw' ∧ (∀ x, ¬ x = c → ¬ x = a → ∀ t, t < 16 → rv rw' x t = rv rw x t) ∧ RW cd (rv rw' c) q ∧ RW cd (rv rw' a) r ∧ (∀ t, f t = pm q g t + r t) ∧ dl r d := by
  intro s
  induction s with
  | zero =>
    intro n rw p qv hs hg hp hq h1 h3 h4 hn
    obtain ⟨n, rfl⟩ : ∃ n', n = n' + 1 := ⟨n - 1, by omega⟩
    refine ⟨dI 0, rw, qv, p, ?_, fun _ _ _ _ _ => rfl, hq, hp, h4, fun i hi => h1 i (by omega)⟩
    rw [f_X5_divide_l38, if_pos ((dI_lt (by omega) (by omega)).mpr (by omega))]
  | succ s ih =>
    intro n rw p qv hs hg hp hq h1 h3 h4 hn
    obtain ⟨n, rfl⟩ : ∃ n', n = n' + 1 := ⟨n - 1, by omega⟩
    by_cases q : s < d
    · refine ⟨dI (s + 1), rw, qv, p, ?_, fun _ _ _ _ _ => rfl, hq, hp, h4, fun i hi => h1 i (by omega)⟩
      rw [f_X5_divide_l38, if_pos ((dI_lt (by omega) (by omega)).mpr (by omega))]
    · rw [f_X5_divide_l38, if_neg (fun q => by have := (dI_lt (by omega) (by omega)).mp q; omega), dI_s, P_rget rfl rfl ha (by omega) hp, Option.bind_some, hC.2.2.2.2.2.2.2 fu _ _ (by omega), Option.bind_some]
      have ie : (16 : Int32) * nI c + nI s - nI d = nI (16 * c + (s - d)) := by rw [ix, pk_sub (by omega), show 16 * c + s - d = 16 * c + (s - d) by omega]
      obtain ⟨y, rw1, k1, k2, k3⟩ := P_rdiv_i hC ha hb hab hg' (i := s) (by omega) (by omega) (c := p s * u) (fun y27 rw28 => if (((16 * nI c) + nI s) - nI d) < 0 ∨ 400 ≤ (((16 * nI c) + nI s) - nI d).toNatClampNeg then none else f_X5_divide_l38 k fu kk mn md dg (nI a) (nI b) (nI c) (cd u) (nI d) n (nI s + (-1)) (upd rw28 (((16 * nI c) + nI s) - nI d).toNatClampNeg (cd (p s * u)))) fu (by omega) mn dg (nI c) (cd u) (d + 1) 0 fu rw p (by omega) hg hp (by omega)
      rw [show (nI 0 : Int32) = 0 from rfl] at k1
      rw [k1, ie, if_neg (in400 (by omega)), nI_clamp (by omega), dI_m]
      obtain ⟨y2, rw2, q2, r2, l1, l2, l3, l4, l5, l6⟩ := ih n (upd rw1 (16 * c + (s - d)) (cd (p s * u))) (fun t => p t - if s - d + 0 ≤ t then p s * u * g (t - (s - d)) else 0) (fun t => if t = s - d then p s * u else qv t) (by omega) (RW_e (RW_e hg (k2 b hab)) (rv_n hbc (by omega))) (RW_e k3 (rv_n hac (by omega))) (by
        rw [rv_s]
        exact RW_upd (RW_e hq (k2 c (fun e => hac e.symm))) (by omega) (if_pos rfl) (fun j hj => if_neg hj)) (fun t ht => by
        show p t - (if s - d + 0 ≤ t then p s * u * g (t - (s - d)) else 0) = 0
        rw [if_pos (by omega)]
        by_cases e : t = s
        · rw [e, show s - (s - d) = d by omega]
          have : p s * u * g d = p s := by
            rw [show p s * u * g d = p s * (g d * u) by grind, hu]; grind
          rw [this]; grind
        · rw [h1 t (by omega), hg' _ (by omega)]; grind) (fun t ht => by
        show (if t = s - d then p s * u else qv t) = 0
        rw [if_neg (by omega)]
        exact h3 t (by omega)) (fun t => by
        show _ = pm (fun t => if t = s - d then p s * u else qv t) g t + (p t - if s - d + 0 ≤ t then p s * u * g (t - (s - d)) else 0)
        rw [pm_put g (h3 (s - d) (by omega)), Nat.add_zero, h4 t]; grind) (by omega)
      exact ⟨y2, rw2, q2, r2, l1, fun x hx1 hx2 t ht => by rw [l2 x hx1 hx2 t ht, rv_n hx1 (by omega) t ht, k2 x hx2 t ht], l3, l4, l5, l6⟩
theorem P_rdiv {K R : Type} [Lean.Grind.CommRing K] [Lean.Grind.CommRing R] {cd : K → Int32} {E : Nat → Int32} {kk : Int32} {md : Nat → Int32} (hC : CX cd E kk md) {cf : R → Nat → K} {deg : R → Nat} {mon : R → Prop} {X : R} {Cc : K → R} {Kl : List R} {q : Nat} (hR : PR cf deg mon X Cc Kl q) {mn : Int64} (hF : FX K q E mn) {rw dg : (Nat → Int32)} {x y z : Int32} {a b c : Nat} (hx : x = nI a) (hy : y = nI b) (hz : z = nI c) (ha : a < 25) (hb : b < 25) (hc : c < 25) (hab : ¬ b = a) (hac : ¬ a = c) (hbc : ¬ b = c) {f g : R} (hf : RX cd rw dg a (cf f)) (hg : RX cd rw dg b (cf g)) (g0 : ¬ g = 0) {fu : Nat} (hfu : 64 ≤ fu) : ∃ rw' dg' q r, f_X5_divide fu kk mn md rw dg x y z = some (rw', dg') ∧ FR [a, c] rw dg rw' dg' ∧ RX cd rw' dg' c (cf q) ∧ RX cd rw' dg' a (cf r) ∧ f = q * g + r ∧ sq (cf r) < sq (cf g) := by
  obtain ⟨rw1, dg1, h1, h2, h3⟩ := P_rclear hC rw dg hz hc (show 17 ≤ fu by omega)
  subst hx
  subst hy
  subst hz
  have nc : ∀ r, ¬ r = c → ¬ r ∈ [c] := fun r hr q => hr (List.mem_singleton.mp q)
  have hf1 := RX_fr h2 (nc a hac) hf
  have hg1 := RX_fr h2 (nc b hbc) hg
  have sg := pr_sq hR g0
  have hs := sq_le hg.1.1
  have hsf := sq_le hf.1.1
  have hgd : ¬ cf g (deg g) = 0 := sq_ne (pr_dl hR g) sg
  have hg' := pr_dl hR g
  rw [sg] at hg'
  have inv := fx_inv hF hgd
  obtain ⟨y2, rw2, q2, r2, l1, l2, l3, l4, l5, l6⟩ := P_rdiv_o hC ha hb hc hab hac hbc (f := cf f) (g := cf g) (u := cf g (deg g) ^ (q - 2)) (d := deg g) (N := 16) (by grind) (by omega) hg' (by omega) (fun y30 rw31 =>
    (f_X5_cell rw31 (nI a) 0).bind (fun u32 =>
    (f_X5_set fu rw31 dg1 (nI a) 0 u32).bind (fun u34 =>
    (f_X5_cell u34.1 (nI c) 0).bind (fun u36 =>
    (f_X5_set fu u34.1 u34.2 (nI c) 0 u36).bind (fun u38 =>
    some (u38.1, u38.2)))))) fu (by omega) mn dg1 (sq (cf f)) fu rw1 (cf f) (fun _ => 0) (by omega) hg1.1 hf1.1 h3.1 (pr_dl hR f) (fun _ _ => rfl) (fun t => by
    rw [show pm (fun _ => (0 : K)) (cf g) t = 0 from sm_zero (fun i _ => by grind)]; grind) (by omega)
  obtain ⟨qR, rfl⟩ := pr_ex hR l3.1
  obtain ⟨rR, rfl⟩ := pr_ex hR l4.1
  obtain ⟨rw3, dg3, m1, m2, m3⟩ := P_rdeg hC dg1 (x := nI a) (y := 0) (r := a) rfl rfl ha l4 (z := cd (cf rR 0)) rfl (show 17 ≤ fu by omega)
  obtain ⟨rw4, dg4, n1, n2, n3⟩ := P_rdeg hC dg3 (x := nI c) (y := 0) (r := c) rfl rfl hc (RW_e l3 (m2 c (fun q => hac (List.mem_singleton.mp q).symm)).1) (z := cd (cf qR 0)) rfl (show 17 ≤ fu by omega)
  refine ⟨rw4, dg4, qR, rR, ?_, fun r hr => ?_, n3, RX_fr n2 (fun q => hac (List.mem_singleton.mp q)) m3, pr_ext hR (fun i => by rw [pr_add hR, pr_mul hR, l5]), by have := sq_le l6; omega⟩
  · unfold f_X5_divide
    rw [h1, Option.bind_some, if_neg (in25 hb)]
    show (f_X5_cell rw1 (nI b) (dg1 (nI b).toNatClampNeg)).bind _ = _
    rw [nI_clamp (by omega), hg1.2, sg, dI_s, P_rget rfl rfl hb (by omega) hg1.1, Option.bind_some, P_rinv hC hF hfu, Option.bind_some, if_neg (show ¬ (nI b < 0 ∨ 25 ≤ b) from fun q => q.elim (nI_pos (by omega)) (by omega))]
    simp only [nm]
    rw [if_neg (in25 ha), nI_clamp (by omega), hf1.2, hg1.2, sg, dI_s, l1, P_rget (y := 0) (i := 0) rfl rfl ha (by omega) l4, Option.bind_some, m1, Option.bind_some]
    show (f_X5_cell rw3 (nI c) 0).bind _ = _
    rw [P_rget (y := 0) (i := 0) rfl rfl hc (by omega) (RW_e l3 (m2 c (fun q => hac (List.mem_singleton.mp q).symm)).1), Option.bind_some]
    show (f_X5_set fu rw3 dg3 (nI c) 0 (cd (cf qR 0))).bind _ = _
    rw [n1, Option.bind_some]
  · rw [List.mem_cons, not_or, List.mem_singleton] at hr
    obtain ⟨e1, e2⟩ := h2 r (fun q => hr.2 (List.mem_singleton.mp q))
    obtain ⟨f1, f2⟩ := m2 r (fun q => hr.1 (List.mem_singleton.mp q))
    obtain ⟨g1, g2⟩ := n2 r (fun q => hr.2 (List.mem_singleton.mp q))
    exact ⟨fun i hi => by rw [g1 i hi, f1 i hi, l2 r hr.2 hr.1 i hi, e1 i hi], by rw [g2, f2, e2]⟩
theorem pr_dun2 {K R : Type} [Lean.Grind.CommRing K] [Lean.Grind.CommRing R] {cf : R → Nat → K} {deg : R → Nat} {mon : R → Prop} {X : R} {Cc : K → R} {Kl : List R} {q : Nat} (hR : PR cf deg mon X Cc Kl q) {g q1 r1 q2 r2 : R} (g0 : ¬ g = 0) (h : q1 * g + r1 = q2 * g + r2) (h1 : sq (cf r1) < sq (cf g)) (h2 : sq (cf r2) < sq (cf g)) : q1 = q2 ∧ r1 = r2 := by
  have e : (q1 - q2) * g = r2 - r1 := by grind
  by_cases z : q1 - q2 = 0
  · exact ⟨by grind, by rw [z] at e; grind⟩
  · exfalso
    have hm := pr_sqm hR z g0
    rw [e, pr_sq hR z] at hm
    have : sq (cf (r2 - r1)) ≤ sq (cf g) - 1 := sq_le (fun i hi => by
      rw [pr_sub hR, pr_dl hR r2 i (by omega), pr_dl hR r1 i (by omega)]; grind)
    omega
theorem P_rmon_l {K : Type} [Lean.Grind.CommRing K] {cd : K → Int32} {E : Nat → Int32} {kk : Int32} {md : Nat → Int32} (hC : CX cd E kk md) {a N : Nat} (ha : a < 25) {f : Nat → K} {u : K} (hN : N ≤ 16) (hd : dl f N) (k : Int32 → (Nat → Int32) → Option (Nat → Int32)) (fu : Nat) (hfu : 10 ≤ fu) (mn : Int64) {dg : (Nat → Int32)} (hdg : dg a = dI N) : ∀ (e j n : Nat) (rw : (Nat → Int32)), e + j = N → RW cd (rv rw a) (fun t => if t < j then f t * u else f t) → e < n → ∃ y rw', f_X5_monic_l28 k fu kk mn md dg (nI a) (cd u) n (nI j) rw = k y rw' ∧ (∀ r, ¬ r = a → ∀ t, t < 16 → rv rw' r t = rv rw r t) ∧ RW cd (rv rw' a) (fun t => u * f t) := by
  intro e
  induction e with
  | zero =>
    intro j n rw hj hf hn
    obtain ⟨n, rfl⟩ : ∃ n', n = n' + 1 := ⟨n - 1, by omega⟩
    refine ⟨nI j, rw, by rw [f_X5_monic_l28, if_neg (in25 ha), nI_clamp (by omega), hdg, if_pos ((dI_lt (by omega) (by omega)).mpr (by omega))], fun _ _ _ _ => rfl, RW_c hf (fun t => ?_)⟩
    by_cases c : t < j
    · rw [if_pos c]; grind
    · rw [if_neg c, hd t (by omega)]; grind
  | succ e ih =>
    intro j n rw hj hf hn
    obtain ⟨n, rfl⟩ : ∃ n', n = n' + 1 := ⟨n - 1, by omega⟩
    rw [f_X5_monic_l28, if_neg (in25 ha), nI_clamp (by omega), hdg, if_neg (fun q => by have := (dI_lt (by omega) (by omega)).mp q; omega), P_rget rfl rfl ha (by omega) hf, Option.bind_some, if_neg (by omega), hC.2.2.2.2.2.2.2 fu _ _ hfu, Option.bind_some, ix, if_neg (in400 (by omega)), nI_clamp (by omega), nI_1]
    obtain ⟨y, rw', h1, h2, h3⟩ := ih (j + 1) n (upd rw (16 * a + j) (cd (f j * u))) (by omega) (by
      rw [rv_s]
      refine RW_upd hf (by omega) (if_pos (by omega)) (fun t ht => ?_)
      by_cases c1 : t < j
      · rw [if_pos c1, if_pos (by omega)]
      · rw [if_neg c1, if_neg (by omega)]) (by omega)
    exact ⟨y, rw', h1, fun r hr t ht => by rw [h2 r hr t ht, rv_n hr (by omega) t ht], h3⟩
theorem P_rmon {K R : Type} [Lean.Grind.CommRing K] [Lean.Grind.CommRing R] {cd : K → Int32} {E : Nat → Int32} {kk : Int32} {md : Nat → Int32} (hC : CX cd E kk md) {cf : R → Nat → K} {deg : R → Nat} {mon : R → Prop} {X : R} {Cc : K → R} {Kl : List R} {q : Nat} (hR : PR cf deg mon X Cc Kl q) {mn : Int64} (hF : FX K q E mn) {rw dg : (Nat → Int32)} {x : Int32} {a : Nat} (hx : x = nI a) (ha : a < 25) {f : R} (hf : RX cd rw dg a (cf f)) {fu : Nat} (hfu : 64 ≤ fu) : ∃ rw' w w', f_X5_monic fu kk mn md rw dg x = some rw' ∧ FR [a] rw dg rw' dg ∧ RX cd rw' dg a (cf (w * f)) ∧ w * w' = 1 ∧ (f = 0 ∨ mon (w * f)) := by
  subst hx
  have hs := sq_le hf.1.1
  unfold f_X5_monic
  rw [if_neg (in25 ha), nI_clamp (by omega), hf.2]
  by_cases z : f = 0
  · rw [(pr_sq0 hR f).mpr z, if_neg (by decide)]
    exact ⟨rw, 1, 1, rfl, FR_rf _ _ _, by rw [show 1 * f = f by grind]; exact hf, by grind, Or.inl z⟩
  · have sf := pr_sq hR z
    have hfd : ¬ cf f (deg f) = 0 := sq_ne (pr_dl hR f) sf
    have hf' := pr_dl hR f
    rw [sf] at hf'
    have inv := fx_inv hF hfd
    have dgf := hf.2
    rw [sf] at dgf
    obtain ⟨y, rw', l1, l2, l3⟩ := P_rmon_l hC ha (f := cf f) (u := cf f (deg f) ^ (q - 2)) (N := deg f + 1) (by omega) hf' (fun y15 rw16 => some rw16) fu (by omega) mn dgf (deg f + 1) 0 fu rw (by omega) (RW_c hf.1 (fun t => (if_neg (by omega)).symm)) (by omega)
    rw [sf, dI_s, if_pos (nI_pos' (by omega)), if_neg (show ¬ (nI a < 0 ∨ 25 ≤ a) from fun q => q.elim (nI_pos (by omega)) (by omega)), P_rget rfl rfl ha (by omega) hf.1, Option.bind_some, P_rinv hC hF hfu, Option.bind_some]
    have hw : Cc (cf f (deg f) ^ (q - 2)) * Cc (cf f (deg f)) = 1 := pr_C1 hR inv
    have hm : mon (Cc (cf f (deg f) ^ (q - 2)) * f) := by
      refine (pr_mon hR _).mpr ⟨deg f, ?_, ?_⟩
      · rw [pr_scale hR]; exact inv
      · rw [pr_scale hR]
        intro i hi
        show _ * cf f i = 0
        rw [hf' i hi]; grind
    refine ⟨rw', Cc (cf f (deg f) ^ (q - 2)), Cc (cf f (deg f)), l1, fun r hr => ⟨l2 r (fun q => hr (by rw [q]; exact List.mem_cons_self)), rfl⟩, ⟨by rw [pr_scale hR]; exact l3, ?_⟩, hw, Or.inr hm⟩
    have : sq (cf (Cc (cf f (deg f) ^ (q - 2)) * f)) = deg f + 1 := by
      have u0 : ∀ a b : R, a * b = 1 → ¬ a = 0 := fun a b e z => (pr_eu hR).2.2.2.2.1.1 (by rw [← e, z]; grind)
      have a1 := pr_sqm hR (u0 _ _ hw) z
      have a2 := pr_sqm hR (u0 _ _ hw) (u0 _ _ (show Cc (cf f (deg f)) * Cc (cf f (deg f) ^ (q - 2)) = 1 by grind))
      rw [hw, pr_sq hR (pr_eu hR).2.2.2.2.1.1, (pr_eu hR).2.2.2.2.1.2.2] at a2
      have b1 : ∀ e : R, ¬ e = 0 → 1 ≤ sq (cf e) := fun e he => by have := pr_sq hR he; omega
      have b2 := b1 _ (u0 _ _ hw)
      have b3 := b1 _ (u0 _ _ (show Cc (cf f (deg f)) * Cc (cf f (deg f) ^ (q - 2)) = 1 by grind))
      omega
    rw [this, dgf]
theorem P_rgcd_l {K R : Type} [Lean.Grind.CommRing K] [Lean.Grind.CommRing R] {cd : K → Int32} {E : Nat → Int32} {kk : Int32} {md : Nat → Int32} (hC : CX cd E kk md) {cf : R → Nat → K} {deg : R → Nat} {mon : R → Prop} {X : R} {Cc : K → R} {Kl : List R} {q : Nat} (hR : PR cf deg mon X Cc Kl q) {mn : Int64} (hF : FX K q E mn) {x1 x2 : Int32} {a b : Nat} (hx1 : x1 = nI a) (hx2 : x2 = nI b) (ha : a < 25) (hb : b < 25) (ha5 : ¬ a = 5) (hb5 : ¬ b = 5) (hab : ¬ a = b) (k : Int32 → (Nat → Int32) → (Nat → Int32) → Option ((Nat → Int32) × (Nat → Int32))) (fu : Nat) (hfu : 64 ≤ fu) : ∀ (s n j : Nat) (rw dg : (Nat → Int32)) (A B : R), sq (cf B) ≤ s → s + j ≤ 16 → RX cd rw dg a (cf A) → RX cd rw dg b (cf B) → s < n → ∃ y rw' dg' A', f_X5_divisor_l2 k fu kk mn md x1 x2 n (nI j) rw dg = k y rw' dg' ∧ FR [a, b, 5] rw dg rw' dg' ∧ RX cd rw' dg' a (cf A') ∧ SI A' 0 A B := by
  subst hx1
  subst hx2
  intro s
  induction s with
  | zero =>
    intro n j rw dg A B hs hj hA hB hn
    obtain ⟨n, rfl⟩ : ∃ n', n = n' + 1 := ⟨n - 1, by omega⟩
    have hb0 : B = 0 := (pr_sq0 hR B).mp (by omega)
    refine ⟨nI j, rw, dg, A, ?_, FR_rf _ _ _, hA, by rw [hb0]; exact SI_rf A 0⟩
    rw [f_X5_divisor_l2, if_neg (show ¬ (40 : Int32) ≤ nI j from nI_ge (b := 40) (by omega) (by decide)), if_neg (in25 hb), nI_clamp (by omega), hB.2, show sq (cf B) = 0 by omega, if_pos dI_neg]
  | succ s ih =>
    intro n j rw dg A B hs hj hA hB hn
    obtain ⟨n, rfl⟩ : ∃ n', n = n' + 1 := ⟨n - 1, by omega⟩
    rw [f_X5_divisor_l2, if_neg (show ¬ (40 : Int32) ≤ nI j from nI_ge (b := 40) (by omega) (by decide)), if_neg (in25 hb), nI_clamp (by omega), hB.2]
    by_cases hb0 : B = 0
    · rw [(pr_sq0 hR B).mpr hb0, if_pos dI_neg]
      exact ⟨nI j, rw, dg, A, rfl, FR_rf _ _ _, hA, by rw [hb0]; exact SI_rf A 0⟩
    · have sB := pr_sq hR hb0
      have hsB := sq_le hB.1.1
      rw [sB, dI_s, if_neg (nI_pos (by omega))]
      obtain ⟨rw1, dg1, qq, r, k1, k2, k3, k4, k5, k6⟩ := P_rdiv hC hR hF (x := nI a) (y := nI b) (z := 5) (a := a) (b := b) (c := 5) rfl rfl rfl ha hb (by omega) (fun e => hab e.symm) ha5 hb5 hA hB hb0 hfu
      have hB1 := RX_fr k2 (r := b) (by simp; omega) hB
      obtain ⟨rw2, dg2, l1, l2, l3⟩ := P_rcopy (x := nI a) (y := 5) (a := a) (b := 5) rfl rfl ha (by omega) ha5 k4 (show 17 ≤ fu by omega)
      have hB2 := RX_fr l2 (r := b) (by simp; omega) hB1
      obtain ⟨rw3, dg3, m1, m2, m3⟩ := P_rcopy (x := nI b) (y := nI a) (a := b) (b := a) rfl rfl hb ha (fun e => hab e.symm) hB2 (show 17 ≤ fu by omega)
      have hr3 := RX_fr m2 (r := 5) (by simp; omega) l3
      obtain ⟨rw4, dg4, n1, n2, n3⟩ := P_rcopy (x := 5) (y := nI b) (a := 5) (b := b) rfl rfl (by omega) hb (fun e => hb5 e.symm) hr3 (show 17 ≤ fu by omega)
      have hA4 := RX_fr n2 (r := a) (by simp; omega) m3
      rw [k1, Option.bind_some]
      show ∃ y rw' dg' A', (f_X5_copy fu rw1 dg1 (nI a) 5).bind _ = _ ∧ _
      rw [l1, Option.bind_some]
      show ∃ y rw' dg' A', (f_X5_copy fu rw2 dg2 (nI b) (nI a)).bind _ = _ ∧ _
      rw [m1, Option.bind_some]
      show ∃ y rw' dg' A', (f_X5_copy fu rw3 dg3 5 (nI b)).bind _ = _ ∧ _
      rw [n1, Option.bind_some, nI_1]
      obtain ⟨y, rw', dg', A', t1, t2, t3, t4⟩ := ih n (j + 1) rw4 dg4 B r (by omega) (by omega) hA4 n3 (by omega)
      refine ⟨y, rw', dg', A', t1, FR_mo (FR_tr k2 (FR_tr l2 (FR_tr m2 (FR_tr n2 t2)))) (fun r hr => ?_), t3, SI_tr t4 ?_⟩
      · simp at hr ⊢
        omega
      · have := SI_step (a := A) (b := B) (w := 1) (w' := 1) (q := qq) (r := r) (by grind) (by rw [k5]; grind)
        rw [show (1 : R) * B = B by grind] at this
        exact this
theorem P_rgcd {K R : Type} [Lean.Grind.CommRing K] [Lean.Grind.CommRing R] {cd : K → Int32} {E : Nat → Int32} {kk : Int32} {md : Nat → Int32} (hC : CX cd E kk md) {cf : R → Nat → K} {deg : R → Nat} {mon : R → Prop} {X : R} {Cc : K → R} {Kl : List R} {q : Nat} (hR : PR cf deg mon X Cc Kl q) {mn : Int64} (hF : FX K q E mn) {rw dg : (Nat → Int32)} {x1 x2 : Int32} {a b : Nat} (hx1 : x1 = nI a) (hx2 : x2 = nI b) (ha : a < 25) (hb : b < 25) (ha5 : ¬ a = 5) (hb5 : ¬ b = 5) (hab : ¬ a = b) {A B : R} (hA : RX cd rw dg a (cf A)) (hB : RX cd rw dg b (cf B)) {fu : Nat} (hfu : 64 ≤ fu) : ∃ rw' dg' g, f_X5_divisor fu kk mn md rw dg x1 x2 = some (rw', dg') ∧ FR [a, b, 5] rw dg rw' dg' ∧ RX cd rw' dg' a (cf g) ∧ GC mon A B g := by
  have hsB := sq_le hB.1.1
  obtain ⟨y, rw1, dg1, A', t1, t2, t3, t4⟩ := P_rgcd_l hC hR hF hx1 hx2 ha hb ha5 hb5 hab (fun y12 rw13 dg14 => (f_X5_monic fu kk mn md rw13 dg14 x1).bind (fun u15 => some (u15, dg14))) fu hfu 16 fu 0 rw dg A B hsB (by omega) hA hB (by omega)
  obtain ⟨rw2, w, w', m1, m2, m3, m4, m5⟩ := P_rmon hC hR hF hx1 ha t3 hfu
  refine ⟨rw2, dg1, w * A', ?_, FR_mo (FR_tr t2 m2) (fun r hr => ?_), m3, gc_of t4 m4 m5⟩
  · unfold f_X5_divisor
    refine t1.trans ?_
    show (f_X5_monic fu kk mn md rw1 dg1 x1).bind _ = _
    rw [m1]
    rfl
  · simp at hr ⊢
    omega
