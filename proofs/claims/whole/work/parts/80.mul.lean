/-! Products, as the class forms them. -/
theorem dI_lt {m j : Nat} (hm : m < 2 ^ 31) (hj : j < 2 ^ 31) : dI m < nI j ↔ m ≤ j := by
  cases m with
  | zero => exact ⟨fun _ => Nat.zero_le _, fun _ => Int32.lt_of_lt_of_le dI_neg (nI_pos' hj)⟩
  | succ m => rw [dI_s, nI_ltI (by omega) hj]; omega
theorem dI_le {m j : Nat} (hm : m < 2 ^ 31) (hj : j < 2 ^ 31) : nI j ≤ dI m ↔ j < m := by
  rw [← Int32.not_lt, dI_lt hm hj]; omega
theorem dI_p (n : Nat) : dI n + 1 = nI n := by unfold dI; rw [Int32.sub_add_cancel]
/-- the first i coefficients -/
def tr {K : Type} [Lean.Grind.CommRing K] (i : Nat) (f : Nat → K) : Nat → K := fun t => if t < i then f t else 0
theorem tr_s {K : Type} [Lean.Grind.CommRing K] (f g : Nat → K) (i t : Nat) : pm (tr (i + 1) f) g t = pm (tr i f) g t + if i ≤ t then f i * g (t - i) else 0 := by
  have e : tr (i + 1) f = fun t => tr i f t + (fun t => f i * xp i t) t := by
    funext t
    show (if t < i + 1 then f t else 0) = (if t < i then f t else 0) + f i * (if t = i then 1 else 0)
    by_cases h : t = i
    · subst h
      rw [if_pos (by omega), if_neg (by omega), if_pos rfl]; grind
    · rw [if_neg h]
      by_cases h2 : t < i
      · rw [if_pos (by omega), if_pos h2]; grind
      · rw [if_neg (by omega), if_neg h2]; grind
  rw [e, pm_add_l (tr i f) (fun t => f i * xp i t) g t, pm_mul_l, pm_xp]
  by_cases h : i ≤ t
  · rw [if_pos h, if_pos h]
  · rw [if_neg h, if_neg h]; grind
theorem tr_0 {K : Type} [Lean.Grind.CommRing K] (f g : Nat → K) (t : Nat) : pm (tr 0 f) g t = 0 := sm_zero (fun i _ => by
  show (if i < 0 then f i else 0) * g (t - i) = 0
  rw [if_neg (by omega)]; grind)
theorem tr_all {K : Type} [Lean.Grind.CommRing K] {f : Nat → K} {n : Nat} (h : dl f n) : tr n f = f := by
  funext t
  show (if t < n then f t else 0) = f t
  by_cases c : t < n
  · rw [if_pos c]
  · rw [if_neg c, h t (by omega)]
theorem P_mul_i {K : Type} [Lean.Grind.CommRing K] {cd : K → Int32} {E : Nat → Int32} {kk : Int32} {md : Nat → Int32} (hC : CX cd E kk md) {b : Fin 20} (hb : ¬ b = 1) {g : Nat → K} {m i : Nat} (hm : sq g = m) {a : K} (him : i + m ≤ 16) (k : Int32 → (Fin 20 → Nat → Int32) → Option (Fin 20 → Nat → Int32)) (fu : Nat) (x1 : Fin 20) (x3 : Int32) : ∀ (d j n : Nat) (M : Fin 20 → Nat → Int32) (w : Nat → K), d + j = m → RW cd (M b) g → RW cd (M 1) w → d < n → ∃ y M', f_X1_multiply_l38 k fu E x1 b x3 (dI m) (nI i) (cd a) n (nI j) M = k y M' ∧ (∀ q, ¬ q = 1 → M' q = M q) ∧ RW cd (M' 1) (fun t => w t + if i + j ≤ t then a * g (t - i) else 0) := by
  intro d
  induction d with
  | zero =>
    intro j n M w hj hg hw hn
    obtain ⟨n, rfl⟩ : ∃ n', n = n' + 1 := ⟨n - 1, by omega⟩
    have hd := sq_dl hg.1
    rw [hm] at hd
    have fin : RW cd (M 1) (fun t => w t + if i + j ≤ t then a * g (t - i) else 0) := RW_c hw (fun t => by
      by_cases c : i + j ≤ t
      · rw [if_pos c, hd (t - i) (by omega)]; grind
      · rw [if_neg c]; grind)
    refine ⟨nI j, M, ?_, fun _ _ => rfl, fin⟩
    rw [f_X1_multiply_l38]
    by_cases c : cd a = 0
    · rw [if_pos c]
    · rw [if_neg c, if_pos ((dI_lt (by omega) (by omega)).mpr (by omega))]
  | succ d ih =>
    intro j n M w hj hg hw hn
    obtain ⟨n, rfl⟩ : ∃ n', n = n' + 1 := ⟨n - 1, by omega⟩
    rw [f_X1_multiply_l38]
    by_cases c : cd a = 0
    · rw [if_pos c]
      refine ⟨nI j, M, rfl, fun _ _ => rfl, RW_c hw (fun t => ?_)⟩
      rw [(cd_0 hC a).mp c]
      by_cases c : i + j ≤ t
      · rw [if_pos c]; grind
      · rw [if_neg c]; grind
    · rw [if_neg c, if_neg (fun q => by have := (dI_lt (by omega) (by omega)).mp q; omega), nI_add, P_get hC hw (by omega), Option.bind_some, P_get hC hg (by omega), Option.bind_some, hC.2.2.2.2.1, Option.bind_some, hC.2.2.1, Option.bind_some, P_set M 1 (by omega), Option.bind_some, nI_1]
      obtain ⟨y, M', h1, h2, h3⟩ := ih (j + 1) n (fup M 1 (upd (M 1) (i + j) (cd (w (i + j) + a * g j)))) (fun t => if t = i + j then w (i + j) + a * g j else w t) (by omega) (by rw [fup_n _ _ hb]; exact hg) (by
        rw [fup_s]
        exact RW_upd hw (by omega) (if_pos rfl) (fun j hj => if_neg hj)) (by omega)
      refine ⟨y, M', h1, fun q hq => by rw [h2 q hq, fup_n _ _ hq], RW_c h3 (fun t => ?_)⟩
      by_cases c1 : t = i + j
      · subst c1
        rw [if_pos rfl, if_neg (by omega), if_pos (by omega), show i + j - i = j by omega]; grind
      · rw [if_neg c1]
        by_cases c2 : i + j ≤ t
        · rw [if_pos (show i + (j + 1) ≤ t by omega), if_pos c2]
        · rw [if_neg (show ¬ i + (j + 1) ≤ t by omega), if_neg c2]
theorem P_mul_o {K : Type} [Lean.Grind.CommRing K] {cd : K → Int32} {E : Nat → Int32} {kk : Int32} {md : Nat → Int32} (hC : CX cd E kk md) {a b : Fin 20} (ha : ¬ a = 1) (hb : ¬ b = 1) {f g : Nat → K} {l m : Nat} (hl : sq f = l) (hm : sq g = m) (hlm : l + m ≤ 17) (k : Int32 → (Fin 20 → Nat → Int32) → Option (Fin 20 → Nat → Int32)) (fu : Nat) (hfu : 17 ≤ fu) : ∀ (d i n : Nat) (M : Fin 20 → Nat → Int32), d + i = l → RW cd (M a) f → RW cd (M b) g → RW cd (M 1) (pm (tr i f) g) → d < n → ∃ y M', f_X1_multiply_l21 k fu E a b (dI l) (dI m) n (nI i) M = k y M' ∧ (∀ q, ¬ q = 1 → M' q = M q) ∧ RW cd (M' 1) (pm f g) := by
  intro d
  induction d with
  | zero =>
    intro i n M hi hf hg hw hn
    obtain ⟨n, rfl⟩ : ∃ n', n = n' + 1 := ⟨n - 1, by omega⟩
    have hd := sq_dl hf.1
    rw [hl] at hd
    have e : i = l := by omega
    subst e
    rw [tr_all hd] at hw
    refine ⟨nI i, M, ?_, fun _ _ => rfl, hw⟩
    have := sq_le hf.1
    rw [f_X1_multiply_l21, if_pos ((dI_lt (by omega) (by omega)).mpr (by omega))]
  | succ d ih =>
    intro i n M hi hf hg hw hn
    obtain ⟨n, rfl⟩ : ∃ n', n = n' + 1 := ⟨n - 1, by omega⟩
    have := sq_le hf.1
    have := sq_le hg.1
    rw [f_X1_multiply_l21, if_neg (fun q => by have := (dI_lt (by omega) (by omega)).mp q; omega), P_get hC hf (by omega), Option.bind_some]
    obtain ⟨y, M', h1, h2, h3⟩ := P_mul_i hC hb hm (i := i) (a := f i) (by omega) (fun y22 M23 => f_X1_multiply_l21 k fu E a b (dI l) (dI m) n (nI i + 1) M23) fu a (dI l) m 0 fu M (pm (tr i f) g) (by omega) hg hw (by omega)
    rw [show (0 : Int32) = nI 0 from rfl, h1, nI_1]
    obtain ⟨y2, M2, k1, k2, k3⟩ := ih (i + 1) n M' (by omega) (by rw [h2 a ha]; exact hf) (by rw [h2 b hb]; exact hg) (RW_c h3 (fun t => by rw [tr_s]; rfl)) (by omega)
    exact ⟨y2, M2, k1, fun q hq => by rw [k2 q hq, h2 q hq], k3⟩
theorem P_mul {K : Type} [Lean.Grind.CommRing K] {cd : K → Int32} {E : Nat → Int32} {kk : Int32} {md : Nat → Int32} (hC : CX cd E kk md) {M : Fin 20 → Nat → Int32} {a b : Fin 20} (ha : ¬ a = 1) (hb : ¬ b = 1) {f g : Nat → K} (hf : RW cd (M a) f) (hg : RW cd (M b) g) (hlm : sq f + sq g ≤ 17) {fu : Nat} (hfu : 17 ≤ fu) : ∃ M', f_X1_multiply fu M E a b = some M' ∧ (∀ q, ¬ q = 1 → ¬ q = a → M' q = M q) ∧ RW cd (M' a) (pm f g) := by
  unfold f_X1_multiply
  rw [P_deg hC hf hfu, Option.bind_some, P_deg hC hg hfu, Option.bind_some]
  obtain ⟨M1, h1, h2, h3⟩ := P_clear hC M 1 hfu
  rw [h1, Option.bind_some]
  have := sq_le hf.1
  obtain ⟨y, M2, k1, k2, k3⟩ := P_mul_o hC ha hb (f := f) (g := g) rfl rfl hlm (fun y24 M25 => (f_X2_copy fu M25 a (1 : Fin 20)).bind (fun u26 => some u26)) fu hfu (sq f) 0 fu M1 (by omega) (by rw [h2 a ha]; exact hf) (by rw [h2 b hb]; exact hg) (RW_c h3 (fun t => by rw [tr_0])) (by omega)
  rw [show (0 : Int32) = nI 0 from rfl, k1]
  obtain ⟨M3, l1, l2, l3⟩ := P_copy hC (fun e => ha e.symm) k3 hfu (r := a)
  rw [l1]
  exact ⟨M3, rfl, fun q h1 h3 => by rw [l2 q h3, k2 q h1, h2 q h1], l3⟩
/-- times x + c -/
def lin {K : Type} [Lean.Grind.CommRing K] (c : K) (f : Nat → K) : Nat → K := fun t => (if t = 0 then 0 else f (t - 1)) + c * f t
theorem P_lin_l {K : Type} [Lean.Grind.CommRing K] {cd : K → Int32} {E : Nat → Int32} {kk : Int32} {md : Nat → Int32} (hC : CX cd E kk md) {a : Fin 20} {f : Nat → K} {c : K} (k : Int32 → (Fin 20 → Nat → Int32) → Option (Fin 20 → Nat → Int32)) (fu : Nat) : ∀ (j n : Nat) (M : Fin 20 → Nat → Int32), j ≤ 16 → RW cd (M a) (fun t => if t < j then f t else lin c f t) → j < n → ∃ y M', f_X1_multiplyLinear_l7 k fu E a (cd c) n (dI j) M = k y M' ∧ (∀ q, ¬ q = a → M' q = M q) ∧ RW cd (M' a) (lin c f) := by
  intro j
  induction j with
  | zero =>
    intro n M hj hf hn
    obtain ⟨n, rfl⟩ : ∃ n', n = n' + 1 := ⟨n - 1, by omega⟩
    refine ⟨dI 0, M, by rw [f_X1_multiplyLinear_l7, if_pos dI_neg], fun _ _ => rfl, RW_c hf (fun t => if_neg (by omega))⟩
  | succ j ih =>
    intro n M hj hf hn
    obtain ⟨n, rfl⟩ : ∃ n', n = n' + 1 := ⟨n - 1, by omega⟩
    have e : (f_X2_get M a (dI (j + 1) - 1)) = some (cd (if j = 0 then 0 else f (j - 1))) := by
      rw [dI_s]
      cases j with
      | zero => rw [if_pos rfl]; exact P_getm hC M a
      | succ j =>
        rw [nI_pred, P_get hC hf (by omega), if_pos (show j < j + 1 + 1 by omega), if_neg (show ¬ j + 1 = 0 by omega), show j + 1 - 1 = j by omega]
    rw [f_X1_multiplyLinear_l7, e, dI_s, if_neg (nI_pos (by omega)), Option.bind_some, P_get hC hf (by omega), Option.bind_some, if_pos (by omega), hC.2.2.2.2.1, Option.bind_some, hC.2.2.1, Option.bind_some, P_set M a (by omega), Option.bind_some, dI_m]
    obtain ⟨y, M', h1, h2, h3⟩ := ih n _ (by omega) (show RW cd ((fup M a (upd (M a) j (cd (lin c f j)))) a) _ by
      rw [fup_s]
      refine RW_upd hf (by omega) (if_neg (by omega)) (fun t ht => ?_)
      by_cases c1 : t < j
      · rw [if_pos c1, if_pos (by omega)]
      · rw [if_neg c1, if_neg (by omega)]) (by omega)
    exact ⟨y, M', h1, fun q hq => by rw [h2 q hq, fup_n _ _ hq], h3⟩
theorem P_lin {K : Type} [Lean.Grind.CommRing K] {cd : K → Int32} {E : Nat → Int32} {kk : Int32} {md : Nat → Int32} (hC : CX cd E kk md) {M : Fin 20 → Nat → Int32} {a : Fin 20} {f : Nat → K} (hf : RW cd (M a) f) (hl : sq f ≤ 15) (c : K) {fu : Nat} (hfu : 18 ≤ fu) : ∃ M', f_X1_multiplyLinear fu M E a (cd c) = some M' ∧ (∀ q, ¬ q = a → M' q = M q) ∧ RW cd (M' a) (lin c f) := by
  unfold f_X1_multiplyLinear
  rw [P_deg hC hf (by omega), Option.bind_some]
  have hd := sq_dl hf.1
  obtain ⟨y, M', h1, h2, h3⟩ := P_lin_l hC (a := a) (f := f) (c := c) (fun y15 M16 => some M16) fu (sq f + 1) fu M (by omega) (RW_c hf (fun t => by
    by_cases c1 : t < sq f + 1
    · rw [if_pos c1]
    · rw [if_neg c1]
      show _ = (if t = 0 then 0 else f (t - 1)) + c * f t
      rw [if_neg (by omega), hd t (by omega), hd (t - 1) (by omega)]; grind)) (by omega)
  refine ⟨M', ?_, h2, h3⟩
  rw [dI_p]
  rw [dI_s] at h1
  exact h1
