/-! Mates: an element to the power of 101. What the class and the reference make of them. -/
/-- all that is said of the field and of how its elements are written: T is the element t; the modulus has the degree k -/
def FL {K : Type} [Lean.Grind.CommRing K] (cd : K → Int32) (E : Nat → Int32) (kk : Int32) (md : Nat → Int32) (mn : Int64) (q k : Nat) (T : K) : Prop :=
  CX cd E kk md ∧ FX K q E mn ∧ (101 : K) = 0 ∧ (E 0 = nI k ∧ kk = nI k ∧ 1 ≤ k ∧ k ≤ 3 ∧ q = 101 ^ k) ∧ (E 5 = cd T ∧ E 6 = cd (T ^ 101) ∧ E 7 = cd (T ^ 101 * T ^ 101)) ∧
  (∀ a : K, ∃ x y z, a = x + (y * T + z * (T * T)) ∧ x ^ 101 = x ∧ y ^ 101 = y ∧ z ^ 101 = z ∧ jrem (cd a) 101 = cd x ∧ jrem (cd a / 101) 101 = cd y ∧ cd a / 10201 = cd z) ∧
  (∀ a : K, ∃ n, n < q ∧ cd a = nI n) ∧ (∀ n, n < q → ∃ a : K, cd a = nI n)
section
theorem P_mate {K : Type} [Lean.Grind.CommRing K] {cd : K → Int32} {E : Nat → Int32} {kk : Int32} {md : Nat → Int32} {mn : Int64} {q k : Nat} {T : K} (hL : FL cd E kk md mn q k T) (a : K) : f_X0_mate E (cd a) = some (cd (a ^ 101)) := by
  obtain ⟨hC, hF, h101, hk, ⟨_, h6, h7⟩, hD, _⟩ := hL
  obtain ⟨x, y, z, e, hx, hy, hz, ex, ey, ez⟩ := hD a
  unfold f_X0_mate
  rw [ex, ey, ez, h6, h7, hC.2.2.2.2.1, Option.bind_some, hC.2.2.2.2.1, Option.bind_some, hC.2.2.1, Option.bind_some, hC.2.2.1, Option.bind_some, e, frob h101, frob h101, mul_pow', mul_pow', mul_pow', hx, hy, hz]
theorem lN_cle {a : Nat} (h : a < 2 ^ 62) : lg_cmp (lN a) 0 ≤ 0 ↔ a = 0 := by
  unfold lg_cmp
  by_cases c : a = 0
  · subst c; exact ⟨fun _ => rfl, fun _ => by decide⟩
  · have h1 : lN a > 0 := (pk_lLT (a := 0) (by omega) (by omega)).mpr (by omega)
    rw [if_pos h1]
    exact ⟨fun q => absurd q (by decide), fun q => absurd q c⟩
theorem P_rpow_l {K : Type} [Lean.Grind.CommRing K] {cd : K → Int32} {E : Nat → Int32} {kk : Int32} {md : Nat → Int32} (hC : CX cd E kk md) (k : Int32 → Int32 → Int64 → Option Int32) (fu : Nat) (hfu : 10 ≤ fu) (x1 : Int32) (x2 : Int64) : ∀ (n m : Nat) (r s : K), m < 2 ^ 62 → m < 2 ^ n → ∃ s' y, f_X5_power_l9 k fu kk md x1 x2 (n + 1) (cd r) (cd s) (lN m) = k (cd (r * s ^ m)) s' y := by
  intro n
  induction n with
  | zero =>
    intro m r s h62 h
    have e : m = 0 := by simpa using h
    subst e
    refine ⟨cd s, lN 0, ?_⟩
    rw [f_X5_power_l9, if_pos ((lN_cle h62).mpr rfl), Lean.Grind.Semiring.pow_zero, show r * 1 = r by grind]
  | succ n ih =>
    intro m r s h62 h
    by_cases e : m = 0
    · subst e
      refine ⟨cd s, lN 0, ?_⟩
      rw [f_X5_power_l9, if_pos ((lN_cle h62).mpr rfl), Lean.Grind.Semiring.pow_zero, show r * 1 = r by grind]
    · have hh : m / 2 < 2 ^ n := by rw [Nat.pow_succ] at h; omega
      rw [f_X5_power_l9, if_neg (fun q => e ((lN_cle h62).mp q)), wb_a1 (by omega)]
      simp only [nm]
      rw [show ((1 : Int32).toInt64 &&& 63) = ((nI 1).toInt64 &&& 63) from rfl, lN_sh h62 (by omega), Nat.pow_one]
      by_cases o : m % 2 = 1
      · rw [if_pos ((lN_c1 m).mpr o), hC.2.2.2.2.2.2.2 fu _ _ hfu, Option.bind_some, Option.bind_some, hC.2.2.2.2.2.2.2 fu _ _ hfu, Option.bind_some]
        obtain ⟨s', y, hs⟩ := ih (m / 2) (r * s) (s * s) (by omega) hh
        refine ⟨s', y, hs.trans ?_⟩
        have e2 : r * s * (s * s) ^ (m / 2) = r * s ^ m := by
          rw [mul_pow', show s ^ m = s ^ (m / 2 + m / 2 + 1) by rw [show m / 2 + m / 2 + 1 = m by omega], pow_add', pow_add', Lean.Grind.Semiring.pow_succ, Lean.Grind.Semiring.pow_zero]; grind
        rw [e2]
      · rw [if_neg (fun q => o ((lN_c1 m).mp q)), Option.bind_some, hC.2.2.2.2.2.2.2 fu _ _ hfu, Option.bind_some]
        obtain ⟨s', y, hs⟩ := ih (m / 2) r (s * s) (by omega) hh
        refine ⟨s', y, hs.trans ?_⟩
        have e2 : r * (s * s) ^ (m / 2) = r * s ^ m := by
          rw [mul_pow', show s ^ m = s ^ (m / 2 + m / 2) by rw [show m / 2 + m / 2 = m by omega], pow_add']
        rw [e2]
theorem P_rpow {K : Type} [Lean.Grind.CommRing K] {cd : K → Int32} {E : Nat → Int32} {kk : Int32} {md : Nat → Int32} (hC : CX cd E kk md) {fu : Nat} (hfu : 64 ≤ fu) (a : K) {m : Nat} (hm : m < 2 ^ 62) : f_X5_power fu kk md (cd a) (lN m) = some (cd (a ^ m)) := by
  unfold f_X5_power
  obtain ⟨n, rfl⟩ : ∃ n, fu = n + 1 := ⟨fu - 1, by omega⟩
  obtain ⟨s', y, hs⟩ := P_rpow_l hC (fun y9 y10 y11 => some y9) (n + 1) (by omega) (cd a) (lN m) n m 1 a hm (Nat.lt_of_lt_of_le hm (Nat.pow_le_pow_right (by omega) (by omega)))
  rw [hC.2.1.2] at hs
  rw [hs, show (1 : K) * a ^ m = a ^ m by grind]
theorem P_rinv {K : Type} [Lean.Grind.CommRing K] {cd : K → Int32} {E : Nat → Int32} {kk : Int32} {md : Nat → Int32} (hC : CX cd E kk md) {q : Nat} {mn : Int64} (hF : FX K q E mn) {fu : Nat} (hfu : 64 ≤ fu) {a : K} : f_X5_inverse fu kk mn md (cd a) = some (cd (a ^ (q - 2))) := by
  have hq : q < 2 ^ 30 ∧ 2 ≤ q := by rcases hF.2.2.1 with h | h | h <;> omega
  unfold f_X5_inverse
  rw [hF.2.2.2.2, show (2 : Int64) = lN 2 from rfl, lN_sub hq.2, P_rpow hC hfu a (by omega)]
  rfl
/-- the mates -/
def mt {K : Type} [Lean.Grind.CommRing K] (a : K) (n : Nat) : K := a ^ (101 ^ n)
theorem mt_0 {K : Type} [Lean.Grind.CommRing K] (a : K) : mt a 0 = a := by show a ^ 1 = a; rw [Lean.Grind.Semiring.pow_succ, Lean.Grind.Semiring.pow_zero]; grind
theorem mt_s {K : Type} [Lean.Grind.CommRing K] (a : K) (n : Nat) : mt a (n + 1) = (mt a n) ^ 101 := by
  show a ^ (101 ^ (n + 1)) = (a ^ (101 ^ n)) ^ 101
  rw [← pow_mul', Nat.pow_succ]
theorem P_rmate_l {K : Type} [Lean.Grind.CommRing K] {cd : K → Int32} {E : Nat → Int32} {kk : Int32} {md : Nat → Int32} (hC : CX cd E kk md) (k : Int32 → Int32 → Option Int32) (fu : Nat) (hfu : 64 ≤ fu) (x1 : Int32) {N : Nat} (hN : N < 1000) (a : K) : ∀ (d i n : Nat), d + i = N → d < n → f_X5_mate_l5 k fu kk md x1 (nI N) n (cd (mt a i)) (nI i) = k (cd (mt a N)) (nI N) := by
  intro d
  induction d with
  | zero =>
    intro i n hi hn
    obtain ⟨n, rfl⟩ : ∃ n', n = n' + 1 := ⟨n - 1, by omega⟩
    have e : i = N := by omega
    subst e
    rw [f_X5_mate_l5, if_pos (nI_le (by omega) (by omega))]
  | succ d ih =>
    intro i n hi hn
    obtain ⟨n, rfl⟩ : ∃ n', n = n' + 1 := ⟨n - 1, by omega⟩
    rw [f_X5_mate_l5, if_neg (nI_ge (by omega) (by omega)), show (101 : Int64) = lN 101 from rfl, P_rpow hC hfu _ (by omega), Option.bind_some, ← mt_s, nI_1]
    exact ih (i + 1) n (by omega) (by omega)
theorem P_rmate {K : Type} [Lean.Grind.CommRing K] {cd : K → Int32} {E : Nat → Int32} {kk : Int32} {md : Nat → Int32} (hC : CX cd E kk md) {fu : Nat} (hfu : 64 ≤ fu) (a : K) {N : Nat} (hN : N < 60) : f_X5_mate fu kk md (cd a) (nI N) = some (cd (mt a N)) := by
  unfold f_X5_mate
  have := P_rmate_l hC (fun y4 y5 => some y4) fu hfu (cd a) (show N < 1000 by omega) a N 0 fu (by omega) (by omega)
  rw [mt_0] at this
  exact this
/-- products and sums of mates -/
def mpr {K : Type} [Lean.Grind.CommRing K] (a : K) : Nat → K
  | 0 => a
  | n + 1 => mpr a n * mt a (n + 1)
def mps {K : Type} [Lean.Grind.CommRing K] (a : K) : Nat → K
  | 0 => a
  | n + 1 => mps a n + mt a (n + 1)
theorem P_mpr {K : Type} [Lean.Grind.CommRing K] {cd : K → Int32} {E : Nat → Int32} {kk : Int32} {md : Nat → Int32} {mn : Int64} {q k : Nat} {T : K} (hL : FL cd E kk md mn q k T) (a : K) {fu : Nat} (hfu : 4 ≤ fu) : f_X0_matesProduct fu E (cd a) = some (cd (mpr a (k - 1))) := by
  obtain ⟨hE0, _, hk1, hk3, _⟩ := hL.2.2.2.1
  unfold f_X0_matesProduct
  have : ∀ (d i n : Nat), d + i + 1 = k → d < n → f_X0_matesProduct_l7 (fun y6 y7 y8 => some y6) fu E (cd a) n (cd (mpr a i)) (cd (mt a i)) (nI (i + 1)) = some (cd (mpr a (k - 1))) := by
    intro d
    induction d with
    | zero =>
      intro i n hi hn
      obtain ⟨n, rfl⟩ : ∃ n', n = n' + 1 := ⟨n - 1, by omega⟩
      rw [f_X0_matesProduct_l7, hE0, if_pos (nI_le (by omega) (by omega)), show k - 1 = i by omega]
    | succ d ih =>
      intro i n hi hn
      obtain ⟨n, rfl⟩ : ∃ n', n = n' + 1 := ⟨n - 1, by omega⟩
      rw [f_X0_matesProduct_l7, hE0, if_neg (nI_ge (by omega) (by omega)), P_mate hL, Option.bind_some, hL.1.2.2.2.2.1, Option.bind_some, nI_1, ← mt_s]
      exact ih (i + 1) n (by omega) (by omega)
  have h := this (k - 1) 0 fu (by omega) (by omega)
  rw [mt_0] at h
  exact h
theorem P_mps {K : Type} [Lean.Grind.CommRing K] {cd : K → Int32} {E : Nat → Int32} {kk : Int32} {md : Nat → Int32} {mn : Int64} {q k : Nat} {T : K} (hL : FL cd E kk md mn q k T) (a : K) {fu : Nat} (hfu : 4 ≤ fu) : f_X0_matesSum fu E (cd a) = some (cd (mps a (k - 1))) := by
  obtain ⟨hE0, _, hk1, hk3, _⟩ := hL.2.2.2.1
  unfold f_X0_matesSum
  have : ∀ (d i n : Nat), d + i + 1 = k → d < n → f_X0_matesSum_l7 (fun y6 y7 y8 => some y6) fu E (cd a) n (cd (mps a i)) (cd (mt a i)) (nI (i + 1)) = some (cd (mps a (k - 1))) := by
    intro d
    induction d with
    | zero =>
      intro i n hi hn
      obtain ⟨n, rfl⟩ : ∃ n', n = n' + 1 := ⟨n - 1, by omega⟩
      rw [f_X0_matesSum_l7, hE0, if_pos (nI_le (by omega) (by omega)), show k - 1 = i by omega]
    | succ d ih =>
      intro i n hi hn
      obtain ⟨n, rfl⟩ : ∃ n', n = n' + 1 := ⟨n - 1, by omega⟩
      rw [f_X0_matesSum_l7, hE0, if_neg (nI_ge (by omega) (by omega)), P_mate hL, Option.bind_some, hL.1.2.2.1, Option.bind_some, nI_1, ← mt_s]
      exact ih (i + 1) n (by omega) (by omega)
  have h := this (k - 1) 0 fu (by omega) (by omega)
  rw [mt_0] at h
  exact h
/-- how many different mates: 1 or k -/
theorem mt_k {K : Type} [Lean.Grind.CommRing K] {cd : K → Int32} {E : Nat → Int32} {kk : Int32} {md : Nat → Int32} {mn : Int64} {q k : Nat} {T : K} (hL : FL cd E kk md mn q k T) (a : K) : mt a k = a := by
  have h := hL.2.1.2.1 a
  rw [hL.2.2.2.1.2.2.2.2] at h
  exact h
theorem P_dmt {K : Type} [Lean.Grind.CommRing K] {cd : K → Int32} {E : Nat → Int32} {kk : Int32} {md : Nat → Int32} {mn : Int64} {q k : Nat} {T : K} (hL : FL cd E kk md mn q k T) (a : K) {fu : Nat} (hfu : 64 ≤ fu) : ∃ n, 1 ≤ n ∧ n ≤ k ∧ f_X0_differentMates E (cd a) = some (nI n) ∧ f_X5_mates fu kk md (cd a) = some (nI n) := by
  obtain ⟨hE0, hkk, hk1, hk3, _⟩ := hL.2.2.2.1
  have hC := hL.1
  have m1 : a ^ 101 = mt a 1 := by rw [mt_s, mt_0]
  obtain ⟨n, rfl⟩ : ∃ n, fu = n + 1 + 1 + 1 := ⟨fu - 3, by omega⟩
  by_cases c : mt a 1 = a
  · refine ⟨1, by omega, by omega, ?_, ?_⟩
    · unfold f_X0_differentMates
      rw [P_mate hL, Option.bind_some, m1, if_pos (by rw [c])]; rfl
    · unfold f_X5_mates
      rw [show (1 : Int32) = nI 1 from rfl, f_X5_mates_l2]
      by_cases k1 : k = 1
      · rw [if_pos (by rw [hkk, k1]; decide)]
      · rw [if_neg (by rw [hkk]; exact nI_ge (by omega) (by omega)), P_rmate hC (by omega) a (by omega), Option.bind_some, if_pos (by rw [c])]
  · have k1 : ¬ k = 1 := fun e => c (by have := mt_k hL a; rw [e] at this; exact this)
    refine ⟨k, by omega, by omega, ?_, ?_⟩
    · unfold f_X0_differentMates
      rw [P_mate hL, Option.bind_some, m1, if_neg (fun e => c (hC.1 _ _ e)), hE0]
    · unfold f_X5_mates
      rw [show (1 : Int32) = nI 1 from rfl, f_X5_mates_l2, if_neg (by rw [hkk]; exact nI_ge (by omega) (by omega)), P_rmate hC (by omega) a (by omega), Option.bind_some, if_neg (fun e => c (hC.1 _ _ e)), nI_1, f_X5_mates_l2]
      by_cases k2 : k = 2
      · rw [if_pos (by rw [hkk, k2]; decide), k2]
      · have k3 : k = 3 := by omega
        have c2 : ¬ mt a 2 = a := fun e => c (by
          have h3 := mt_k hL a
          rw [k3, mt_s, e, m1] at h3
          exact h3)
        rw [if_neg (by rw [hkk]; exact nI_ge (by omega) (by omega)), P_rmate hC (by omega) a (by omega), Option.bind_some, if_neg (fun e => c2 (hC.1 _ _ e)), nI_1, f_X5_mates_l2, if_pos (by rw [hkk, k3]; decide), k3]
theorem P_isq {K : Type} [Lean.Grind.CommRing K] {cd : K → Int32} {E : Nat → Int32} {kk : Int32} {md : Nat → Int32} {mn : Int64} {q k : Nat} {T : K} (hL : FL cd E kk md mn q k T) (a : K) {fu : Nat} (hfu : 64 ≤ fu) : f_X0_power fu E (cd a) (E 1 / 2) = f_X5_power fu kk md (cd a) ((mn - 1) / 2) := by
  have hC := hL.1
  have hF := hL.2.1
  have hq : q < 2 ^ 30 ∧ 2 ≤ q ∧ q / 2 = (q - 1) / 2 := by rcases hF.2.2.1 with h | h | h <;> rw [h] <;> decide
  rw [hF.2.2.2.1, hF.2.2.2.2, show (2 : Int32) = nI 2 from rfl, pk_div (by omega) (by omega) (by omega), P_pow hC (by omega) a (by omega), show (1 : Int64) = lN 1 from rfl, lN_sub (by omega), show (2 : Int64) = lN 2 from rfl, pk_lDiv (by omega) (by omega) (by omega), P_rpow hC hfu a (by omega), hq.2.2]
end
