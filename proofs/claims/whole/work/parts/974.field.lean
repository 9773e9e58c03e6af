/-! A field is taken. -/
theorem jreml_i (x : Int64) : (jreml x 101).toInt = x.toInt.tmod 101 := by
  have h1 := Int64.toInt_lt x
  have h2 := Int64.le_toInt x
  have h3 := Int.mul_tdiv_add_tmod x.toInt 101
  have h4 := Int.tmod_lt_of_pos x.toInt (b := 101) (by decide)
  have h5 := Int.lt_tmod_of_pos x.toInt (b := 101) (by decide)
  have c : (101 : Int64).toInt = 101 := by decide
  have e1 : (x / 101).toInt = x.toInt.tdiv 101 := by
    rw [Int64.toInt_div, c]
    exact Int.bmod_eq_of_le_mul_two (by omega) (by omega)
  have s1 : -(2 ^ 63 : Int) ≤ 101 * x.toInt.tdiv 101 ∧ 101 * x.toInt.tdiv 101 < 2 ^ 63 := by
    by_cases p : 0 ≤ x.toInt
    · have q1 := Int.tmod_nonneg 101 p
      have q2 := Int.tdiv_nonneg p (show (0 : Int) ≤ 101 by decide)
      omega
    · have q1 : x.toInt.tmod 101 ≤ 0 := by
        have := Int.neg_tmod (a := x.toInt) (b := 101)
        have q := Int.tmod_nonneg 101 (show 0 ≤ -x.toInt by omega)
        omega
      omega
  have e2 : (x / 101 * 101).toInt = 101 * x.toInt.tdiv 101 := by
    rw [Int64.toInt_mul, e1, c, Int.mul_comm]
    exact Int.bmod_eq_of_le_mul_two (by omega) (by omega)
  show (x - x / 101 * 101).toInt = _
  rw [Int64.toInt_sub, e2, show x.toInt - 101 * x.toInt.tdiv 101 = x.toInt.tmod 101 by omega]
  exact Int.bmod_eq_of_le_mul_two (by omega) (by omega)
theorem num_ex (x : Int64) : ∃ m : Z1, f_X4_numberOf x = some (nI m.val) ∧ f_X5_number x = some (nI m.val) := by
  have h0 := jreml_i x
  have h4 := Int.tmod_lt_of_pos x.toInt (b := 101) (by decide)
  have h5 := Int.lt_tmod_of_pos x.toInt (b := 101) (by decide)
  have e : (jreml x 101).toInt32.toInt = x.toInt.tmod 101 := by
    rw [Int64.toInt_toInt32, h0]
    exact Int.bmod_eq_of_le_mul_two (by omega) (by omega)
  have key : ∃ m : Z1, f_X5_number x = some (nI m.val) := by
    unfold f_X5_number
    simp only [nm]
    by_cases c : 0 ≤ (jreml x 101).toInt32
    · rw [if_pos c]
      obtain ⟨j, hj, ej⟩ := nI_of (x := (jreml x 101).toInt32) (Int32.not_lt.mpr c)
      rw [ej, nI_toInt hj] at e
      exact ⟨⟨j, by omega⟩, by rw [ej]⟩
    · rw [if_neg c]
      have n0 : (jreml x 101).toInt32.toInt < 0 := by
        have := Int32.lt_iff_toInt_lt.mp (Int32.not_le.mp c)
        exact this
      refine ⟨⟨(x.toInt.tmod 101 + 101).toNat, by omega⟩, ?_⟩
      congr 1
      refine Int32.toInt_inj.mp ?_
      rw [Int32.toInt_add, e, nI_toInt (by show (x.toInt.tmod 101 + 101).toNat < 2 ^ 31; omega), show (101 : Int32).toInt = 101 by decide]
      show (x.toInt.tmod 101 + 101).bmod (2 ^ 32) = ((x.toInt.tmod 101 + 101).toNat : Int)
      rw [Int.bmod_eq_of_le_mul_two (by omega) (by omega)]
      omega
  obtain ⟨m, hm⟩ := key
  exact ⟨m, hm, hm⟩
def PQ (k : Nat) (m0 m1 m2 x : Z1) : Z1 := if k = 2 then x * x + m1 * x + m0 else x * x * x + m2 * x * x + m1 * x + m0
theorem z_nI {n : Nat} : nI (n % 101) = 0 ↔ zc n = 0 := by
  constructor
  · intro h
    have := (nI_eq (a := n % 101) (b := 0) (by omega) (by decide)).mp h
    exact Fin.ext this
  · intro h
    have : (zc n).val = 0 := by rw [h]; rfl
    rw [zc_val] at this
    rw [this]; rfl
theorem zj {j : Nat} (h : j < 101) : zc j = ⟨j, h⟩ := Fin.ext (Nat.mod_eq_of_lt h)
theorem hr_c {k : Nat} (hk : k = 2 ∨ k = 3) (m0 m1 m2 : Z1) (fu : Nat) : ∀ (e j n : Nat), e + j = 101 → e < n → ∃ v, f_X0_hasRoot_l3 (fun _ => some 0) fu (nI k) (nI m0.val) (nI m1.val) (nI m2.val) n (nI j) = some v ∧ ((v = 0 ∧ ∀ x : Z1, j ≤ x.val → ¬ PQ k m0 m1 m2 x = 0) ∨ (v = 1 ∧ ∃ x : Z1, PQ k m0 m1 m2 x = 0)) := by
  have b0 := m0.isLt
  have b1 := m1.isLt
  have b2 := m2.isLt
  intro e
  induction e with
  | zero =>
    intro j n hj hn
    obtain ⟨n, rfl⟩ : ∃ n', n = n' + 1 := ⟨n - 1, by omega⟩
    refine ⟨0, ?_, Or.inl ⟨rfl, fun x hx => by have := x.isLt; omega⟩⟩
    rw [f_X0_hasRoot_l3, if_pos (show (101 : Int32) ≤ nI j from nI_le (a := 101) (by omega) (by omega))]
  | succ e ih =>
    intro j n hj hn
    obtain ⟨n, rfl⟩ : ∃ n', n = n' + 1 := ⟨n - 1, by omega⟩
    have hj1 : j < 101 := by omega
    obtain ⟨W, hW, e1, e2⟩ : ∃ W, W < 101 ∧ (if nI k = 2 then some 1 else some (jrem (nI j + nI m2.val) 101) : Option Int32) = some (nI W) ∧ zc W = (if k = 2 then 1 else zc j + m2) := by
      rcases hk with e | e
      · refine ⟨1, by omega, by rw [e, if_pos (by decide)]; rfl, by rw [if_pos e]; rfl⟩
      · refine ⟨(j + m2.val) % 101, by omega, ?_, ?_⟩
        · rw [e, if_neg (by decide), nI_add, jr_n (by omega)]
        · rw [e, if_neg (by decide), zc_mod, zc_add, zc_of]
    have bw : W * j ≤ 100 * 100 := Nat.mul_le_mul (by omega) (by omega)
    have bw2 : (W * j + m1.val) % 101 * j ≤ 100 * 100 := Nat.mul_le_mul (by omega) (by omega)
    have e3 : jrem ((jrem ((nI W * nI j) + nI m1.val) 101) * nI j + nI m0.val) 101 = nI (((W * j + m1.val) % 101 * j + m0.val) % 101) := by
      rw [pk_mul, nI_add, jr_n (by omega), pk_mul, nI_add, jr_n (by omega)]
    have e4 : zc ((W * j + m1.val) % 101 * j + m0.val) = PQ k m0 m1 m2 ⟨j, hj1⟩ := by
      rw [zc_add, zc_mul, zc_mod, zc_add, zc_mul, e2, zc_of, zc_of, ← zj hj1]
      unfold PQ
      by_cases c : k = 2
      · rw [if_pos c, if_pos c]; grind
      · rw [if_neg c, if_neg c]; grind
    rw [f_X0_hasRoot_l3, if_neg (show ¬ (101 : Int32) ≤ nI j from nI_ge (b := 101) hj1 (by decide)), e1, Option.bind_some, e3]
    by_cases c : zc ((W * j + m1.val) % 101 * j + m0.val) = 0
    · rw [if_pos (z_nI.mpr c)]
      exact ⟨1, rfl, Or.inr ⟨rfl, _, by rw [← e4]; exact c⟩⟩
    · rw [if_neg (fun z => c (z_nI.mp z)), nI_1]
      obtain ⟨v, v1, v2⟩ := ih (j + 1) n (by omega) (by omega)
      refine ⟨v, v1, ?_⟩
      rcases v2 with ⟨a, b⟩ | v2
      · refine Or.inl ⟨a, fun x hx => ?_⟩
        by_cases z : x.val = j
        · have : x = ⟨j, hj1⟩ := Fin.ext z
          rw [this, ← e4]; exact c
        · exact b x (by omega)
      · exact Or.inr v2
theorem hr_r {k : Nat} (hk : k = 2 ∨ k = 3) (m0 m1 m2 : Z1) (kc : Int32 → Option (Int32 × Int32 × Int32 × Int64 × (Nat → Int32) × (Nat → Int32) × (Nat → Int32) × Int32)) (fu : Nat) (th kk : Int32) (mn : Int64) (md rw dg : (Nat → Int32)) (kn : Int32) (x2 x4 x6 : Int64) : ∀ (e j n : Nat), e + j = 101 → e < n → ((∀ x : Z1, j ≤ x.val → ¬ PQ k m0 m1 m2 x = 0) ∧ ∃ y, f_X5_field_l66 kc fu th kk mn md rw dg kn (nI k) x2 x4 x6 (nI m0.val) (nI m1.val) (nI m2.val) n (nI j) = kc y) ∨ ((∃ x : Z1, PQ k m0 m1 m2 x = 0) ∧ f_X5_field_l66 kc fu th kk mn md rw dg kn (nI k) x2 x4 x6 (nI m0.val) (nI m1.val) (nI m2.val) n (nI j) = some (0, th, kk, mn, md, rw, dg, kn)) := by
  have b0 := m0.isLt
  have b1 := m1.isLt
  have b2 := m2.isLt
  intro e
  induction e with
  | zero =>
    intro j n hj hn
    obtain ⟨n, rfl⟩ : ∃ n', n = n' + 1 := ⟨n - 1, by omega⟩
    refine Or.inl ⟨fun x hx => by have := x.isLt; omega, nI j, ?_⟩
    rw [f_X5_field_l66, if_pos (show (101 : Int32) ≤ nI j from nI_le (a := 101) (by omega) (by omega))]
  | succ e ih =>
    intro j n hj hn
    obtain ⟨n, rfl⟩ : ∃ n', n = n' + 1 := ⟨n - 1, by omega⟩
    have hj1 : j < 101 := by omega
    have bj : j * j ≤ 100 * 100 := Nat.mul_le_mul (by omega) (by omega)
    have bm1 : m1.val * j ≤ 100 * 100 := Nat.mul_le_mul (by omega) (by omega)
    have bs : j * j % 101 * j ≤ 100 * 100 := Nat.mul_le_mul (by omega) (by omega)
    have bm2 : m2.val * (j * j % 101) ≤ 100 * 100 := Nat.mul_le_mul (by omega) (by omega)
    obtain ⟨W, hW, e1, e2⟩ : ∃ W, W < 2 ^ 31 ∧ (if nI k = 2 then some (((nI j * nI j) + (nI m1.val * nI j)) + nI m0.val) else some (((((jrem (nI j * nI j) 101) * nI j) + (nI m2.val * (jrem (nI j * nI j) 101))) + (nI m1.val * nI j)) + nI m0.val) : Option Int32) = some (nI W) ∧ zc W = PQ k m0 m1 m2 ⟨j, hj1⟩ := by
      rcases hk with e | e
      · refine ⟨j * j + m1.val * j + m0.val, by omega, ?_, ?_⟩
        · rw [e, if_pos (by decide), pk_mul, pk_mul, nI_add, nI_add]
        · unfold PQ
          rw [if_pos e, zc_add, zc_add, zc_mul, zc_mul, zc_of, zc_of, zj hj1]
      · refine ⟨j * j % 101 * j + m2.val * (j * j % 101) + m1.val * j + m0.val, by omega, ?_, ?_⟩
        · rw [e, if_neg (by decide), pk_mul j j, jr_n (by omega), pk_mul, pk_mul, pk_mul, nI_add, nI_add, nI_add]
        · unfold PQ
          rw [if_neg (by omega), zc_add, zc_add, zc_add, zc_mul, zc_mul, zc_mul, zc_mod, zc_mul, zc_of, zc_of, zc_of, zj hj1]
          grind
    have kn1 : ¬ nI k ≤ 1 := nI_ge (a := 1) (by omega) (by omega)
    rw [f_X5_field_l66, if_neg (show ¬ (101 : Int32) ≤ nI j from nI_ge (b := 101) hj1 (by decide)), if_neg kn1, e1, Option.bind_some, jr_n hW]
    by_cases c : zc W = 0
    · rw [if_pos (z_nI.mpr c)]
      exact Or.inr ⟨⟨_, by rw [← e2]; exact c⟩, rfl⟩
    · rw [if_neg (fun z => c (z_nI.mp z)), nI_1]
      rcases ih (j + 1) n (by omega) (by omega) with ⟨a, y, b⟩ | v2
      · refine Or.inl ⟨fun x hx => ?_, y, b⟩
        by_cases z : x.val = j
        · have : x = ⟨j, hj1⟩ := Fin.ext z
          rw [this, ← e2]; exact c
        · exact a x (by omega)
      · exact Or.inr v2
