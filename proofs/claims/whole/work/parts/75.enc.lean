/-! Elements as they are written: three digits. What the class's sums, differences and products make of them. -/
def zc (n : Nat) : Z1 := Fin.ofNat 101 n
theorem zc_val (n : Nat) : (zc n).val = n % 101 := rfl
theorem zc_of (x : Z1) : zc x.val = x := Fin.ext (Nat.mod_eq_of_lt x.isLt)
theorem zc_add (a b : Nat) : zc (a + b) = zc a + zc b := Fin.ext (by
  show (a + b) % 101 = (a % 101 + b % 101) % 101
  omega)
theorem zc_mul (a b : Nat) : zc (a * b) = zc a * zc b := Fin.ext (by
  show (a * b) % 101 = ((a % 101) * (b % 101)) % 101
  exact Nat.mul_mod a b 101)
theorem zc_mod (n : Nat) : zc (n % 101) = zc n := Fin.ext (by show n % 101 % 101 = n % 101; omega)
theorem zc_neg {r : Nat} (h : r ≤ 101) : zc (101 - r) = - zc r := by
  have h1 : zc (101 - r) + zc r = 0 := by
    rw [← zc_add, show 101 - r + r = 101 by omega]
    rfl
  grind
theorem zc_101 (n : Nat) : zc (n + 101) = zc n := Fin.ext (by show (n + 101) % 101 = n % 101; omega)
def e3 (x y z : Z1) : Int32 := nI (x.val + 101 * y.val + 10201 * z.val)
theorem i101 : (101 : Int32) = nI 101 := rfl
theorem i10201 : (10201 : Int32) = nI 10201 := rfl
theorem jr_n {a : Nat} (h : a < 2 ^ 31) : jrem (nI a) 101 = nI (a % 101) := pk_rem h (by decide) (by decide)
theorem e3_0 (x y z : Z1) : jrem (e3 x y z) 101 = nI x.val := by
  have := x.isLt; have := y.isLt; have := z.isLt
  rw [e3, jr_n (by omega)]
  congr 1; omega
theorem e3_1 (x y z : Z1) : jrem (e3 x y z / 101) 101 = nI y.val := by
  have := x.isLt; have := y.isLt; have := z.isLt
  rw [e3, i101, pk_div (by omega) (by decide) (by decide), ← i101, jr_n (by omega)]
  congr 1; omega
theorem e3_2 (x y z : Z1) : e3 x y z / 10201 = nI z.val := by
  have := x.isLt; have := y.isLt; have := z.isLt
  rw [e3, i10201, pk_div (by omega) (by decide) (by decide)]
  congr 1; omega
theorem e3_mk (a b c : Nat) : (nI (a % 101) + 101 * nI (b % 101)) + 10201 * nI (c % 101) = e3 (zc a) (zc b) (zc c) := by
  rw [i101, i10201, pk_mul, pk_mul, nI_add, nI_add]
  rfl
theorem e3_mk2 (a b : Nat) : nI (a % 101) + 101 * nI (b % 101) = e3 (zc a) (zc b) 0 := by
  rw [i101, pk_mul, nI_add]
  rfl
theorem e3_mk1 (a : Nat) : nI (a % 101) = e3 (zc a) 0 0 := rfl
theorem P_plus (x y z x' y' z' : Z1) : f_X0_plus (e3 x y z) (e3 x' y' z') = some (e3 (x + x') (y + y') (z + z')) := by
  have := x.isLt; have := y.isLt; have := z.isLt; have := x'.isLt; have := y'.isLt; have := z'.isLt
  unfold f_X0_plus
  simp only [nm]
  rw [e3_0, e3_0, e3_1, e3_1, e3_2, e3_2, nI_add, nI_add, nI_add, jr_n (by omega), jr_n (by omega), jr_n (by omega), e3_mk, zc_add, zc_add, zc_add, zc_of, zc_of, zc_of, zc_of, zc_of, zc_of]
theorem sub101 {a b : Nat} (ha : a < 101) (hb : b < 101) : nI a - nI b + 101 = nI (a + (101 - b)) := by
  rw [i101, ← nI_add, ← pk_sub (a := 101) (b := b) (by omega)]
  generalize nI a = u
  generalize nI b = v
  generalize nI 101 = w
  grind
theorem P_minus (x y z x' y' z' : Z1) : f_X0_minus (e3 x y z) (e3 x' y' z') = some (e3 (x - x') (y - y') (z - z')) := by
  have := x.isLt; have := y.isLt; have := z.isLt; have := x'.isLt; have := y'.isLt; have := z'.isLt
  unfold f_X0_minus
  simp only [nm]
  rw [e3_0, e3_0, e3_1, e3_1, e3_2, e3_2, sub101 (by omega) (by omega), sub101 (by omega) (by omega), sub101 (by omega) (by omega), jr_n (by omega), jr_n (by omega), jr_n (by omega), e3_mk, zc_add, zc_add, zc_add, zc_neg (by omega), zc_neg (by omega), zc_neg (by omega), zc_of, zc_of, zc_of, zc_of, zc_of, zc_of]
  congr 2 <;> grind
theorem P_neg (x y z : Z1) : f_X5_negative (e3 x y z) = some (e3 (-x) (-y) (-z)) := by
  have := x.isLt; have := y.isLt; have := z.isLt
  unfold f_X5_negative
  simp only [nm]
  rw [e3_0, e3_1, e3_2, i101, pk_sub (by omega), pk_sub (by omega), pk_sub (by omega), ← i101, jr_n (by omega), jr_n (by omega), jr_n (by omega), e3_mk, zc_neg (by omega), zc_neg (by omega), zc_neg (by omega), zc_of, zc_of, zc_of]
theorem P_add : f_X5_add = f_X0_plus := rfl
theorem P_less (x y z x' y' z' : Z1) : f_X5_less (e3 x y z) (e3 x' y' z') = some (e3 (x - x') (y - y') (z - z')) := by
  unfold f_X5_less
  rw [P_neg, Option.bind_some, P_add, P_plus, Option.bind_some]
  congr 2 <;> grind
theorem bnd (x y : Z1) : x.val * y.val ≤ 10000 := Nat.mul_le_mul (Nat.le_of_lt_succ x.isLt) (Nat.le_of_lt_succ y.isLt)
theorem e3_lt (x : Z1) : e3 x 0 0 = nI x.val := rfl
theorem e3_big {x y z : Z1} : 101 ≤ e3 x y z ↔ ¬ (y = 0 ∧ z = 0) := by
  have := x.isLt; have := y.isLt; have := z.isLt
  rw [e3, i101, nI_leI (by omega) (by omega)]
  constructor
  · intro h ⟨h1, h2⟩
    have e1 : y.val = 0 := by rw [h1]; rfl
    have e2 : z.val = 0 := by rw [h2]; rfl
    omega
  · intro h
    by_cases h1 : y.val = 0
    · by_cases h2 : z.val = 0
      · exact absurd ⟨Fin.ext h1, Fin.ext h2⟩ h
      · omega
    · omega
/-- the products' digits, where the modulus has the degree 3 -/
theorem P_times3 (E : Nat → Int32) {m0 m1 m2 : Z1} (h0 : E 0 = 3) (h2 : E 2 = nI m0.val) (h3 : E 3 = nI m1.val) (h4 : E 4 = nI m2.val) (a b : Z1 × Z1 × Z1) : f_X0_times E (e3 a.1 a.2.1 a.2.2) (e3 b.1 b.2.1 b.2.2) = some (e3 (k3m m0 m1 m2 a b).1 (k3m m0 m1 m2 a b).2.1 (k3m m0 m1 m2 a b).2.2) := by
  obtain ⟨x, y, z⟩ := a
  obtain ⟨x', y', z'⟩ := b
  have body : nm (jrem (e3 x y z) 101) (fun v2 => nm (jrem (e3 x y z / 101) 101) (fun v3 => nm (e3 x y z / 10201) (fun v4 => nm (jrem (e3 x' y' z') 101) (fun v5 => nm (jrem (e3 x' y' z' / 101) 101) (fun v6 => nm (e3 x' y' z' / 10201) (fun v7 => nm (v2 * v5) (fun v8 => nm ((v2 * v6) + (v3 * v5)) (fun v9 => nm (((v2 * v7) + (v3 * v6)) + (v4 * v5)) (fun v10 =>
      nm (jrem (101 - (jrem (v4 * v7) 101)) 101) (fun v12 => nm (((v3 * v7) + (v4 * v6)) + (v12 * (E 4))) (fun v13 => nm (jrem (101 - (jrem v13 101)) 101) (fun v14 => nm (v10 + ((v12 * (E 3)) + (v14 * (E 4)))) (fun v15 => nm (v9 + ((v12 * (E 2)) + (v14 * (E 3)))) (fun v16 => nm (v8 + (v14 * (E 2))) (fun v17 =>
      some (((jrem v17 101) + (101 * (jrem v16 101))) + (10201 * (jrem v15 101))))))))))))))))))
      = some (e3 (k3m m0 m1 m2 (x, y, z) (x', y', z')).1 (k3m m0 m1 m2 (x, y, z) (x', y', z')).2.1 (k3m m0 m1 m2 (x, y, z) (x', y', z')).2.2) := by
    simp only [nm]
    rw [e3_0, e3_1, e3_2, e3_0, e3_1, e3_2, h2, h3, h4]
    have b1 := bnd x x'; have b2 := bnd x y'; have b3 := bnd y x'; have b4 := bnd x z'; have b5 := bnd y y'; have b6 := bnd z x'; have b7 := bnd y z'; have b8 := bnd z y'; have b9 := bnd z z'
    simp only [pk_mul, nI_add]
    have ho4 : jrem (101 - jrem (nI (z.val * z'.val)) 101) 101 = nI (k3o4 (x, y, z) (x', y', z')).val := by
      rw [jr_n (by omega), i101, pk_sub (by omega), ← i101, jr_n (by omega), ← zc_val, zc_neg (by omega), zc_mod, zc_mul, zc_of, zc_of]
      rfl
    rw [ho4]
    generalize ho : k3o4 (x, y, z) (x', y', z') = o4
    have c2 := bnd o4 m2; have c1 := bnd o4 m1; have c0 := bnd o4 m0
    simp only [pk_mul, nI_add]
    have ho3 : jrem (101 - jrem (nI (y.val * z'.val + z.val * y'.val + o4.val * m2.val)) 101) 101 = nI (k3o3 m2 (x, y, z) (x', y', z')).val := by
      rw [jr_n (by omega), i101, pk_sub (by omega), ← i101, jr_n (by omega), ← zc_val, zc_neg (by omega), zc_mod, zc_add, zc_add, zc_mul, zc_mul, zc_mul, zc_of, zc_of, zc_of, zc_of, zc_of, zc_of]
      simp only [k3o3, ho]
    rw [ho3]
    generalize hp : k3o3 m2 (x, y, z) (x', y', z') = o3
    have d2 := bnd o3 m2; have d1 := bnd o3 m1; have d0 := bnd o3 m0
    simp only [pk_mul, nI_add]
    rw [jr_n (by omega), jr_n (by omega), jr_n (by omega), e3_mk]
    simp only [zc_add, zc_mul, zc_of, k3m, ho, hp]
    congr 2 <;> grind
  have hE : ¬ E 0 = 2 := by rw [h0]; decide
  unfold f_X0_times
  simp only [nm, if_neg hE] at body ⊢
  by_cases ha : 101 ≤ e3 x y z
  · rw [if_pos ha]
    exact body
  · rw [if_neg ha]
    by_cases hb : 101 ≤ e3 x' y' z'
    · rw [if_pos hb]
      exact body
    · rw [if_neg hb]
      obtain ⟨rfl, rfl⟩ := Classical.byContradiction (fun h => ha (e3_big.mpr h))
      obtain ⟨rfl, rfl⟩ := Classical.byContradiction (fun h => hb (e3_big.mpr h))
      have b1 := bnd x x'
      rw [e3_lt, e3_lt, pk_mul, jr_n (by omega), e3_mk1, zc_mul, zc_of, zc_of]
      simp only [k3m, k3o3, k3o4]
      congr 2 <;> grind
theorem P_times2 (E : Nat → Int32) {m0 m1 : Z1} (h0 : E 0 = 2) (h2 : E 2 = nI m0.val) (h3 : E 3 = nI m1.val) (a b : Z1 × Z1) : f_X0_times E (e3 a.1 a.2 0) (e3 b.1 b.2 0) = some (e3 (k2m m0 m1 a b).1 (k2m m0 m1 a b).2 0) := by
  obtain ⟨x, y⟩ := a
  obtain ⟨x', y'⟩ := b
  have body : nm (jrem (e3 x y 0) 101) (fun v2 => nm (jrem (e3 x y 0 / 101) 101) (fun v3 => nm (e3 x y 0 / 10201) (fun v4 => nm (jrem (e3 x' y' 0) 101) (fun v5 => nm (jrem (e3 x' y' 0 / 101) 101) (fun v6 => nm (e3 x' y' 0 / 10201) (fun v7 => nm (v2 * v5) (fun v8 => nm ((v2 * v6) + (v3 * v5)) (fun v9 => nm (((v2 * v7) + (v3 * v6)) + (v4 * v5)) (fun v10 =>
      nm (jrem (101 - (jrem v10 101)) 101) (fun v18 => nm (v9 + (v18 * (E 3))) (fun v19 => nm (v8 + (v18 * (E 2))) (fun v20 => some ((jrem v20 101) + (101 * (jrem v19 101)))))))))))))))
      = some (e3 (k2m m0 m1 (x, y) (x', y')).1 (k2m m0 m1 (x, y) (x', y')).2 0) := by
    simp only [nm]
    rw [e3_0, e3_1, e3_2, e3_0, e3_1, e3_2, h2, h3]
    have b1 := bnd x x'; have b2 := bnd x y'; have b3 := bnd y x'; have b4 := bnd x 0; have b5 := bnd y y'; have b6 := bnd 0 x'
    simp only [pk_mul, nI_add]
    have ho4 : jrem (101 - jrem (nI (x.val * (0 : Z1).val + y.val * y'.val + (0 : Z1).val * x'.val)) 101) 101 = nI (-(y * y')).val := by
      rw [jr_n (by omega), i101, pk_sub (by omega), ← i101, jr_n (by omega), ← zc_val, zc_neg (by omega), zc_mod, zc_add, zc_add, zc_mul, zc_mul, zc_mul, zc_of, zc_of, zc_of, zc_of, zc_of]
      congr 2; grind
    rw [ho4]
    generalize ho : -(y * y') = o
    have c1 := bnd o m1; have c0 := bnd o m0
    simp only [pk_mul, nI_add]
    rw [jr_n (by omega), jr_n (by omega), e3_mk2]
    simp only [zc_add, zc_mul, zc_of, k2m]
    rw [← ho]
    congr 2 <;> grind
  unfold f_X0_times
  simp only [nm, if_pos h0] at body ⊢
  by_cases ha : 101 ≤ e3 x y 0
  · rw [if_pos ha]
    exact body
  · rw [if_neg ha]
    by_cases hb : 101 ≤ e3 x' y' 0
    · rw [if_pos hb]
      exact body
    · rw [if_neg hb]
      obtain ⟨rfl, -⟩ := Classical.byContradiction (fun h => ha (e3_big.mpr h))
      obtain ⟨rfl, -⟩ := Classical.byContradiction (fun h => hb (e3_big.mpr h))
      have b1 := bnd x x'
      rw [e3_lt, e3_lt, pk_mul, jr_n (by omega), e3_mk1, zc_mul, zc_of, zc_of]
      simp only [k2m]
      congr 2 <;> grind
theorem P_times1 (E : Nat → Int32) (x x' : Z1) : f_X0_times E (e3 x 0 0) (e3 x' 0 0) = some (e3 (x * x') 0 0) := by
  have b1 := bnd x x'
  unfold f_X0_times
  rw [if_neg (fun h => e3_big.mp h ⟨rfl, rfl⟩), if_neg (fun h => e3_big.mp h ⟨rfl, rfl⟩), e3_lt, e3_lt, pk_mul, jr_n (by omega), e3_mk1, zc_mul, zc_of, zc_of]
