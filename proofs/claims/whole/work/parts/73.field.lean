/-! The fields: numbers modulo 101; pairs and triples of them, products without multiples of t t + m1 t + m0, of t t t + m2 t t + m1 t + m0. -/
abbrev Z1 : Type := Fin 101
def rp {α : Type} (mul : α → α → α) (one a : α) : Nat → α
  | 0 => one
  | n + 1 => mul (rp mul one a n) a
def zI (i : Int) : Z1 := (Lean.Grind.Ring.intCast : IntCast Z1).intCast i
theorem zI_nat (n : Nat) : zI (OfNat.ofNat n) = (OfNat.ofNat n : Z1) := Lean.Grind.Ring.intCast_ofNat n
theorem zI_neg (i : Int) : zI (-i) = - zI i := Lean.Grind.Ring.intCast_neg i
theorem zN_succ (n : Nat) : (OfNat.ofNat (n + 1) : Z1) = OfNat.ofNat n + 1 := Lean.Grind.Semiring.ofNat_succ n
def K2 (m0 m1 : Z1) : Type := Z1 × Z1
def k2m (m0 m1 : Z1) (a b : Z1 × Z1) : Z1 × Z1 := (a.1 * b.1 - a.2 * b.2 * m0, a.1 * b.2 + a.2 * b.1 - a.2 * b.2 * m1)
def k2Ring (m0 m1 : Z1) : Lean.Grind.CommRing (K2 m0 m1) where
  add a b := ((a.1 + b.1, a.2 + b.2) : Z1 × Z1)
  mul a b := k2m m0 m1 a b
  natCast := ⟨fun n => ((OfNat.ofNat n, 0) : Z1 × Z1)⟩
  ofNat n := ⟨((OfNat.ofNat n, 0) : Z1 × Z1)⟩
  nsmul := ⟨fun n a => k2m m0 m1 (OfNat.ofNat n, 0) a⟩
  npow := ⟨fun a n => rp (k2m m0 m1) (1, 0) a n⟩
  neg a := ((- a.1, - a.2) : Z1 × Z1)
  sub a b := ((a.1 - b.1, a.2 - b.2) : Z1 × Z1)
  intCast := ⟨fun i => ((zI i, 0) : Z1 × Z1)⟩
  zsmul := ⟨fun i a => k2m m0 m1 (zI i, 0) a⟩
  add_zero a := Prod.ext (show a.1 + 0 = a.1 by grind) (show a.2 + 0 = a.2 by grind)
  add_comm a b := Prod.ext (show a.1 + b.1 = b.1 + a.1 by grind) (show a.2 + b.2 = b.2 + a.2 by grind)
  add_assoc a b c := Prod.ext (show a.1 + b.1 + c.1 = a.1 + (b.1 + c.1) by grind) (show a.2 + b.2 + c.2 = a.2 + (b.2 + c.2) by grind)
  mul_assoc a b c := by
    show k2m m0 m1 (k2m m0 m1 a b) c = k2m m0 m1 a (k2m m0 m1 b c)
    apply Prod.ext <;> simp only [k2m] <;> grind
  mul_comm a b := by
    show k2m m0 m1 a b = k2m m0 m1 b a
    apply Prod.ext <;> simp only [k2m] <;> grind
  mul_one a := by
    show k2m m0 m1 a (1, 0) = a
    apply Prod.ext <;> simp only [k2m] <;> grind
  one_mul a := by
    show k2m m0 m1 (1, 0) a = a
    apply Prod.ext <;> simp only [k2m] <;> grind
  left_distrib a b c := by
    show k2m m0 m1 a (b.1 + c.1, b.2 + c.2) = ((k2m m0 m1 a b).1 + (k2m m0 m1 a c).1, (k2m m0 m1 a b).2 + (k2m m0 m1 a c).2)
    apply Prod.ext <;> simp only [k2m] <;> grind
  right_distrib a b c := by
    show k2m m0 m1 (a.1 + b.1, a.2 + b.2) c = ((k2m m0 m1 a c).1 + (k2m m0 m1 b c).1, (k2m m0 m1 a c).2 + (k2m m0 m1 b c).2)
    apply Prod.ext <;> simp only [k2m] <;> grind
  zero_mul a := by
    show k2m m0 m1 (0, 0) a = (0, 0)
    apply Prod.ext <;> simp only [k2m] <;> grind
  mul_zero a := by
    show k2m m0 m1 a (0, 0) = (0, 0)
    apply Prod.ext <;> simp only [k2m] <;> grind
  pow_zero a := rfl
  pow_succ a n := rfl
  ofNat_succ n := by
    show ((OfNat.ofNat (n + 1), 0) : Z1 × Z1) = (OfNat.ofNat n + 1, 0 + 0)
    rw [zN_succ]; rfl
  neg_add_cancel a := Prod.ext (show - a.1 + a.1 = 0 by grind) (show - a.2 + a.2 = 0 by grind)
  sub_eq_add_neg a b := Prod.ext (show a.1 - b.1 = a.1 + - b.1 by grind) (show a.2 - b.2 = a.2 + - b.2 by grind)
  neg_zsmul i a := by
    show k2m m0 m1 (zI (-i), 0) a = (- (k2m m0 m1 (zI i, 0) a).1, - (k2m m0 m1 (zI i, 0) a).2)
    rw [zI_neg]
    apply Prod.ext <;> simp only [k2m] <;> grind
  zsmul_natCast_eq_nsmul n a := by
    show k2m m0 m1 (zI (n : Int), 0) a = k2m m0 m1 (OfNat.ofNat n, 0) a
    rw [show zI (n : Int) = (OfNat.ofNat n : Z1) from zI_nat n]
  intCast_ofNat n := by
    show ((zI (OfNat.ofNat n), 0) : Z1 × Z1) = (OfNat.ofNat n, 0)
    rw [zI_nat]
  intCast_neg i := by
    show ((zI (-i), 0) : Z1 × Z1) = (- zI i, - 0)
    rw [zI_neg]; rfl
theorem z_inv : ∀ a : Z1, ¬ a = 0 → ∃ b : Z1, a * b = 1 := by decide +kernel
theorem z_dom {a b : Z1} (h : a * b = 0) : a = 0 ∨ b = 0 := by
  by_cases ha : a = 0
  · exact Or.inl ha
  · obtain ⟨c, hc⟩ := z_inv a ha
    exact Or.inr (by grind)
theorem z_fld : fld Z1 := ⟨by decide, z_inv⟩
theorem id2a {Z : Type} [Lean.Grind.CommRing Z] {x y w m0 m1 : Z} (e : x * x - m1 * x * y + m0 * y * y = 0) (hw : y * w = 1) : -(x * w) * -(x * w) + m1 * -(x * w) + m0 = 0 := by
  have h2 : (x * x - m1 * x * y + m0 * y * y) * (w * w) = 0 := by rw [e]; grind
  grind
theorem id2b {Z : Type} [Lean.Grind.CommRing Z] {x y w m0 m1 : Z} (hw : (x * x - m1 * x * y + m0 * y * y) * w = 1) : x * ((x - m1 * y) * w) - y * (-y * w) * m0 = 1 ∧ x * (-y * w) + y * ((x - m1 * y) * w) - y * (-y * w) * m1 = 0 := by
  constructor <;> grind
theorem k2_fld {m0 m1 : Z1} (h : ∀ x : Z1, ¬ x * x + m1 * x + m0 = 0) : @fld (K2 m0 m1) (k2Ring m0 m1) := by
  letI := k2Ring m0 m1
  refine ⟨fun e => ?_, fun a ha => ?_⟩
  · have h1 : ((1 : Z1), (0 : Z1)) = ((0 : Z1), (0 : Z1)) := e
    exact absurd (congrArg Prod.fst h1) (by decide)
  · obtain ⟨x, y⟩ := a
    have hn : ¬ x * x - m1 * x * y + m0 * y * y = 0 := by
      intro e
      by_cases hy : y = 0
      · subst hy
        have hx : x * x = 0 := by grind
        have hx0 : x = 0 := (z_dom hx).elim id id
        exact ha (by subst hx0; rfl)
      · obtain ⟨w, hw⟩ := z_inv y hy
        exact h (-(x * w)) (id2a e hw)
    obtain ⟨w, hw⟩ := z_inv _ hn
    refine ⟨((x - m1 * y) * w, - y * w), ?_⟩
    exact Prod.ext (id2b hw).1 (id2b hw).2
def K3 (m0 m1 m2 : Z1) : Type := Z1 × Z1 × Z1
/-- what is taken off: t to the 4, then t to the 3 -/
def k3o4 (a b : Z1 × Z1 × Z1) : Z1 := - (a.2.2 * b.2.2)
def k3o3 (m2 : Z1) (a b : Z1 × Z1 × Z1) : Z1 := - (a.2.1 * b.2.2 + a.2.2 * b.2.1 + k3o4 a b * m2)
def k3m (m0 m1 m2 : Z1) (a b : Z1 × Z1 × Z1) : Z1 × Z1 × Z1 :=
  (a.1 * b.1 + k3o3 m2 a b * m0, a.1 * b.2.1 + a.2.1 * b.1 + k3o4 a b * m0 + k3o3 m2 a b * m1, a.1 * b.2.2 + a.2.1 * b.2.1 + a.2.2 * b.1 + k3o4 a b * m1 + k3o3 m2 a b * m2)
theorem k3_ext {a b : Z1 × Z1 × Z1} (h0 : a.1 = b.1) (h1 : a.2.1 = b.2.1) (h2 : a.2.2 = b.2.2) : a = b := Prod.ext h0 (Prod.ext h1 h2)
theorem k3_assoc {Z : Type} [Lean.Grind.CommRing Z] {a0 a1 a2 b0 b1 b2 c0 c1 c2 m0 m1 m2 o4 o3 d0 d1 d2 p4 p3 e0 e1 e2 r4 r3 s4 s3 : Z} (h1 : o4 = -(a2 * b2)) (h2 : o3 = -(a1 * b2 + a2 * b1 + o4 * m2)) (h3 : d0 = a0 * b0 + o3 * m0) (h4 : d1 = a0 * b1 + a1 * b0 + o4 * m0 + o3 * m1) (h5 : d2 = a0 * b2 + a1 * b1 + a2 * b0 + o4 * m1 + o3 * m2)
    (g1 : p4 = -(b2 * c2)) (g2 : p3 = -(b1 * c2 + b2 * c1 + p4 * m2)) (g3 : e0 = b0 * c0 + p3 * m0) (g4 : e1 = b0 * c1 + b1 * c0 + p4 * m0 + p3 * m1) (g5 : e2 = b0 * c2 + b1 * c1 + b2 * c0 + p4 * m1 + p3 * m2)
    (r1 : r4 = -(d2 * c2)) (r2 : r3 = -(d1 * c2 + d2 * c1 + r4 * m2)) (s1 : s4 = -(a2 * e2)) (s2 : s3 = -(a1 * e2 + a2 * e1 + s4 * m2)) :
    d0 * c0 + r3 * m0 = a0 * e0 + s3 * m0 ∧ d0 * c1 + d1 * c0 + r4 * m0 + r3 * m1 = a0 * e1 + a1 * e0 + s4 * m0 + s3 * m1 ∧ d0 * c2 + d1 * c1 + d2 * c0 + r4 * m1 + r3 * m2 = a0 * e2 + a1 * e1 + a2 * e0 + s4 * m1 + s3 * m2 := by
  subst h1 h2 h3 h4 h5 g1 g2 g3 g4 g5 r1 r2 s1 s2
  refine ⟨?_, ?_, ?_⟩ <;> grind
def k3Ring (m0 m1 m2 : Z1) : Lean.Grind.CommRing (K3 m0 m1 m2) where
  add a b := ((a.1 + b.1, a.2.1 + b.2.1, a.2.2 + b.2.2) : Z1 × Z1 × Z1)
  mul a b := k3m m0 m1 m2 a b
  natCast := ⟨fun n => ((OfNat.ofNat n, 0, 0) : Z1 × Z1 × Z1)⟩
  ofNat n := ⟨((OfNat.ofNat n, 0, 0) : Z1 × Z1 × Z1)⟩
  nsmul := ⟨fun n a => k3m m0 m1 m2 (OfNat.ofNat n, 0, 0) a⟩
  npow := ⟨fun a n => rp (k3m m0 m1 m2) (1, 0, 0) a n⟩
  neg a := ((- a.1, - a.2.1, - a.2.2) : Z1 × Z1 × Z1)
  sub a b := ((a.1 - b.1, a.2.1 - b.2.1, a.2.2 - b.2.2) : Z1 × Z1 × Z1)
  intCast := ⟨fun i => ((zI i, 0, 0) : Z1 × Z1 × Z1)⟩
  zsmul := ⟨fun i a => k3m m0 m1 m2 (zI i, 0, 0) a⟩
  add_zero a := k3_ext (show a.1 + 0 = a.1 by grind) (show a.2.1 + 0 = a.2.1 by grind) (show a.2.2 + 0 = a.2.2 by grind)
  add_comm a b := k3_ext (show a.1 + b.1 = b.1 + a.1 by grind) (show a.2.1 + b.2.1 = b.2.1 + a.2.1 by grind) (show a.2.2 + b.2.2 = b.2.2 + a.2.2 by grind)
  add_assoc a b c := k3_ext (show a.1 + b.1 + c.1 = a.1 + (b.1 + c.1) by grind) (show a.2.1 + b.2.1 + c.2.1 = a.2.1 + (b.2.1 + c.2.1) by grind) (show a.2.2 + b.2.2 + c.2.2 = a.2.2 + (b.2.2 + c.2.2) by grind)
  mul_assoc a b c := by
    show k3m m0 m1 m2 (k3m m0 m1 m2 a b) c = k3m m0 m1 m2 a (k3m m0 m1 m2 b c)
    have h := k3_assoc (a0 := a.1) (a1 := a.2.1) (a2 := a.2.2) (b0 := b.1) (b1 := b.2.1) (b2 := b.2.2) (c0 := c.1) (c1 := c.2.1) (c2 := c.2.2) (m0 := m0) (m1 := m1) (m2 := m2) rfl rfl rfl rfl rfl rfl rfl rfl rfl rfl rfl rfl rfl rfl
    exact k3_ext h.1 h.2.1 h.2.2
  mul_comm a b := by
    show k3m m0 m1 m2 a b = k3m m0 m1 m2 b a
    apply k3_ext <;> simp only [k3m, k3o3, k3o4] <;> grind
  mul_one a := by
    show k3m m0 m1 m2 a (1, 0, 0) = a
    apply k3_ext <;> simp only [k3m, k3o3, k3o4] <;> grind
  one_mul a := by
    show k3m m0 m1 m2 (1, 0, 0) a = a
    apply k3_ext <;> simp only [k3m, k3o3, k3o4] <;> grind
  left_distrib a b c := by
    show k3m m0 m1 m2 a (b.1 + c.1, b.2.1 + c.2.1, b.2.2 + c.2.2) = ((k3m m0 m1 m2 a b).1 + (k3m m0 m1 m2 a c).1, (k3m m0 m1 m2 a b).2.1 + (k3m m0 m1 m2 a c).2.1, (k3m m0 m1 m2 a b).2.2 + (k3m m0 m1 m2 a c).2.2)
    apply k3_ext <;> simp only [k3m, k3o3, k3o4] <;> grind
  right_distrib a b c := by
    show k3m m0 m1 m2 (a.1 + b.1, a.2.1 + b.2.1, a.2.2 + b.2.2) c = ((k3m m0 m1 m2 a c).1 + (k3m m0 m1 m2 b c).1, (k3m m0 m1 m2 a c).2.1 + (k3m m0 m1 m2 b c).2.1, (k3m m0 m1 m2 a c).2.2 + (k3m m0 m1 m2 b c).2.2)
    apply k3_ext <;> simp only [k3m, k3o3, k3o4] <;> grind
  zero_mul a := by
    show k3m m0 m1 m2 (0, 0, 0) a = (0, 0, 0)
    apply k3_ext <;> simp only [k3m, k3o3, k3o4] <;> grind
  mul_zero a := by
    show k3m m0 m1 m2 a (0, 0, 0) = (0, 0, 0)
    apply k3_ext <;> simp only [k3m, k3o3, k3o4] <;> grind
  pow_zero a := rfl
  pow_succ a n := rfl
  ofNat_succ n := by
    show ((OfNat.ofNat (n + 1), 0, 0) : Z1 × Z1 × Z1) = (OfNat.ofNat n + 1, 0 + 0, 0 + 0)
    rw [zN_succ]; rfl
  neg_add_cancel a := k3_ext (show - a.1 + a.1 = 0 by grind) (show - a.2.1 + a.2.1 = 0 by grind) (show - a.2.2 + a.2.2 = 0 by grind)
  sub_eq_add_neg a b := k3_ext (show a.1 - b.1 = a.1 + - b.1 by grind) (show a.2.1 - b.2.1 = a.2.1 + - b.2.1 by grind) (show a.2.2 - b.2.2 = a.2.2 + - b.2.2 by grind)
  neg_zsmul i a := by
    show k3m m0 m1 m2 (zI (-i), 0, 0) a = (- (k3m m0 m1 m2 (zI i, 0, 0) a).1, - (k3m m0 m1 m2 (zI i, 0, 0) a).2.1, - (k3m m0 m1 m2 (zI i, 0, 0) a).2.2)
    rw [zI_neg]
    apply k3_ext <;> simp only [k3m, k3o3, k3o4] <;> grind
  zsmul_natCast_eq_nsmul n a := by
    show k3m m0 m1 m2 (zI (n : Int), 0, 0) a = k3m m0 m1 m2 (OfNat.ofNat n, 0, 0) a
    rw [show zI (n : Int) = (OfNat.ofNat n : Z1) from zI_nat n]
  intCast_ofNat n := by
    show ((zI (OfNat.ofNat n), 0, 0) : Z1 × Z1 × Z1) = (OfNat.ofNat n, 0, 0)
    rw [zI_nat]
  intCast_neg i := by
    show ((zI (-i), 0, 0) : Z1 × Z1 × Z1) = (- zI i, - 0, - 0)
    rw [zI_neg]; rfl
