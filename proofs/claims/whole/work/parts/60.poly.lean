/-! Polynomials over a commutative ring, as rows of coefficients (Nat → K). Their ring; degrees; division; no word of Java here. -/
def sh {K : Type} (f : Nat → K) : Nat → K := fun i => f (i + 1)
/-- the sum of the first n -/
def sm {K : Type} [Lean.Grind.CommRing K] (f : Nat → K) : Nat → K
  | 0 => 0
  | n + 1 => sm f n + f n
/-- the product: at n the sum of f i * g (n - i), by the lowest coefficient first -/
def pm {K : Type} [Lean.Grind.CommRing K] (f g : Nat → K) : Nat → K := fun n => sm (fun i => f i * g (n - i)) (n + 1)
theorem sm_congr {K : Type} [Lean.Grind.CommRing K] {f g : Nat → K} {n : Nat} (h : ∀ i, i < n → f i = g i) : sm f n = sm g n := by
  induction n with
  | zero => rfl
  | succ n ih => rw [sm, sm, ih (fun i hi => h i (by omega)), h n (by omega)]
theorem sm_first {K : Type} [Lean.Grind.CommRing K] (f : Nat → K) (n : Nat) : sm f (n + 1) = f 0 + sm (sh f) n := by
  induction n with
  | zero => rw [sm, sm, sm]; grind
  | succ n ih => rw [sm, ih, sm, sh]; grind
theorem sm_add {K : Type} [Lean.Grind.CommRing K] (f g : Nat → K) (n : Nat) : sm (fun i => f i + g i) n = sm f n + sm g n := by
  induction n with
  | zero => rw [sm, sm, sm]; grind
  | succ n ih => rw [sm, ih, sm, sm]; grind
theorem sm_mul {K : Type} [Lean.Grind.CommRing K] (a : K) (f : Nat → K) (n : Nat) : sm (fun i => a * f i) n = a * sm f n := by
  induction n with
  | zero => rw [sm, sm]; grind
  | succ n ih => rw [sm, ih, sm]; grind
theorem sm_zero {K : Type} [Lean.Grind.CommRing K] {f : Nat → K} {n : Nat} (h : ∀ i, i < n → f i = 0) : sm f n = 0 := by
  induction n with
  | zero => rfl
  | succ n ih => rw [sm, ih (fun i hi => h i (by omega)), h n (by omega)]; grind
/-- one term alone -/
theorem sm_one {K : Type} [Lean.Grind.CommRing K] {f : Nat → K} {n k : Nat} (hk : k < n) (h : ∀ i, i < n → i ≠ k → f i = 0) : sm f n = f k := by
  induction n with
  | zero => omega
  | succ n ih =>
    rw [sm]
    by_cases e : k = n
    · subst e
      rw [sm_zero (fun i hi => h i (by omega) (by omega))]; grind
    · rw [ih (by omega) (fun i hi => h i (by omega)), h n (by omega) (by omega)]; grind
theorem pm_zero {K : Type} [Lean.Grind.CommRing K] (f g : Nat → K) : pm f g 0 = f 0 * g 0 := by
  show sm (fun i => f i * g (0 - i)) 1 = _
  rw [sm, sm]; grind
theorem pm_succ {K : Type} [Lean.Grind.CommRing K] (f g : Nat → K) (n : Nat) : pm f g (n + 1) = f 0 * g (n + 1) + pm (sh f) g n := by
  show sm (fun i => f i * g (n + 1 - i)) (n + 1 + 1) = _
  rw [sm_first]
  have e : sm (sh (fun i => f i * g (n + 1 - i))) (n + 1) = pm (sh f) g n := by
    show _ = sm (fun i => sh f i * g (n - i)) (n + 1)
    refine sm_congr (fun i hi => ?_)
    show f (i + 1) * g (n + 1 - (i + 1)) = f (i + 1) * g (n - i)
    rw [show n + 1 - (i + 1) = n - i by omega]
  rw [e]; rfl
theorem pm_add_l {K : Type} [Lean.Grind.CommRing K] (a b h : Nat → K) (n : Nat) : pm (fun i => a i + b i) h n = pm a h n + pm b h n := by
  show sm (fun i => (a i + b i) * h (n - i)) (n + 1) = sm _ (n + 1) + sm _ (n + 1)
  rw [← sm_add]
  exact sm_congr (fun i _ => by grind)
theorem pm_mul_l {K : Type} [Lean.Grind.CommRing K] (c : K) (a h : Nat → K) (n : Nat) : pm (fun i => c * a i) h n = c * pm a h n := by
  show sm (fun i => (c * a i) * h (n - i)) (n + 1) = c * sm _ (n + 1)
  rw [← sm_mul]
  exact sm_congr (fun i _ => by grind)
theorem pm_last {K : Type} [Lean.Grind.CommRing K] (n : Nat) : ∀ (f g : Nat → K), pm f g (n + 1) = pm f (sh g) n + f (n + 1) * g 0 := by
  intro f g
  show sm (fun i => f i * g (n + 1 - i)) (n + 1 + 1) = sm (fun i => f i * sh g (n - i)) (n + 1) + _
  rw [sm]
  have e : sm (fun i => f i * g (n + 1 - i)) (n + 1) = sm (fun i => f i * sh g (n - i)) (n + 1) := by
    refine sm_congr (fun i hi => ?_)
    show f i * g (n + 1 - i) = f i * g (n - i + 1)
    rw [show n + 1 - i = n - i + 1 by omega]
  rw [e]
  show _ + f (n + 1) * g (n + 1 - (n + 1)) = _
  rw [show n + 1 - (n + 1) = 0 by omega]
theorem pm_comm {K : Type} [Lean.Grind.CommRing K] (n : Nat) : ∀ (f g : Nat → K), pm f g n = pm g f n := by
  induction n with
  | zero => intro f g; rw [pm_zero, pm_zero]; grind
  | succ n ih => intro f g; rw [pm_succ, pm_last, ih]; grind
theorem pm_assoc {K : Type} [Lean.Grind.CommRing K] (n : Nat) : ∀ (f g h : Nat → K), pm (pm f g) h n = pm f (pm g h) n := by
  induction n with
  | zero => intro f g h; rw [pm_zero, pm_zero, pm_zero, pm_zero]; grind
  | succ n ih =>
    intro f g h
    rw [pm_succ (pm f g), pm_succ f (pm g h), pm_succ g h, pm_zero]
    have e : sh (pm f g) = fun i => (fun i => f 0 * sh g i) i + pm (sh f) g i := by
      funext i
      exact pm_succ f g i
    rw [e, pm_add_l, pm_mul_l, ih]; grind
/-- a constant, and the ring of these rows -/
def pc {K : Type} [Lean.Grind.CommRing K] (a : K) : Nat → K := fun i => if i = 0 then a else 0
theorem pm_pc {K : Type} [Lean.Grind.CommRing K] (a : K) (f : Nat → K) : pm (pc a) f = fun n => a * f n := by
  funext n
  show sm (fun i => pc a i * f (n - i)) (n + 1) = _
  rw [sm_one (k := 0) (by omega) (fun i _ hi => by simp [pc, hi]; grind)]
  simp [pc]
/-- the type of these rows, with its ring -/
abbrev Ps (K : Type) : Type := Nat → K
def ppow {K : Type} [Lean.Grind.CommRing K] (f : Nat → K) : Nat → Nat → K
  | 0 => pc 1
  | n + 1 => pm (ppow f n) f
def psRing (K : Type) [inst : Lean.Grind.CommRing K] : Lean.Grind.CommRing (Ps K) where
  add f g := fun i => (f i + g i : K)
  mul f g := pm (K := K) f g
  natCast := ⟨fun n => pc (K := K) (OfNat.ofNat n)⟩
  ofNat n := ⟨pc (K := K) (OfNat.ofNat n)⟩
  nsmul := ⟨fun n f => pm (K := K) (pc (OfNat.ofNat n)) f⟩
  npow := ⟨fun f n => ppow (K := K) f n⟩
  neg f := fun i => (- f i : K)
  sub f g := fun i => (f i - g i : K)
  intCast := ⟨fun i => pc (K := K) (inst.toRing.intCast.intCast i)⟩
  zsmul := ⟨fun i f => pm (K := K) (pc (inst.toRing.intCast.intCast i)) f⟩
  add_zero f := by
    funext i
    show (f i + pc (0 : K) i : K) = f i
    by_cases h : i = 0 <;> simp [pc, h] <;> grind
  add_comm f g := by funext i; show (f i + g i : K) = g i + f i; grind
  add_assoc f g h := by funext i; show (f i + g i + h i : K) = f i + (g i + h i); grind
  mul_assoc f g h := by funext i; exact pm_assoc (K := K) i f g h
  mul_comm f g := by funext i; exact pm_comm (K := K) i f g
  mul_one f := by
    funext i
    show pm (K := K) f (pc 1) i = f i
    rw [pm_comm, pm_pc]; grind
  one_mul f := by
    funext i
    show pm (K := K) (pc 1) f i = f i
    rw [pm_pc]; grind
  left_distrib f g h := by
    funext i
    show pm (K := K) f (fun i => g i + h i) i = pm f g i + pm f h i
    rw [pm_comm, pm_add_l, pm_comm i g f, pm_comm i h f]
  right_distrib f g h := by
    funext i
    exact pm_add_l (K := K) f g h i
  zero_mul f := by
    funext i
    show pm (K := K) (pc 0) f i = pc 0 i
    rw [pm_pc]; by_cases h : i = 0 <;> simp [pc, h] <;> grind
  mul_zero f := by
    funext i
    show pm (K := K) f (pc 0) i = pc 0 i
    rw [pm_comm, pm_pc]; by_cases h : i = 0 <;> simp [pc, h] <;> grind
  pow_zero f := rfl
  pow_succ f n := rfl
  ofNat_succ n := by
    funext i
    show pc (K := K) (OfNat.ofNat (n + 1)) i = pc (OfNat.ofNat n) i + pc 1 i
    by_cases h : i = 0 <;> simp [pc, h]
    · exact Lean.Grind.Semiring.ofNat_succ n
    · grind
  neg_add_cancel f := by
    funext i
    show (- f i + f i : K) = pc 0 i
    by_cases h : i = 0 <;> simp [pc, h] <;> grind
  sub_eq_add_neg f g := by funext i; show (f i - g i : K) = f i + - g i; grind
  neg_zsmul i f := by
    funext j
    show pm (K := K) (pc (inst.toRing.intCast.intCast (-i))) f j = - pm (pc (inst.toRing.intCast.intCast i)) f j
    rw [pm_pc, pm_pc]
    have e : (inst.toRing.intCast.intCast (-i) : K) = - inst.toRing.intCast.intCast i := Lean.Grind.Ring.intCast_neg i
    rw [e]; grind
  zsmul_natCast_eq_nsmul n f := by
    show pm (K := K) (pc (inst.toRing.intCast.intCast (n : Int))) f = pm (pc (OfNat.ofNat n)) f
    have e : (inst.toRing.intCast.intCast (n : Int) : K) = OfNat.ofNat n := Lean.Grind.Ring.intCast_ofNat n
    rw [e]
  intCast_ofNat n := by
    show pc (K := K) (inst.toRing.intCast.intCast (OfNat.ofNat n)) = pc (OfNat.ofNat n)
    have e : (inst.toRing.intCast.intCast (OfNat.ofNat n : Int) : K) = OfNat.ofNat n := Lean.Grind.Ring.intCast_ofNat n
    rw [e]
  intCast_neg i := by
    funext j
    show pc (K := K) (inst.toRing.intCast.intCast (-i)) j = - pc (inst.toRing.intCast.intCast i) j
    have e : (inst.toRing.intCast.intCast (-i) : K) = - inst.toRing.intCast.intCast i := Lean.Grind.Ring.intCast_neg i
    rw [e]
    by_cases h : j = 0 <;> simp [pc, h] <;> grind
