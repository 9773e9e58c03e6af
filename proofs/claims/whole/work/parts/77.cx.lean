/-! A field and how its elements are written (cd), as the class (E) and the reference (kk, md) reckon with them. -/
def CX {K : Type} [Lean.Grind.CommRing K] (cd : K → Int32) (E : Nat → Int32) (kk : Int32) (md : Nat → Int32) : Prop :=
  (∀ a b, cd a = cd b → a = b) ∧ (cd 0 = 0 ∧ cd 1 = 1) ∧ (∀ a b, f_X0_plus (cd a) (cd b) = some (cd (a + b))) ∧ (∀ a b, f_X0_minus (cd a) (cd b) = some (cd (a - b))) ∧ (∀ a b, f_X0_times E (cd a) (cd b) = some (cd (a * b))) ∧
  (∀ a b, f_X5_less (cd a) (cd b) = some (cd (a - b))) ∧ (∀ a, f_X5_negative (cd a) = some (cd (-a))) ∧ ∀ fu a b, 10 ≤ fu → f_X5_times fu kk md (cd a) (cd b) = some (cd (a * b))
theorem e3_inj {x y z x' y' z' : Z1} (h : e3 x y z = e3 x' y' z') : x = x' ∧ y = y' ∧ z = z' := by
  have := x.isLt; have := y.isLt; have := z.isLt; have := x'.isLt; have := y'.isLt; have := z'.isLt
  have h1 := (nI_eq (a := x.val + 101 * y.val + 10201 * z.val) (b := x'.val + 101 * y'.val + 10201 * z'.val) (by omega) (by omega)).mp h
  exact ⟨Fin.ext (by omega), Fin.ext (by omega), Fin.ext (by omega)⟩
theorem cx1 {E md : Nat → Int32} {m0 : Z1} (g0 : md 0 = nI m0.val) : CX (fun x : Z1 => e3 x 0 0) E 1 md := by
  refine ⟨fun a b h => (e3_inj h).1, ⟨rfl, rfl⟩, fun a b => ?_, fun a b => ?_, fun a b => P_times1 E a b, fun a b => ?_, fun a => ?_, fun fu a b h => P_rtimes1 h g0 a b⟩
  · rw [P_plus]; rfl
  · rw [P_minus]; rfl
  · rw [P_less]; rfl
  · rw [P_neg]; rfl
theorem cx2 {E md : Nat → Int32} {m0 m1 : Z1} (h0 : E 0 = 2) (h2 : E 2 = nI m0.val) (h3 : E 3 = nI m1.val) (g0 : md 0 = nI m0.val) (g1 : md 1 = nI m1.val) : letI := k2Ring m0 m1; CX (fun p : K2 m0 m1 => e3 p.1 p.2 0) E 2 md := by
  letI := k2Ring m0 m1
  refine ⟨fun a b h => Prod.ext (e3_inj h).1 (e3_inj h).2.1, ⟨rfl, rfl⟩, fun a b => ?_, fun a b => ?_, fun a b => P_times2 E h0 h2 h3 a b, fun a b => ?_, fun a => ?_, fun fu a b h => P_rtimes2 h g0 g1 a b⟩
  · show f_X0_plus (e3 a.1 a.2 0) (e3 b.1 b.2 0) = _
    rw [P_plus]; rfl
  · show f_X0_minus (e3 a.1 a.2 0) (e3 b.1 b.2 0) = _
    rw [P_minus]; rfl
  · show f_X5_less (e3 a.1 a.2 0) (e3 b.1 b.2 0) = _
    rw [P_less]; rfl
  · show f_X5_negative (e3 a.1 a.2 0) = _
    rw [P_neg]; rfl
theorem cx3 {E md : Nat → Int32} {m0 m1 m2 : Z1} (h0 : E 0 = 3) (h2 : E 2 = nI m0.val) (h3 : E 3 = nI m1.val) (h4 : E 4 = nI m2.val) (g0 : md 0 = nI m0.val) (g1 : md 1 = nI m1.val) (g2 : md 2 = nI m2.val) : letI := k3Ring m0 m1 m2; CX (fun p : K3 m0 m1 m2 => e3 p.1 p.2.1 p.2.2) E 3 md := by
  letI := k3Ring m0 m1 m2
  refine ⟨fun a b h => k3_ext (e3_inj h).1 (e3_inj h).2.1 (e3_inj h).2.2, ⟨rfl, rfl⟩, fun a b => ?_, fun a b => ?_, fun a b => P_times3 E h0 h2 h3 h4 a b, fun a b => ?_, fun a => ?_, fun fu a b h => P_rtimes3 h g0 g1 g2 a b⟩
  · show f_X0_plus (e3 a.1 a.2.1 a.2.2) (e3 b.1 b.2.1 b.2.2) = _
    rw [P_plus]; rfl
  · show f_X0_minus (e3 a.1 a.2.1 a.2.2) (e3 b.1 b.2.1 b.2.2) = _
    rw [P_minus]; rfl
  · show f_X5_less (e3 a.1 a.2.1 a.2.2) (e3 b.1 b.2.1 b.2.2) = _
    rw [P_less]; rfl
  · show f_X5_negative (e3 a.1 a.2.1 a.2.2) = _
    rw [P_neg]; rfl
