/-! The third field: each but 0 goes into 1, if the modulus has no root. -/
theorem id3a {Z : Type} [Lean.Grind.CommRing Z] {x y u w v m0 m1 m2 : Z} (hw : y * w = 1) (hu : x = -(u * y)) (hv : (u * u * u + m2 * u * u + m1 * u + m0) * v = 1) :
    x * (-(v * w) * (u * u + m2 * u + m1)) + -(y * -(v * w)) * m0 = 1 ∧ x * (-(v * w) * (u + m2)) + y * (-(v * w) * (u * u + m2 * u + m1)) + -(y * -(v * w)) * m1 = 0 ∧ x * -(v * w) + y * (-(v * w) * (u + m2)) + -(y * -(v * w)) * m2 = 0 := by
  subst hu
  refine ⟨?_, ?_, ?_⟩ <;> grind
theorem k3_lin {m0 m1 m2 : Z1} (h : ∀ x : Z1, ¬ x * x * x + m2 * x * x + m1 * x + m0 = 0) {x y : Z1} (hy : ¬ (x, y, (0 : Z1)) = (0, 0, 0)) : ∃ b, k3m m0 m1 m2 (x, y, 0) b = (1, 0, 0) := by
  by_cases e : y = 0
  · subst e
    have hx : ¬ x = 0 := fun z => hy (by rw [z])
    obtain ⟨w, hw⟩ := z_inv x hx
    refine ⟨(w, 0, 0), ?_⟩
    apply k3_ext <;> simp only [k3m, k3o3, k3o4]
    · rw [hw]; grind
    · grind
    · grind
  · obtain ⟨w, hw⟩ := z_inv y e
    have hu : x = -(-(x * w) * y) := by grind
    obtain ⟨v, hv⟩ := z_inv _ (h (-(x * w)))
    have h3 := id3a (m0 := m0) (m1 := m1) (m2 := m2) hw hu hv
    generalize -(x * w) = u at h3
    refine ⟨(-(v * w) * (u * u + m2 * u + m1), -(v * w) * (u + m2), -(v * w)), ?_⟩
    have o4 : k3o4 (x, y, 0) (-(v * w) * (u * u + m2 * u + m1), -(v * w) * (u + m2), -(v * w)) = 0 := by simp only [k3o4]; grind
    have o3 : k3o3 m2 (x, y, 0) (-(v * w) * (u * u + m2 * u + m1), -(v * w) * (u + m2), -(v * w)) = -(y * -(v * w)) := by simp only [k3o3, o4]; grind
    apply k3_ext
    · simp only [k3m, o4, o3]; exact h3.1
    · simp only [k3m, o4, o3]
      have := h3.2.1
      generalize -(v * w) * (u + m2) = b1 at this ⊢
      generalize -(v * w) * (u * u + m2 * u + m1) = b0 at this ⊢
      generalize -(y * -(v * w)) = o at this ⊢
      clear h3 o4 o3 hv hu hw h hy
      grind
    · simp only [k3m, o4, o3]
      have := h3.2.2
      generalize -(v * w) * (u + m2) = b1 at this ⊢
      generalize -(v * w) * (u * u + m2 * u + m1) = b0 at this ⊢
      generalize -(y * -(v * w)) = o at this ⊢
      generalize -(v * w) = b2 at this ⊢
      clear h3 o4 o3 hv hu hw h hy
      grind
theorem id3b {Z : Type} [Lean.Grind.CommRing Z] {x y z w m0 m1 m2 : Z} (hw : z * w = 1) : x * (m2 - y * w) + -(y * 0 + z * 1 + -(z * 0) * m2) * m0 = -z * (m0 - (m2 - y * w) * (x * w)) ∧ x * 1 + y * (m2 - y * w) + -(z * 0) * m0 + -(y * 0 + z * 1 + -(z * 0) * m2) * m1 = -z * (m1 - x * w - (m2 - y * w) * (y * w)) ∧ x * 0 + y * 1 + z * (m2 - y * w) + -(z * 0) * m1 + -(y * 0 + z * 1 + -(z * 0) * m2) * m2 = 0 := by
  refine ⟨?_, ?_, ?_⟩ <;> grind
theorem id3c {Z : Type} [Lean.Grind.CommRing Z] {s0 s1 m0 m1 m2 : Z} (h1 : m0 - (m2 - s1) * s0 = 0) (h2 : m1 - s0 - (m2 - s1) * s1 = 0) : -(m2 - s1) * -(m2 - s1) * -(m2 - s1) + m2 * -(m2 - s1) * -(m2 - s1) + m1 * -(m2 - s1) + m0 = 0 := by
  grind
theorem id3d {R : Type} [Lean.Grind.CommRing R] {A T r r' cz cw : R} (h1 : A * T = -cz * r) (h2 : r * r' = 1) (h3 : cz * cw = 1) : A * (T * (-cw * r')) = 1 := by
  grind
theorem k3_fld {m0 m1 m2 : Z1} (h : ∀ x : Z1, ¬ x * x * x + m2 * x * x + m1 * x + m0 = 0) : @fld (K3 m0 m1 m2) (k3Ring m0 m1 m2) := by
  letI := k3Ring m0 m1 m2
  refine ⟨fun e => ?_, fun a ha => ?_⟩
  · have h1 : ((1 : Z1), (0 : Z1), (0 : Z1)) = ((0 : Z1), (0 : Z1), (0 : Z1)) := e
    exact absurd (congrArg Prod.fst h1) (by decide)
  · obtain ⟨x, y, z⟩ := a
    by_cases hz : z = 0
    · subst hz
      exact k3_lin h ha
    · obtain ⟨w, hw⟩ := z_inv z hz
      have hr : ¬ ((m0 - (m2 - y * w) * (x * w), m1 - x * w - (m2 - y * w) * (y * w), (0 : Z1)) : Z1 × Z1 × Z1) = (0, 0, 0) := by
        intro e
        have e0 : m0 - (m2 - y * w) * (x * w) = 0 := congrArg (fun q : Z1 × Z1 × Z1 => q.1) e
        have e1 : m1 - x * w - (m2 - y * w) * (y * w) = 0 := congrArg (fun q : Z1 × Z1 × Z1 => q.2.1) e
        exact h _ (id3c e0 e1)
      obtain ⟨r', hr'⟩ := k3_lin h hr
      have h3 := id3b (x := x) (y := y) (m0 := m0) (m1 := m1) (m2 := m2) hw
      have hm : ∀ (c p q : Z1), k3m m0 m1 m2 (c, 0, 0) (p, q, 0) = (c * p, c * q, 0) := by
        intro c p q
        apply k3_ext <;> simp only [k3m, k3o3, k3o4] <;> grind
      let A : K3 m0 m1 m2 := (x, y, z)
      let T : K3 m0 m1 m2 := (m2 - y * w, 1, 0)
      let r : K3 m0 m1 m2 := (m0 - (m2 - y * w) * (x * w), m1 - x * w - (m2 - y * w) * (y * w), 0)
      let cz : K3 m0 m1 m2 := (z, 0, 0)
      let cw : K3 m0 m1 m2 := (w, 0, 0)
      have e1 : A * T = -cz * r := by
        have hn : -cz * r = k3m m0 m1 m2 (-z, 0, 0) (m0 - (m2 - y * w) * (x * w), m1 - x * w - (m2 - y * w) * (y * w), 0) := by
          show k3m m0 m1 m2 (-z, -0, -0) _ = _
          rw [show (-0 : Z1) = 0 by decide]
        rw [hn, hm]
        exact k3_ext h3.1 h3.2.1 h3.2.2
      have e3 : cz * cw = 1 := by
        show k3m m0 m1 m2 (z, 0, 0) (w, 0, 0) = (1, 0, 0)
        rw [hm, hw]
        exact k3_ext rfl (by grind) rfl
      have e2 : r * (show K3 m0 m1 m2 from r') = 1 := hr'
      exact ⟨_, id3d e1 e2 e3⟩
