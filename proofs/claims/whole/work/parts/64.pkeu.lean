/-! Over a field the polynomials have a division: EU holds of them. -/
theorem pk_ext {K : Type} [Lean.Grind.CommRing K] {f g : PK K} (h : ∀ i, f.1 i = g.1 i) : f = g := Subtype.ext (funext h)
theorem pk_zero {K : Type} [Lean.Grind.CommRing K] (i : Nat) : ((pkRing K).ofNat 0).ofNat.1 i = (0 : K) := by
  show pc (0 : K) i = 0
  by_cases h : i = 0 <;> simp [pc, h]
theorem pk_ne {K : Type} [Lean.Grind.CommRing K] {f : PK K} (h : ¬ f = ((pkRing K).ofNat 0).ofNat) : ∃ e, ¬ f.1 e = 0 ∧ dl f.1 (e + 1) := by
  rcases pk_top f with h1 | h1
  · exact absurd (pk_ext (fun i => by rw [h1 i, pk_zero])) h
  · exact h1
theorem pk_eu {K : Type} [Lean.Grind.CommRing K] (hK : fld K) : @EU (PK K) (pkRing K) pdeg pmon := by
  letI := pkRing K
  have mulc : ∀ (a b : PK K) (i : Nat), (a * b).1 i = pm a.1 b.1 i := fun _ _ _ => rfl
  have addc : ∀ (a b : PK K) (i : Nat), (a + b).1 i = a.1 i + b.1 i := fun _ _ _ => rfl
  have ne : ∀ f : PK K, ¬ f = 0 → ∃ e, ¬ f.1 e = 0 ∧ dl f.1 (e + 1) := fun f h => pk_ne h
  have zc : ∀ i, (0 : PK K).1 i = 0 := fun i => pk_zero i
  have top : ∀ (a b : PK K) (x y : Nat), ¬ a.1 x = 0 → dl a.1 (x + 1) → ¬ b.1 y = 0 → dl b.1 (y + 1) → ¬ (a * b).1 (x + y) = 0 ∧ dl (a * b).1 (x + y + 1) := by
    intro a b x y h1 h2 h3 h4
    refine ⟨fun e => ?_, dl_mono (dl_pm h2 h4) (by omega)⟩
    rw [mulc, pm_top h2 h4] at e
    rcases fld_dom hK e with h | h
    · exact h1 h
    · exact h3 h
  refine ⟨fun a b hb => ?_, fun a b h => ?_, fun a b ha hb => ?_, fun a h0 ha => ?_, ⟨fun e => ?_, ⟨0, ?_⟩, ?_⟩, fun a b ha hb => ?_, fun a ha e => ?_, fun a b u ha hb h hu => ?_⟩
  · obtain ⟨y, h1, h2⟩ := ne b hb
    obtain ⟨w, hw⟩ := hK.2 (b.1 y) h1
    have hm : mo (fun i => w * b.1 i) y := ⟨by show w * b.1 y = 1; grind, fun i hi => by show w * b.1 i = 0; rw [h2 i hi]; grind⟩
    obtain ⟨n, hn⟩ := a.2
    obtain ⟨q, r, h3, h4, h5⟩ := div_ex hm n a.1 hn
    refine ⟨⟨fun i => w * q i, ⟨n - y, fun i hi => by show w * q i = 0; rw [h5 i hi]; grind⟩⟩, ⟨r, ⟨y, h4⟩⟩, pk_ext (fun i => ?_), ?_⟩
    · rw [h3 i, addc, mulc]
      show pm q (fun i => w * b.1 i) i + r i = pm (fun i => w * q i) b.1 i + r i
      rw [pm_comm i q, pm_mul_l, pm_mul_l, pm_comm i b.1 q]
    · rcases dl_top h4 with h6 | ⟨k, h6, h7, h8⟩
      · exact Or.inl (pk_ext (fun i => by rw [zc]; exact h6 i))
      · refine Or.inr ?_
        rw [pdeg_of (f := b) h1 h2, pdeg_of (f := ⟨r, ⟨y, h4⟩⟩) h7 h8]
        exact h6
  · by_cases ha : a = 0
    · exact Or.inl ha
    · by_cases hb : b = 0
      · exact Or.inr hb
      · obtain ⟨x, h1, h2⟩ := ne a ha
        obtain ⟨y, h3, h4⟩ := ne b hb
        exact absurd (by rw [h, zc]) (top a b x y h1 h2 h3 h4).1
  · obtain ⟨x, h1, h2⟩ := ne a ha
    obtain ⟨y, h3, h4⟩ := ne b hb
    obtain ⟨h5, h6⟩ := top a b x y h1 h2 h3 h4
    rw [pdeg_of h5 h6, pdeg_of h1 h2, pdeg_of h3 h4]
  · obtain ⟨x, h1, h2⟩ := ne a ha
    have hx : x = 0 := by rw [← pdeg_of h1 h2]; exact h0
    subst hx
    obtain ⟨w, hw⟩ := hK.2 (a.1 0) h1
    refine ⟨⟨pc w, en_pc w⟩, pk_ext (fun i => ?_)⟩
    rw [mulc, pm_comm, pm_pc]
    show w * a.1 i = pc 1 i
    by_cases hi : i = 0
    · subst hi; simp [pc]; grind
    · rw [h2 i (by omega)]; simp [pc, hi]; grind
  · have h1 : (1 : PK K).1 0 = (0 : PK K).1 0 := by rw [e]
    rw [zc] at h1
    exact hK.1 (by
      have h2 : (1 : PK K).1 0 = (1 : K) := by show pc (1 : K) 0 = 1; simp [pc]
      rw [← h2]; exact h1)
  · exact ⟨by show pc (1 : K) 0 = 1; simp [pc], fun i hi => by show pc (1 : K) i = 0; simp [pc, show ¬ i = 0 by omega]⟩
  · refine pdeg_of (e := 0) ?_ ?_
    · show ¬ pc (1 : K) 0 = 0
      simp only [pc, if_pos]
      exact hK.1
    · exact fun i hi => by show pc (1 : K) i = 0; simp [pc, show ¬ i = 0 by omega]
  · obtain ⟨x, h1, h2⟩ := ha
    obtain ⟨y, h3, h4⟩ := hb
    exact ⟨x + y, by rw [mulc, pm_top h2 h4, h1, h3]; grind, dl_mono (dl_pm h2 h4) (by omega)⟩
  · obtain ⟨x, h1, h2⟩ := ha
    rw [e, zc] at h1
    exact hK.1 h1.symm
  · obtain ⟨x, h1, h2⟩ := ha
    obtain ⟨y, h3, h4⟩ := hb
    have hu0 : ¬ u = 0 := fun z => by
      have h5 : a.1 x = 0 := by rw [h, z, mulc]; exact sm_zero (fun j _ => by rw [zc]; grind)
      exact hK.1 (by rw [← h1]; exact h5)
    obtain ⟨z, h5, h6⟩ := ne u hu0
    have hz : z = 0 := by rw [← pdeg_of h5 h6]; exact hu
    subst hz
    have hb1 : ¬ b.1 y = 0 := by rw [h3]; exact hK.1
    obtain ⟨h7, h8⟩ := top u b 0 y h5 h6 hb1 h4
    have hxy : x = y := by
      rw [← h] at h7 h8
      rw [← pdeg_of (f := a) (e := x) (by rw [h1]; exact hK.1) h2, pdeg_of h7 h8]; omega
    subst hxy
    have h9 : a.1 x = u.1 0 * b.1 x := by
      have := pm_top h6 h4
      rw [h, mulc]
      rw [show 0 + x = x by omega] at this
      exact this
    refine pk_ext (fun i => ?_)
    rw [h, mulc]
    have h10 : u.1 = pc 1 := by
      funext j
      by_cases hj : j = 0
      · subst hj; simp [pc]; grind
      · rw [h6 j (by omega)]; simp [pc, hj]
    rw [h10, pm_pc]; grind
