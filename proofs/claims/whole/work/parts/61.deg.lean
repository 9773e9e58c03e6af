/-! Degrees: dl f n: nothing from n on. mo f d: 1 at d, nothing above. -/
def dl {K : Type} [Lean.Grind.CommRing K] (f : Nat → K) (n : Nat) : Prop := ∀ i, n ≤ i → f i = 0
def mo {K : Type} [Lean.Grind.CommRing K] (f : Nat → K) (d : Nat) : Prop := f d = 1 ∧ dl f (d + 1)
theorem dl_mono {K : Type} [Lean.Grind.CommRing K] {f : Nat → K} {m n : Nat} (h : dl f m) (hm : m ≤ n) : dl f n := fun i hi => h i (by omega)
theorem dl_pm {K : Type} [Lean.Grind.CommRing K] {f g : Nat → K} {a b : Nat} (hf : dl f a) (hg : dl g b) : dl (pm f g) (a + b - 1) := by
  intro n hn
  refine sm_zero (fun i hi => ?_)
  by_cases h : a ≤ i
  · rw [hf i h]; grind
  · rw [hg (n - i) (by omega)]; grind
theorem pm_top {K : Type} [Lean.Grind.CommRing K] {f g : Nat → K} {a b : Nat} (hf : dl f (a + 1)) (hg : dl g (b + 1)) : pm f g (a + b) = f a * g b := by
  show sm (fun i => f i * g (a + b - i)) (a + b + 1) = _
  rw [sm_one (k := a) (by omega) (fun i hi hne => ?_)]
  · show f a * g (a + b - a) = _
    rw [show a + b - a = b by omega]
  · by_cases h : a < i
    · rw [hf i (by omega)]; grind
    · rw [hg (a + b - i) (by omega)]; grind
theorem dl_top {K : Type} [Lean.Grind.CommRing K] {f : Nat → K} : ∀ {n : Nat}, dl f n → (∀ i, f i = 0) ∨ ∃ e, e < n ∧ ¬ f e = 0 ∧ dl f (e + 1) := by
  intro n
  induction n with
  | zero => intro h; exact Or.inl (fun i => h i (by omega))
  | succ n ih =>
    intro h
    by_cases e : f n = 0
    · rcases ih (fun i hi => by
        by_cases h2 : i = n
        · rw [h2]; exact e
        · exact h i (by omega)) with h1 | ⟨k, h1, h2, h3⟩
      · exact Or.inl h1
      · exact Or.inr ⟨k, by omega, h2, h3⟩
    · exact Or.inr ⟨n, by omega, e, h⟩
/-- x to the n -/
def xp {K : Type} [Lean.Grind.CommRing K] (n : Nat) : Nat → K := fun i => if i = n then 1 else 0
theorem pm_xp {K : Type} [Lean.Grind.CommRing K] (n : Nat) (f : Nat → K) (i : Nat) : pm (xp n) f i = if n ≤ i then f (i - n) else 0 := by
  show sm (fun j => xp n j * f (i - j)) (i + 1) = _
  by_cases h : n ≤ i
  · rw [if_pos h, sm_one (k := n) (by omega) (fun j _ hj => by simp [xp, hj]; grind)]
    simp [xp]; grind
  · rw [if_neg h]
    exact sm_zero (fun j hj => by simp [xp, show ¬ j = n by omega]; grind)
theorem pm_sub_l {K : Type} [Lean.Grind.CommRing K] (a b h : Nat → K) (n : Nat) : pm (fun i => a i - b i) h n = pm a h n - pm b h n := by
  have e : (fun i => a i - b i) = (fun i => a i + (fun i => (-1) * b i) i) := by funext i; grind
  rw [e, pm_add_l, pm_mul_l]; grind
/-- division with a rest, by a polynomial with 1 at its highest power -/
theorem div_ex {K : Type} [Lean.Grind.CommRing K] {b : Nat → K} {d : Nat} (hb : mo b d) : ∀ (n : Nat) (a : Nat → K), dl a n → ∃ q r : Nat → K, (∀ i, a i = pm q b i + r i) ∧ dl r d ∧ dl q (n - d) := by
  intro n
  induction n with
  | zero =>
    intro a ha
    refine ⟨fun _ => 0, a, fun i => ?_, fun i _ => ha i (by omega), fun i _ => rfl⟩
    rw [show pm (fun _ => (0 : K)) b i = 0 from sm_zero (fun j _ => by grind)]; grind
  | succ n ih =>
    intro a ha
    by_cases h : n < d
    · refine ⟨fun _ => 0, a, fun i => ?_, dl_mono ha (by omega), fun i _ => rfl⟩
      rw [show pm (fun _ => (0 : K)) b i = 0 from sm_zero (fun j _ => by grind)]; grind
    · obtain ⟨q, r, h1, h2, h3⟩ := ih (fun i => a i - a n * pm (xp (n - d)) b i) (fun i hi => by
        show a i - a n * pm (xp (n - d)) b i = 0
        rw [pm_xp, if_pos (by omega)]
        by_cases e : i = n
        · rw [e, show n - (n - d) = d by omega, hb.1]; grind
        · rw [hb.2 (i - (n - d)) (by omega), ha i (by omega)]; grind)
      refine ⟨fun i => q i + (fun i => a n * xp (n - d) i) i, r, fun i => ?_, h2, fun i hi => ?_⟩
      · rw [pm_add_l, pm_mul_l]
        have := h1 i
        grind
      · show q i + a n * xp (n - d) i = 0
        rw [h3 i (by omega)]
        simp [xp, show ¬ i = n - d by omega]; grind
theorem div_un {K : Type} [Lean.Grind.CommRing K] {b : Nat → K} {d : Nat} (hb : mo b d) {q q' r r' : Nat → K} {n n' : Nat} (hq : dl q n) (hq' : dl q' n') (hr : dl r d) (hr' : dl r' d) (h : ∀ i, pm q b i + r i = pm q' b i + r' i) : (∀ i, q i = q' i) ∧ ∀ i, r i = r' i := by
  have key : ∀ i, q i = q' i := by
    rcases dl_top (f := fun i => q i - q' i) (n := n + n') (fun i hi => by show q i - q' i = 0; rw [hq i (by omega), hq' i (by omega)]; grind) with h1 | ⟨e, -, h1, h2⟩
    · intro i
      have := h1 i
      grind
    · have h3 := pm_top (f := fun i => q i - q' i) (g := b) h2 hb.2
      rw [pm_sub_l, hb.1] at h3
      have h4 := h (e + d)
      rw [hr (e + d) (by omega), hr' (e + d) (by omega)] at h4
      exact absurd (show q e - q' e = 0 by grind) h1
  refine ⟨key, fun i => ?_⟩
  have e : q = q' := funext key
  have h4 := h i
  rw [e] at h4
  grind
