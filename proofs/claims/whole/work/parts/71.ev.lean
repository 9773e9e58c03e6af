/-! A polynomial's value at z in a ring S into which K goes by φ. -/
def hom {K S : Type} [Lean.Grind.CommRing K] [Lean.Grind.CommRing S] (φ : K → S) : Prop := φ 0 = 0 ∧ φ 1 = 1 ∧ (∀ a b, φ (a + b) = φ a + φ b) ∧ ∀ a b, φ (a * b) = φ a * φ b
def evn {K S : Type} [Lean.Grind.CommRing K] [Lean.Grind.CommRing S] (φ : K → S) (z : S) (f : Nat → K) (n : Nat) : S := sm (fun i => φ (f i) * z ^ i) n
theorem evn_big {K S : Type} [Lean.Grind.CommRing K] [Lean.Grind.CommRing S] {φ : K → S} (hφ : hom φ) {z : S} {f : Nat → K} {n m : Nat} (h : dl f n) (hm : n ≤ m) : evn φ z f m = evn φ z f n := by
  induction m with
  | zero => rw [show n = 0 by omega]
  | succ m ih =>
    by_cases e : n = m + 1
    · rw [e]
    · have h1 := ih (by omega)
      unfold evn at h1 ⊢
      rw [sm, h1, h m (by omega), hφ.1]; grind
theorem evn_first {K S : Type} [Lean.Grind.CommRing K] [Lean.Grind.CommRing S] (φ : K → S) (z : S) (f : Nat → K) (n : Nat) : evn φ z f (n + 1) = φ (f 0) + z * evn φ z (sh f) n := by
  unfold evn
  rw [sm_first, ← sm_mul]
  congr 1
  · rw [Lean.Grind.Semiring.pow_zero]; grind
  · refine sm_congr (fun i _ => ?_)
    show φ (f (i + 1)) * z ^ (i + 1) = z * (φ (f (i + 1)) * z ^ i)
    rw [Lean.Grind.Semiring.pow_succ]; grind
theorem evn_add {K S : Type} [Lean.Grind.CommRing K] [Lean.Grind.CommRing S] {φ : K → S} (hφ : hom φ) (z : S) (f g : Nat → K) (n : Nat) : evn φ z (fun i => f i + g i) n = evn φ z f n + evn φ z g n := by
  unfold evn
  rw [← sm_add]
  exact sm_congr (fun i _ => by rw [hφ.2.2.1]; grind)
theorem evn_scale {K S : Type} [Lean.Grind.CommRing K] [Lean.Grind.CommRing S] {φ : K → S} (hφ : hom φ) (z : S) (a : K) (f : Nat → K) (n : Nat) : evn φ z (fun i => a * f i) n = φ a * evn φ z f n := by
  unfold evn
  rw [← sm_mul]
  exact sm_congr (fun i _ => by rw [hφ.2.2.2]; grind)
theorem dl_sh {K : Type} [Lean.Grind.CommRing K] {f : Nat → K} {n : Nat} (h : dl f (n + 1)) : dl (sh f) n := fun i hi => h (i + 1) (by omega)
theorem evn_mul {K S : Type} [Lean.Grind.CommRing K] [Lean.Grind.CommRing S] {φ : K → S} (hφ : hom φ) (z : S) : ∀ (n : Nat) (f : Nat → K), dl f n → ∀ (g : Nat → K) (m N : Nat), dl g m → n + m ≤ N → evn φ z (pm f g) N = evn φ z f n * evn φ z g m := by
  intro n
  induction n with
  | zero =>
    intro f hf g m N hg hN
    have e : pm f g = fun _ => 0 := by
      funext i
      exact sm_zero (fun j _ => by rw [hf j (by omega)]; grind)
    rw [e]
    unfold evn
    rw [sm_zero (fun i _ => by rw [hφ.1]; grind), sm]; grind
  | succ n ih =>
    intro f hf g m N hg hN
    obtain ⟨N, rfl⟩ : ∃ k, N = k + 1 := ⟨N - 1, by omega⟩
    have e : sh (pm f g) = fun i => (fun i => f 0 * sh g i) i + pm (sh f) g i := by
      funext i
      exact pm_succ f g i
    rw [evn_first, e, evn_add hφ, evn_scale hφ, ih (sh f) (dl_sh hf) g m N hg (by omega), pm_zero, hφ.2.2.2, evn_first φ z f n]
    have h1 := evn_first φ z g N
    rw [evn_big hφ hg (m := N + 1) (by omega)] at h1
    rw [h1]
    grind
