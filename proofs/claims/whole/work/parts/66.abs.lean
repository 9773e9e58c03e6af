/-! The polynomials over a field of q elements, as a ring R with what we use of it: X; the constants are the elements of degree 0 (0 too), Kl lists them; any z may stand in X's place (a map that keeps sums, products and constants). -/
def AX {R : Type} [Lean.Grind.CommRing R] (deg : R → Nat) (mon : R → Prop) (X : R) (Kl : List R) (q : Nat) : Prop :=
  EU deg mon ∧ (∀ a : R, ¬ a = 0 → ∃ u v, u * v = 1 ∧ deg u = 0 ∧ mon (u * a)) ∧ ((∀ a : R, a ∈ Kl ↔ deg a = 0) ∧ Kl.Nodup ∧ Kl.length = q) ∧ (∀ a : R, deg a = 0 → a ^ q = a) ∧
  (∀ c : R, deg c = 0 → mon (X - c) ∧ deg (X - c) = 1) ∧ (∀ a b : R, deg a = 0 → deg b = 0 → deg (a + b) = 0 ∧ deg (a * b) = 0 ∧ deg (a - b) = 0) ∧
  (∀ z : R, ∃ σ : R → R, (∀ a b, σ (a + b) = σ a + σ b) ∧ (∀ a b, σ (a * b) = σ a * σ b) ∧ σ X = z ∧ ∀ c, deg c = 0 → σ c = c) ∧ (101 : R) = 0 ∧ (q = 101 ∨ q = 10201 ∨ q = 1030301) ∧
  (∀ a b : R, mon a → deg b < deg a → mon (a + b) ∧ deg (a + b) = deg a) ∧ (∀ a b : R, mon a → mon b → deg a = deg b → ¬ a = b → deg (a - b) < deg a) ∧ (∀ a b : R, deg (a + b) ≤ max (deg a) (deg b))
theorem pow_add' {R : Type} [Lean.Grind.CommRing R] (a : R) (m n : Nat) : a ^ (m + n) = a ^ m * a ^ n := by
  induction n with
  | zero => rw [Nat.add_zero, Lean.Grind.Semiring.pow_zero]; grind
  | succ n ih => rw [← Nat.add_assoc, Lean.Grind.Semiring.pow_succ, ih, Lean.Grind.Semiring.pow_succ]; grind
theorem pow_mul' {R : Type} [Lean.Grind.CommRing R] (a : R) (m n : Nat) : a ^ (m * n) = (a ^ m) ^ n := by
  induction n with
  | zero => rw [Nat.mul_zero, Lean.Grind.Semiring.pow_zero, Lean.Grind.Semiring.pow_zero]
  | succ n ih => rw [Nat.mul_succ, pow_add', ih, Lean.Grind.Semiring.pow_succ]
theorem mul_pow' {R : Type} [Lean.Grind.CommRing R] (a b : R) (n : Nat) : (a * b) ^ n = a ^ n * b ^ n := by
  induction n with
  | zero => rw [Lean.Grind.Semiring.pow_zero, Lean.Grind.Semiring.pow_zero, Lean.Grind.Semiring.pow_zero]; grind
  | succ n ih => rw [Lean.Grind.Semiring.pow_succ, ih, Lean.Grind.Semiring.pow_succ, Lean.Grind.Semiring.pow_succ]; grind
theorem frobq {R : Type} [Lean.Grind.CommRing R] (hc : (101 : R) = 0) {q : Nat} (hq : q = 101 ∨ q = 10201 ∨ q = 1030301) (a b : R) : (a + b) ^ q = a ^ q + b ^ q := by
  rcases hq with rfl | rfl | rfl
  · exact frob hc a b
  · rw [show 10201 = 101 * 101 by decide, pow_mul', pow_mul', pow_mul', frob hc, frob hc]
  · rw [show 1030301 = 101 * 101 * 101 by decide, pow_mul', pow_mul', pow_mul', pow_mul', pow_mul', pow_mul', frob hc, frob hc, frob hc]
/-- x - a divides x to the n, less a to the n -/
theorem pow_dv {R : Type} [Lean.Grind.CommRing R] (x a : R) (n : Nat) : dv (x - a) (x ^ n - a ^ n) := by
  induction n with
  | zero => rw [Lean.Grind.Semiring.pow_zero, Lean.Grind.Semiring.pow_zero]; exact ⟨0, by grind⟩
  | succ n ih =>
    obtain ⟨c, hc⟩ := ih
    rw [Lean.Grind.Semiring.pow_succ, Lean.Grind.Semiring.pow_succ]
    exact ⟨x * c + a ^ n, by grind⟩
theorem deg0_irr {R : Type} [Lean.Grind.CommRing R] {deg : R → Nat} {mon : R → Prop} (hE : EU deg mon) {p : R} (hm : mon p) (h1 : deg p = 1) : irr deg mon p := by
  refine ⟨hm, by omega, fun a b h => ?_⟩
  have hp0 := hE.2.2.2.2.2.2.1 p hm
  have ha : ¬ a = 0 := fun e => hp0 (by rw [h, e]; grind)
  have hb : ¬ b = 0 := fun e => hp0 (by rw [h, e]; grind)
  have h2 := hE.2.2.1 a b ha hb
  rw [← h, h1] at h2
  omega
theorem lp_dvd {R : Type} [Lean.Grind.CommRing R] {deg : R → Nat} {mon : R → Prop} (hE : EU deg mon) {P : R} : ∀ l : List R, l.Nodup → (∀ p ∈ l, irr deg mon p) → (∀ p ∈ l, dv p P) → dv (lp l) P := by
  intro l
  induction l with
  | nil => intro _ _ _; exact ⟨P, by show P = 1 * P; grind⟩
  | cons p l ih =>
    intro hn hi hd
    rw [List.nodup_cons] at hn
    obtain ⟨h, hh⟩ := ih hn.2 (fun z hz => hi z (List.mem_cons_of_mem _ hz)) (fun z hz => hd z (List.mem_cons_of_mem _ hz))
    have hp := hi p List.mem_cons_self
    rcases irr_pr hE hp (show dv p (lp l * h) by rw [← hh]; exact hd p List.mem_cons_self) with h1 | h1
    · obtain ⟨z, hz, h2⟩ := lp_dv hE hp l h1
      rw [irr_eq hE hp (hi z (List.mem_cons_of_mem _ hz)) h2] at hn
      exact absurd hz hn.1
    · obtain ⟨w, hw⟩ := h1
      exact ⟨w, by show P = p * lp l * w; rw [hh, hw]; grind⟩
theorem lp_mon {R : Type} [Lean.Grind.CommRing R] {deg : R → Nat} {mon : R → Prop} (hE : EU deg mon) : ∀ l : List R, (∀ p ∈ l, mon p) → mon (lp l) := by
  intro l
  induction l with
  | nil => intro _; exact hE.2.2.2.2.1.2.1
  | cons p l ih => intro h; exact hE.2.2.2.2.2.1 p (lp l) (h p List.mem_cons_self) (ih (fun z hz => h z (List.mem_cons_of_mem _ hz)))
theorem lp_deg1 {R : Type} [Lean.Grind.CommRing R] {deg : R → Nat} {mon : R → Prop} (hE : EU deg mon) {d : Nat} : ∀ l : List R, (∀ p ∈ l, mon p ∧ deg p = d) → deg (lp l) = d * l.length := by
  intro l
  induction l with
  | nil => intro _; show deg (1 : R) = d * 0; rw [hE.2.2.2.2.1.2.2, Nat.mul_zero]
  | cons p l ih =>
    intro h
    have h1 := h p List.mem_cons_self
    have h2 := ih (fun z hz => h z (List.mem_cons_of_mem _ hz))
    have h3 := lp_mon hE l (fun z hz => (h z (List.mem_cons_of_mem _ hz)).1)
    show deg (p * lp l) = d * (l.length + 1)
    rw [hE.2.2.1 p (lp l) (hE.2.2.2.2.2.2.1 p h1.1) (hE.2.2.2.2.2.2.1 _ h3), h1.2, h2, Nat.mul_succ, Nat.add_comm]
/-- one divides the other, both have 1 at the highest power, their degrees are the same: they are the same -/
theorem mon_eq {R : Type} [Lean.Grind.CommRing R] {deg : R → Nat} {mon : R → Prop} (hE : EU deg mon) {a b : R} (ha : mon a) (hb : mon b) (hd : deg a = deg b) (h : dv a b) : a = b := by
  obtain ⟨c, hc⟩ := h
  have ha0 := hE.2.2.2.2.2.2.1 a ha
  have hb0 := hE.2.2.2.2.2.2.1 b hb
  have hc0 : ¬ c = 0 := fun e => hb0 (by rw [hc, e]; grind)
  have h1 := hE.2.2.1 a c ha0 hc0
  rw [← hc] at h1
  exact (hE.2.2.2.2.2.2.2 b a c hb ha (by grind) (by omega)).symm
