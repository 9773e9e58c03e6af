/-! Primes of degree 2: their other root; which c tells two primes of one degree (1 or 2) apart. -/
theorem ax_neg {R : Type} [Lean.Grind.CommRing R] {deg : R → Nat} {mon : R → Prop} {X : R} {Kl : List R} {q : Nat} (hA : AX deg mon X Kl q) {a : R} (ha : deg a = 0) : deg (-a) = 0 := by
  have h := (hA.2.2.2.2.2.1 0 a (ax_0 hA) ha).2.2
  rw [show (0 : R) - a = -a by grind] at h
  exact h
theorem quad_form {R : Type} [Lean.Grind.CommRing R] {deg : R → Nat} {mon : R → Prop} {X : R} {Kl : List R} {q : Nat} (hA : AX deg mon X Kl q) {p : R} (hm : mon p) (hd : deg p = 2) : ∃ b c, deg b = 0 ∧ deg c = 0 ∧ p = X * X + b * X + c := by
  have hX := ax_X hA
  have hX0 := hA.1.2.2.2.2.2.2.1 X hX.1
  have h2 : mon (X * X) ∧ deg (X * X) = 2 := ⟨hA.1.2.2.2.2.2.1 X X hX.1 hX.1, by rw [hA.1.2.2.1 X X hX0 hX0, hX.2]⟩
  have hr : deg (p - X * X) < 2 := by
    by_cases e : p = X * X
    · rw [e, show X * X - X * X = (0 : R) by grind, ax_0 hA]; omega
    · have := hA.2.2.2.2.2.2.2.2.2.2.1 p (X * X) hm h2.1 (by rw [hd, h2.2]) e
      omega
  obtain ⟨b, c, h3, h4⟩ := hA.1.1 (p - X * X) X hX0
  have hc : deg c = 0 := by
    rcases h4 with h4 | h4
    · rw [h4]; exact ax_0 hA
    · omega
  have hb : deg b = 0 := by
    by_cases e : b = 0
    · rw [e]; exact ax_0 hA
    · have h5 := hA.1.2.2.1 b X e hX0
      have h6 := hA.2.2.2.2.2.2.2.2.2.2.2 (p - X * X) (-c)
      rw [show p - X * X + -c = b * X by grind, ax_neg hA hc, h5, hX.2] at h6
      omega
  exact ⟨b, c, hb, hc, by grind⟩
theorem quad_conj {R : Type} [Lean.Grind.CommRing R] {deg : R → Nat} {mon : R → Prop} {X : R} {Kl : List R} {q : Nat} (hA : AX deg mon X Kl q) {p : R} (hp : irr deg mon p) (hd : deg p = 2) : ∃ b c, deg b = 0 ∧ deg c = 0 ∧ p = X * X + b * X + c ∧ dv p (X ^ q + X + b) := by
  obtain ⟨b, c, hb, hc, e⟩ := quad_form hA hp.1 hd
  refine ⟨b, c, hb, hc, e, ?_⟩
  have fr := frobq hA.2.2.2.2.2.2.2.1 hA.2.2.2.2.2.2.2.2.1
  have h1 : p ^ q = X ^ q * X ^ q + b * X ^ q + c := by
    rw [e, fr, fr, mul_pow', mul_pow', hA.2.2.2.1 b hb, hA.2.2.2.1 c hc]
  have h2 : dv p (p ^ q) := by
    have := ax_q hA
    rw [show q = (q - 1) + 1 by omega, Lean.Grind.Semiring.pow_succ]
    exact ⟨p ^ (q - 1), by grind⟩
  obtain ⟨w, hw⟩ := h2
  rcases irr_pr hA.1 hp (a := X ^ q - X) (b := X ^ q + X + b) ⟨w - 1, by grind⟩ with h3 | h3
  · have := lin_of hA hp h3
    omega
  · exact h3
theorem quad_div {R : Type} [Lean.Grind.CommRing R] {deg : R → Nat} {mon : R → Prop} {X : R} {Kl : List R} {q : Nat} (hA : AX deg mon X Kl q) {p : R} (hp : irr deg mon p) (hd : deg p = 2) : dv p ((X ^ q) ^ q - X) := by
  obtain ⟨b, c, hb, hc, e, w, hw⟩ := quad_conj hA hp hd
  have fr := frobq hA.2.2.2.2.2.2.2.1 hA.2.2.2.2.2.2.2.2.1
  have h1 : (X ^ q) ^ q = p ^ q * w ^ q - X ^ q - b := by
    have h2 : X ^ q = p * w + (-X + -b) := by grind
    have h3 : (X ^ q) ^ q = (p * w + (-X + -b)) ^ q := by rw [← h2]
    rw [h3, fr, fr, mul_pow', q_odd hA, q_odd hA, hA.2.2.2.1 b hb]; grind
  have h2 : ∃ z, p ^ q = p * z := by
    have := ax_q hA
    rw [show q = (q - 1) + 1 by omega, Lean.Grind.Semiring.pow_succ]
    exact ⟨p ^ (q - 1), by grind⟩
  obtain ⟨z, hz⟩ := h2
  exact ⟨z * w ^ q - w, by rw [h1, hz]; grind⟩
theorem lin_div {R : Type} [Lean.Grind.CommRing R] {deg : R → Nat} {mon : R → Prop} {X : R} {Kl : List R} {q : Nat} (hA : AX deg mon X Kl q) {r : R} (hr : deg r = 0) : dv (X - r) (X ^ q - X) := by
  have h1 := pow_dv X r q
  rw [hA.2.2.2.1 r hr] at h1
  have h2 := dv_sub h1 (dv_rf (X - r))
  rw [show X ^ q - r - (X - r) = X ^ q - X by grind] at h2
  exact h2
theorem lin_form {R : Type} [Lean.Grind.CommRing R] {deg : R → Nat} {mon : R → Prop} {X : R} {Kl : List R} {q : Nat} (hA : AX deg mon X Kl q) {p : R} (hm : mon p) (hd : deg p = 1) : ∃ r, deg r = 0 ∧ p = X - r := by
  have hX := ax_X hA
  by_cases e : X = p
  · exact ⟨0, ax_0 hA, by grind⟩
  · have h := hA.2.2.2.2.2.2.2.2.2.2.1 X p hX.1 hm (by rw [hd, hX.2]) e
    exact ⟨X - p, by omega, by grind⟩
/-- what vanishes at all constants and has a degree below q is 0 -/
theorem vanish {R : Type} [Lean.Grind.CommRing R] {deg : R → Nat} {mon : R → Prop} {X : R} {Kl : List R} {q : Nat} (hA : AX deg mon X Kl q) {P : R} (h : ∀ e, deg e = 0 → dv (X - e) P) (hd : deg P < q) : P = 0 := by
  by_cases h0 : P = 0
  · exact h0
  · have hl : ∀ p ∈ Kl.map (fun a => X - a), mon p ∧ deg p = 1 := fun p hp => by
      obtain ⟨a, ha, rfl⟩ := List.mem_map.mp hp
      exact hA.2.2.2.2.1 a ((hA.2.2.1.1 a).mp ha)
    have h1 := lp_dvd hA.1 (P := P) _ (lp_map_nodup X Kl hA.2.2.1.2.1) (fun p h => deg0_irr hA.1 (hl p h).1 (hl p h).2) (fun p hp => by
      obtain ⟨a, ha, rfl⟩ := List.mem_map.mp hp
      exact h a ((hA.2.2.1.1 a).mp ha))
    have h2 := dv_deg hA.1 h0 h1
    rw [lp_deg1 hA.1 _ hl, List.length_map, hA.2.2.1.2.2] at h2
    omega
theorem cst_pow {R : Type} [Lean.Grind.CommRing R] {deg : R → Nat} {mon : R → Prop} {X : R} {Kl : List R} {q : Nat} (hA : AX deg mon X Kl q) {a : R} (ha : deg a = 0) (n : Nat) : deg (a ^ n) = 0 := by
  induction n with
  | zero => rw [Lean.Grind.Semiring.pow_zero]; exact hA.1.2.2.2.2.1.2.2
  | succ n ih => rw [Lean.Grind.Semiring.pow_succ]; exact (hA.2.2.2.2.2.1 _ _ ih ha).2.1
/-- a constant's half power: 0, 1 or -1 -/
theorem half_pow {R : Type} [Lean.Grind.CommRing R] {deg : R → Nat} {mon : R → Prop} {X : R} {Kl : List R} {q m : Nat} (hA : AX deg mon X Kl q) (hm : q = 2 * m + 1) {a : R} (ha : deg a = 0) (h0 : ¬ a = 0) : a ^ m = 1 ∨ a ^ m = -1 := by
  have h1 := hA.2.2.2.1 a ha
  rw [hm, Lean.Grind.Semiring.pow_succ, Nat.mul_comm, pow_mul', show (2 : Nat) = 1 + 1 by decide, pow_add', Lean.Grind.Semiring.pow_succ, Lean.Grind.Semiring.pow_zero] at h1
  have h2 : a * ((a ^ m - 1) * (a ^ m + 1)) = 0 := by grind
  rcases hA.1.2.1 _ _ h2 with h3 | h3
  · exact absurd h3 h0
  · rcases hA.1.2.1 _ _ h3 with h4 | h4
    · exact Or.inl (by grind)
    · exact Or.inr (by grind)
/-- a prime divides a constant only if it is 0 -/
theorem irr_cst {R : Type} [Lean.Grind.CommRing R] {deg : R → Nat} {mon : R → Prop} (hE : EU deg mon) {p a : R} (hp : irr deg mon p) (ha : deg a = 0) (h : dv p a) : a = 0 := by
  by_cases h0 : a = 0
  · exact h0
  · have := dv_deg hE h0 h
    have := hp.2.1
    omega
