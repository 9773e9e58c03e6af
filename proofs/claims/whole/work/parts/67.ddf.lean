/-! Which primes divide x to the q less x, and x to the q q less x. -/
theorem ax_X {R : Type} [Lean.Grind.CommRing R] {deg : R → Nat} {mon : R → Prop} {X : R} {Kl : List R} {q : Nat} (hA : AX deg mon X Kl q) : mon X ∧ deg X = 1 := by
  have h0 : deg (0 : R) = 0 := by
    have h := (hA.2.2.2.2.2.1 1 1 hA.1.2.2.2.2.1.2.2 hA.1.2.2.2.2.1.2.2).2.2
    rw [show (1 : R) - 1 = 0 by grind] at h
    exact h
  have h := hA.2.2.2.2.1 0 h0
  rw [show X - 0 = X by grind] at h
  exact h
theorem ax_0 {R : Type} [Lean.Grind.CommRing R] {deg : R → Nat} {mon : R → Prop} {X : R} {Kl : List R} {q : Nat} (hA : AX deg mon X Kl q) : deg (0 : R) = 0 := by
  have h := (hA.2.2.2.2.2.1 1 1 hA.1.2.2.2.2.1.2.2 hA.1.2.2.2.2.1.2.2).2.2
  rw [show (1 : R) - 1 = 0 by grind] at h
  exact h
theorem ax_pow {R : Type} [Lean.Grind.CommRing R] {deg : R → Nat} {mon : R → Prop} (hE : EU deg mon) {a : R} (ha : mon a) (n : Nat) : mon (a ^ n) ∧ deg (a ^ n) = n * deg a := by
  induction n with
  | zero => rw [Lean.Grind.Semiring.pow_zero, Nat.zero_mul]; exact ⟨hE.2.2.2.2.1.2.1, hE.2.2.2.2.1.2.2⟩
  | succ n ih =>
    rw [Lean.Grind.Semiring.pow_succ]
    refine ⟨hE.2.2.2.2.2.1 _ _ ih.1 ha, ?_⟩
    rw [hE.2.2.1 _ _ (hE.2.2.2.2.2.2.1 _ ih.1) (hE.2.2.2.2.2.2.1 _ ha), ih.2, Nat.succ_mul]
theorem ax_q {R : Type} [Lean.Grind.CommRing R] {deg : R → Nat} {mon : R → Prop} {X : R} {Kl : List R} {q : Nat} (hA : AX deg mon X Kl q) : 101 ≤ q := by
  rcases hA.2.2.2.2.2.2.2.2.1 with h | h | h <;> omega
theorem lp_map_nodup {R : Type} [Lean.Grind.CommRing R] (z : R) : ∀ l : List R, l.Nodup → (l.map (fun a => z - a)).Nodup := by
  intro l
  induction l with
  | nil => intro _; exact List.nodup_nil
  | cons a l ih =>
    intro h
    rw [List.nodup_cons] at h
    rw [List.map_cons, List.nodup_cons]
    refine ⟨fun hm => ?_, ih h.2⟩
    obtain ⟨b, hb, e⟩ := List.mem_map.mp hm
    have : a = b := by grind
    exact h.1 (this ▸ hb)
theorem xq_all {R : Type} [Lean.Grind.CommRing R] {deg : R → Nat} {mon : R → Prop} {X : R} {Kl : List R} {q : Nat} (hA : AX deg mon X Kl q) : X ^ q - X = lp (Kl.map (fun a => X - a)) := by
  have hE := hA.1
  have hl : ∀ p ∈ Kl.map (fun a => X - a), mon p ∧ deg p = 1 := fun p hp => by
    obtain ⟨a, ha, rfl⟩ := List.mem_map.mp hp
    exact hA.2.2.2.2.1 a ((hA.2.2.1.1 a).mp ha)
  have hX := ax_X hA
  have hq := ax_q hA
  have hp := ax_pow hE hX.1 q
  have hm : mon (X ^ q - X) ∧ deg (X ^ q - X) = q := by
    have hn : deg (-X) ≤ 1 := by
      have h1 : deg ((-1 : R)) = 0 := by
        have h := (hA.2.2.2.2.2.1 0 1 (ax_0 hA) hE.2.2.2.2.1.2.2).2.2
        rw [show (0 : R) - 1 = -1 by grind] at h
        exact h
      have h2 : ¬ (-1 : R) = 0 := fun e => hE.2.2.2.2.1.1 (by grind)
      have h3 := hE.2.2.1 (-1) X h2 (hE.2.2.2.2.2.2.1 X hX.1)
      rw [show (-1 : R) * X = -X by grind, h1, hX.2] at h3
      omega
    have h := hA.2.2.2.2.2.2.2.2.2.1 (X ^ q) (-X) hp.1 (by rw [hp.2, hX.2]; omega)
    rw [show X ^ q + -X = X ^ q - X by grind, hp.2, hX.2, Nat.mul_one] at h
    exact h
  refine (mon_eq hE (lp_mon hE _ (fun p h => (hl p h).1)) hm.1 ?_ ?_).symm
  · rw [lp_deg1 hE _ hl, hm.2, List.length_map, hA.2.2.1.2.2]; omega
  · refine lp_dvd hE _ (lp_map_nodup X Kl hA.2.2.1.2.1) (fun p h => deg0_irr hE (hl p h).1 (hl p h).2) (fun p h => ?_)
    obtain ⟨a, ha, rfl⟩ := List.mem_map.mp h
    have h1 := pow_dv X a q
    rw [hA.2.2.2.1 a ((hA.2.2.1.1 a).mp ha)] at h1
    have h2 := dv_sub h1 (dv_rf (X - a))
    rw [show X ^ q - a - (X - a) = X ^ q - X by grind] at h2
    exact h2
theorem zq_all {R : Type} [Lean.Grind.CommRing R] {deg : R → Nat} {mon : R → Prop} {X : R} {Kl : List R} {q : Nat} (hA : AX deg mon X Kl q) (z : R) : z ^ q - z = lp (Kl.map (fun a => z - a)) := by
  obtain ⟨σ, s1, s2, s3, s4⟩ := hA.2.2.2.2.2.2.1 z
  have ssub : ∀ a b, σ (a - b) = σ a - σ b := fun a b => by
    have h := s1 (a - b) b
    rw [show a - b + b = a by grind] at h
    grind
  have spow : ∀ (a : R) (n : Nat), σ (a ^ n) = σ a ^ n := fun a n => by
    induction n with
    | zero => rw [Lean.Grind.Semiring.pow_zero, Lean.Grind.Semiring.pow_zero]; exact s4 1 hA.1.2.2.2.2.1.2.2
    | succ n ih => rw [Lean.Grind.Semiring.pow_succ, Lean.Grind.Semiring.pow_succ, s2, ih]
  have slp : ∀ l : List R, (∀ a ∈ l, deg a = 0) → σ (lp (l.map (fun a => X - a))) = lp (l.map (fun a => z - a)) := by
    intro l
    induction l with
    | nil => intro _; exact s4 1 hA.1.2.2.2.2.1.2.2
    | cons a l ih =>
      intro h
      show σ ((X - a) * lp (l.map (fun a => X - a))) = (z - a) * lp (l.map (fun a => z - a))
      rw [s2, ssub, s3, s4 a (h a List.mem_cons_self), ih (fun b hb => h b (List.mem_cons_of_mem _ hb))]
  have h := congrArg σ (xq_all hA)
  rw [ssub, spow, s3, slp Kl (fun a ha => (hA.2.2.1.1 a).mp ha)] at h
  exact h
/-- modulo a prime only constants are their own q-th power -/
theorem fix_cst {R : Type} [Lean.Grind.CommRing R] {deg : R → Nat} {mon : R → Prop} {X : R} {Kl : List R} {q : Nat} (hA : AX deg mon X Kl q) {p z : R} (hp : irr deg mon p) (h : dv p (z ^ q - z)) : ∃ a, deg a = 0 ∧ dv p (z - a) := by
  rw [zq_all hA] at h
  obtain ⟨w, hw, h1⟩ := lp_dv hA.1 hp _ h
  obtain ⟨a, ha, rfl⟩ := List.mem_map.mp hw
  exact ⟨a, (hA.2.2.1.1 a).mp ha, h1⟩
theorem dv_deg {R : Type} [Lean.Grind.CommRing R] {deg : R → Nat} {mon : R → Prop} (hE : EU deg mon) {a b : R} (hb : ¬ b = 0) (h : dv a b) : deg a ≤ deg b := by
  obtain ⟨c, hc⟩ := h
  have ha0 : ¬ a = 0 := fun e => hb (by rw [hc, e]; grind)
  have hc0 : ¬ c = 0 := fun e => hb (by rw [hc, e]; grind)
  have := hE.2.2.1 a c ha0 hc0
  rw [← hc] at this
  omega
theorem lin_of {R : Type} [Lean.Grind.CommRing R] {deg : R → Nat} {mon : R → Prop} {X : R} {Kl : List R} {q : Nat} (hA : AX deg mon X Kl q) {p : R} (hp : irr deg mon p) (h : dv p (X ^ q - X)) : deg p = 1 := by
  obtain ⟨a, ha, h1⟩ := fix_cst hA hp h
  have h2 := hA.2.2.2.2.1 a ha
  have h3 := dv_deg hA.1 (hA.1.2.2.2.2.2.2.1 _ h2.1) h1
  have := hp.2.1
  omega
theorem q_odd {R : Type} [Lean.Grind.CommRing R] {deg : R → Nat} {mon : R → Prop} {X : R} {Kl : List R} {q : Nat} (hA : AX deg mon X Kl q) (a : R) : (-a) ^ q = - (a ^ q) := by
  have h := frobq hA.2.2.2.2.2.2.2.1 hA.2.2.2.2.2.2.2.2.1 a (-a)
  have hz : (0 : R) ^ q = 0 := hA.2.2.2.1 0 (ax_0 hA)
  rw [show a + -a = 0 by grind, hz] at h
  grind
theorem deg_cX {R : Type} [Lean.Grind.CommRing R] {deg : R → Nat} {mon : R → Prop} {X : R} {Kl : List R} {q : Nat} (hA : AX deg mon X Kl q) {a : R} (ha : deg a = 0) : deg (a * X) ≤ 1 := by
  by_cases h : a = 0
  · rw [h, show (0 : R) * X = 0 by grind, ax_0 hA]; omega
  · rw [hA.1.2.2.1 a X h (hA.1.2.2.2.2.2.2.1 X (ax_X hA).1), ha, (ax_X hA).2]; omega
/-- primes that divide x to the q q less x have degree 1 or 2 -/
theorem quad_of {R : Type} [Lean.Grind.CommRing R] {deg : R → Nat} {mon : R → Prop} {X : R} {Kl : List R} {q : Nat} (hA : AX deg mon X Kl q) {p : R} (hp : irr deg mon p) (h : dv p ((X ^ q) ^ q - X)) : deg p ≤ 2 := by
  have fr := frobq hA.2.2.2.2.2.2.2.1 hA.2.2.2.2.2.2.2.2.1
  obtain ⟨t, ht⟩ := h
  obtain ⟨a, ha, u, hu⟩ := fix_cst hA hp (z := X + X ^ q) ⟨t, by rw [fr]; grind⟩
  obtain ⟨b, hb, v, hv⟩ := fix_cst hA hp (z := X * X ^ q) ⟨X ^ q * t, by rw [mul_pow']; grind⟩
  have hX := ax_X hA
  have h2 : mon (X * X) ∧ deg (X * X) = 2 := ⟨hA.1.2.2.2.2.2.1 X X hX.1 hX.1, by rw [hA.1.2.2.1 X X (hA.1.2.2.2.2.2.2.1 X hX.1) (hA.1.2.2.2.2.2.2.1 X hX.1), hX.2]⟩
  have hna : deg (-a) = 0 := by
    have h := (hA.2.2.2.2.2.1 0 a (ax_0 hA) ha).2.2
    rw [show (0 : R) - a = -a by grind] at h
    exact h
  have h3 : deg (-a * X + b) ≤ 1 := by
    have h4 := hA.2.2.2.2.2.2.2.2.2.2.2 (-a * X) b
    have h5 := deg_cX hA hna
    omega
  have h6 := hA.2.2.2.2.2.2.2.2.2.1 (X * X) (-a * X + b) h2.1 (by omega)
  have h7 := dv_deg hA.1 (a := p) (hA.1.2.2.2.2.2.2.1 _ h6.1) ⟨u * X - v, by grind⟩
  omega
