/-! Any two primes of degree 1, or of degree 2, are told apart by some constant. -/
theorem irr_pow {R : Type} [Lean.Grind.CommRing R] {deg : R → Nat} {mon : R → Prop} (hE : EU deg mon) {p a : R} (hp : irr deg mon p) (n : Nat) (h : dv p (a ^ n)) : dv p a := by
  induction n with
  | zero =>
    rw [Lean.Grind.Semiring.pow_zero] at h
    exact absurd (irr_cst hE hp hE.2.2.2.2.1.2.2 h) hE.2.2.2.2.1.1
  | succ n ih =>
    rw [Lean.Grind.Semiring.pow_succ] at h
    rcases irr_pr hE hp h with h1 | h1
    · exact ih h1
    · exact h1
theorem pow_same {R : Type} [Lean.Grind.CommRing R] {deg : R → Nat} {mon : R → Prop} (hE : EU deg mon) {p r : R} (hp : irr deg mon p) (hr : irr deg mon r) {m : Nat} (hm : 0 < m) (h : p ^ m = r ^ m) : p = r := by
  refine irr_eq hE hp hr (irr_pow hE hp m ?_)
  rw [← h, show m = (m - 1) + 1 by omega, Lean.Grind.Semiring.pow_succ]
  exact ⟨p ^ (m - 1), by grind⟩
theorem cong_pow {R : Type} [Lean.Grind.CommRing R] {p a b : R} (h : dv p (a - b)) (n : Nat) : dv p (a ^ n - b ^ n) := dv_tr h (pow_dv a b n)
theorem quad_norm {R : Type} [Lean.Grind.CommRing R] {deg : R → Nat} {mon : R → Prop} {X : R} {Kl : List R} {q : Nat} (hA : AX deg mon X Kl q) {p b c : R} (e1 : p = X * X + b * X + c) (h1 : dv p (X ^ q + X + b)) {e : R} (he : deg e = 0) : dv p ((X + e) ^ (q + 1) - (c - b * e + e * e)) := by
  obtain ⟨w, hw⟩ := h1
  rw [Lean.Grind.Semiring.pow_succ, frobq hA.2.2.2.2.2.2.2.1 hA.2.2.2.2.2.2.2.2.1, hA.2.2.2.1 e he]
  exact ⟨w * (X + e) - 1, by grind⟩
theorem norm_cst {R : Type} [Lean.Grind.CommRing R] {deg : R → Nat} {mon : R → Prop} {X : R} {Kl : List R} {q : Nat} (hA : AX deg mon X Kl q) {b c e : R} (hb : deg b = 0) (hc : deg c = 0) (he : deg e = 0) : deg (c - b * e + e * e) = 0 := by
  have h1 := (hA.2.2.2.2.2.1 b e hb he).2.1
  have h2 := (hA.2.2.2.2.2.1 c (b * e) hc h1).2.2
  have h3 := (hA.2.2.2.2.2.1 e e he he).2.1
  exact (hA.2.2.2.2.2.1 _ _ h2 h3).1
theorem norm_ne {R : Type} [Lean.Grind.CommRing R] {deg : R → Nat} {mon : R → Prop} {X : R} {Kl : List R} {q : Nat} (hA : AX deg mon X Kl q) {p b c e : R} (hp : irr deg mon p) (hb : deg b = 0) (e1 : p = X * X + b * X + c) (he : deg e = 0) : ¬ c - b * e + e * e = 0 := by
  intro h
  have h1 := hA.2.2.2.2.1 (-e) (ax_neg hA he)
  have h2 := hA.2.2.2.2.1 (e - b) (hA.2.2.2.2.2.1 e b he hb).2.2
  rcases hp.2.2 (X - -e) (X - (e - b)) (by grind) with h3 | h3 <;> omega
theorem half_iff {R : Type} [Lean.Grind.CommRing R] {deg : R → Nat} {mon : R → Prop} (hE : EU deg mon) {p A n : R} (hp : irr deg mon p) (hn : deg (n - 1) = 0) (h : dv p (A - n)) : dv p (A - 1) ↔ n = 1 := by
  constructor
  · intro h1
    have h2 := dv_sub h1 h
    rw [show A - 1 - (A - n) = n - 1 by grind] at h2
    have h3 := irr_cst hE hp hn h2
    grind
  · intro h1
    rw [← h1]
    exact h
theorem sep2 {R : Type} [Lean.Grind.CommRing R] {deg : R → Nat} {mon : R → Prop} {X : R} {Kl : List R} {q m : Nat} (hA : AX deg mon X Kl q) (hm : q = 2 * m + 1) {p r : R} (hp : irr deg mon p) (hr : irr deg mon r) (dp : deg p = 2) (dr : deg r = 2) (hne : ¬ p = r) : ∃ e, deg e = 0 ∧ ¬ (dv p ((X + e) ^ ((q + 1) * m) - 1) ↔ dv r ((X + e) ^ ((q + 1) * m) - 1)) := by
  have hE := hA.1
  refine Classical.byContradiction (fun hno => ?_)
  have hall : ∀ e, deg e = 0 → (dv p ((X + e) ^ ((q + 1) * m) - 1) ↔ dv r ((X + e) ^ ((q + 1) * m) - 1)) := fun e he => Classical.byContradiction (fun h => hno ⟨e, he, h⟩)
  obtain ⟨b, c, hb, hc, e1, f1⟩ := quad_conj hA hp dp
  obtain ⟨b', c', hb', hc', e2, f2⟩ := quad_conj hA hr dr
  have key : ∀ e, deg e = 0 → (c - b * e + e * e) ^ m = (c' - b' * e + e * e) ^ m := by
    intro e he
    have d1 := norm_cst hA hb hc he
    have d2 := norm_cst hA hb' hc' he
    have h1 := cong_pow (quad_norm hA e1 f1 he) m
    have h2 := cong_pow (quad_norm hA e2 f2 he) m
    rw [← pow_mul'] at h1 h2
    have one := hE.2.2.2.2.1.2.2
    have i1 := half_iff hE hp (hA.2.2.2.2.2.1 _ _ (cst_pow hA d1 m) one).2.2 h1
    have i2 := half_iff hE hr (hA.2.2.2.2.2.1 _ _ (cst_pow hA d2 m) one).2.2 h2
    have i3 := hall e he
    rcases half_pow hA hm d1 (norm_ne hA hp hb e1 he) with h3 | h3
    · rw [h3, i2.mp (i3.mp (i1.mpr h3))]
    · rcases half_pow hA hm d2 (norm_ne hA hr hb' e2 he) with h4 | h4
      · rw [h4]; exact i1.mp (i3.mpr (i2.mpr h4))
      · rw [h3, h4]
  have hq := ax_q hA
  have hz : p ^ m - r ^ m = 0 := by
    refine vanish hA (fun e he => ?_) ?_
    · have h1 : dv (X - e) (p - (c - b * -e + -e * -e)) := ⟨X + e + b, by grind⟩
      have h2 : dv (X - e) (r - (c' - b' * -e + -e * -e)) := ⟨X + e + b', by grind⟩
      have h3 := dv_sub (cong_pow h1 m) (cong_pow h2 m)
      have h4 := key (-e) (ax_neg hA he)
      rw [h4] at h3
      rw [show p ^ m - (c' - b' * -e + -e * -e) ^ m - (r ^ m - (c' - b' * -e + -e * -e) ^ m) = p ^ m - r ^ m by grind] at h3
      exact h3
    · have h1 := ax_pow hE hp.1 m
      have h2 := ax_pow hE hr.1 m
      by_cases h3 : p ^ m = r ^ m
      · rw [h3, show r ^ m - r ^ m = 0 by grind, ax_0 hA]; omega
      · have := hA.2.2.2.2.2.2.2.2.2.2.1 _ _ h1.1 h2.1 (by rw [h1.2, h2.2, dp, dr]) h3
        rw [h1.2, dp] at this
        omega
  exact hne (pow_same hE hp hr (m := m) (by omega) (by grind))
theorem sep1 {R : Type} [Lean.Grind.CommRing R] {deg : R → Nat} {mon : R → Prop} {X : R} {Kl : List R} {q m : Nat} (hA : AX deg mon X Kl q) (hm : q = 2 * m + 1) {a b : R} (ha : deg a = 0) (hb : deg b = 0) (hne : ¬ a = b) : ∃ e, deg e = 0 ∧ ¬ (dv (X - a) ((X + e) ^ m - 1) ↔ dv (X - b) ((X + e) ^ m - 1)) := by
  have hE := hA.1
  have one := hE.2.2.2.2.1.2.2
  refine Classical.byContradiction (fun hno => ?_)
  have hall : ∀ e, deg e = 0 → (dv (X - a) ((X + e) ^ m - 1) ↔ dv (X - b) ((X + e) ^ m - 1)) := fun e he => Classical.byContradiction (fun h => hno ⟨e, he, h⟩)
  have la := hA.2.2.2.2.1 a ha
  have lb := hA.2.2.2.2.1 b hb
  have pa := hA.2.2.2.2.1 (-a) (ax_neg hA ha)
  have pb := hA.2.2.2.2.1 (-b) (ax_neg hA hb)
  have hq := ax_q hA
  have hz : (((X - -a) ^ m - (X - -b) ^ m) * ((X - -a) * (X - -b))) = 0 := by
    refine vanish hA (fun e he => ?_) ?_
    · by_cases z1 : e + a = 0
      · exact ⟨((X - -a) ^ m - (X - -b) ^ m) * (X - -b), by grind⟩
      · by_cases z2 : e + b = 0
        · exact ⟨((X - -a) ^ m - (X - -b) ^ m) * (X - -a), by grind⟩
        · have da := (hA.2.2.2.2.2.1 e a he ha).1
          have db := (hA.2.2.2.2.2.1 e b he hb).1
          have h1 : dv (X - a) ((X + e) ^ m - (e + a) ^ m) := cong_pow ⟨1, by grind⟩ m
          have h2 : dv (X - b) ((X + e) ^ m - (e + b) ^ m) := cong_pow ⟨1, by grind⟩ m
          have i1 := half_iff hE (deg0_irr hE la.1 la.2) (hA.2.2.2.2.2.1 _ _ (cst_pow hA da m) one).2.2 h1
          have i2 := half_iff hE (deg0_irr hE lb.1 lb.2) (hA.2.2.2.2.2.1 _ _ (cst_pow hA db m) one).2.2 h2
          have i3 := hall e he
          have key : (e + a) ^ m = (e + b) ^ m := by
            rcases half_pow hA hm da z1 with h3 | h3
            · rw [h3, i2.mp (i3.mp (i1.mpr h3))]
            · rcases half_pow hA hm db z2 with h4 | h4
              · rw [h4]; exact i1.mp (i3.mpr (i2.mpr h4))
              · rw [h3, h4]
          have h5 : dv (X - e) ((X - -a) ^ m - (e + a) ^ m) := cong_pow ⟨1, by grind⟩ m
          have h6 : dv (X - e) ((X - -b) ^ m - (e + b) ^ m) := cong_pow ⟨1, by grind⟩ m
          have h7 := dv_sub h5 h6
          rw [key, show (X - -a) ^ m - (e + b) ^ m - ((X - -b) ^ m - (e + b) ^ m) = (X - -a) ^ m - (X - -b) ^ m by grind] at h7
          exact dv_mr _ h7
    · have h1 := ax_pow hE pa.1 m
      have h2 := ax_pow hE pb.1 m
      by_cases h3 : (X - -a) ^ m = (X - -b) ^ m
      · rw [h3, show ((X - -b) ^ m - (X - -b) ^ m) * ((X - -a) * (X - -b)) = (0 : R) by grind, ax_0 hA]; omega
      · have h4 := hA.2.2.2.2.2.2.2.2.2.2.1 _ _ h1.1 h2.1 (by rw [h1.2, h2.2, pa.2, pb.2]) h3
        rw [h1.2, pa.2] at h4
        have n1 : ¬ (X - -a) ^ m - (X - -b) ^ m = 0 := fun z => h3 (by grind)
        have na := hE.2.2.2.2.2.2.1 _ pa.1
        have nb := hE.2.2.2.2.2.2.1 _ pb.1
        have n2 : ¬ (X - -a) * (X - -b) = 0 := fun z => (hE.2.1 _ _ z).elim na nb
        rw [hE.2.2.1 _ _ n1 n2, hE.2.2.1 _ _ na nb, pa.2, pb.2]
        omega
  have na := hE.2.2.2.2.2.2.1 _ pa.1
  have nb := hE.2.2.2.2.2.2.1 _ pb.1
  have h5 : (X - -a) ^ m = (X - -b) ^ m := by
    rcases hE.2.1 _ _ hz with h | h
    · grind
    · exact ((hE.2.1 _ _ h).elim na nb).elim
  have h6 := pow_same hE (deg0_irr hE pa.1 pa.2) (deg0_irr hE pb.1 pb.2) (m := m) (by omega) h5
  exact hne (by grind)
