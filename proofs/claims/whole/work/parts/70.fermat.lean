/-! Fermat in a finite ring without zero divisors; divisors of products of primes; squares of primes in f over gcd(f, f'). -/
theorem perm_of_sub {α : Type} : ∀ (l m : List α), l.Nodup → (∀ x ∈ l, x ∈ m) → m.length ≤ l.length → l.Perm m := by
  intro l
  induction l with
  | nil =>
    intro m _ _ h
    cases m with
    | nil => exact List.Perm.nil
    | cons a m => simp at h
  | cons a l ih =>
    intro m hn hs hl
    rw [List.nodup_cons] at hn
    obtain ⟨s, t, rfl⟩ := List.append_of_mem (hs a List.mem_cons_self)
    have h1 : (s ++ a :: t).Perm (a :: (s ++ t)) := List.perm_middle
    refine (List.Perm.cons a (ih (s ++ t) hn.2 (fun x hx => ?_) ?_)).trans h1.symm
    · have h2 := hs x (List.mem_cons_of_mem _ hx)
      rcases List.mem_append.mp h2 with h3 | h3
      · exact List.mem_append_left _ h3
      · rcases List.mem_cons.mp h3 with h4 | h4
        · exact absurd (h4 ▸ hx) hn.1
        · exact List.mem_append_right _ h4
    · simp only [List.length_append, List.length_cons] at hl ⊢
      omega
theorem lp_scale {K : Type} [Lean.Grind.CommRing K] (a : K) : ∀ l : List K, lp (l.map (fun x => a * x)) = a ^ l.length * lp l := by
  intro l
  induction l with
  | nil => show (1 : K) = a ^ 0 * 1; rw [Lean.Grind.Semiring.pow_zero]; grind
  | cons x l ih =>
    show a * x * lp (l.map (fun x => a * x)) = a ^ (l.length + 1) * (x * lp l)
    rw [ih, Lean.Grind.Semiring.pow_succ]; grind
theorem fermat {K : Type} [Lean.Grind.CommRing K] (hd : ∀ a b : K, a * b = 0 → a = 0 ∨ b = 0) (h10 : ¬ (1 : K) = 0) {l : List K} (hn : l.Nodup) (hl : ∀ x, x ∈ l ↔ ¬ x = 0) {a : K} (ha : ¬ a = 0) : a ^ l.length = 1 := by
  have cancel : ∀ x y : K, a * x = a * y → x = y := fun x y h => by
    rcases hd a (x - y) (by grind) with h1 | h1
    · exact absurd h1 ha
    · grind
  have nd : ∀ m : List K, m.Nodup → (m.map (fun x => a * x)).Nodup := by
    intro m
    induction m with
    | nil => intro _; exact List.nodup_nil
    | cons x m ih =>
      intro h
      rw [List.nodup_cons] at h
      rw [List.map_cons, List.nodup_cons]
      refine ⟨fun hm => ?_, ih h.2⟩
      obtain ⟨y, hy, e⟩ := List.mem_map.mp hm
      exact h.1 (cancel y x e ▸ hy)
  have hp : (l.map (fun x => a * x)).Perm l := perm_of_sub _ _ (nd l hn) (fun x hx => by
    obtain ⟨y, hy, rfl⟩ := List.mem_map.mp hx
    exact (hl _).mpr (fun e => (hd a y e).elim ha ((hl y).mp hy))) (by simp)
  have h1 := lp_perm hp
  rw [lp_scale] at h1
  have h2 : ¬ lp l = 0 := by
    have : ∀ m : List K, (∀ x ∈ m, ¬ x = 0) → ¬ lp m = 0 := by
      intro m
      induction m with
      | nil => intro _; exact h10
      | cons x m ih => intro h e; exact (hd x (lp m) e).elim (h x List.mem_cons_self) (ih (fun z hz => h z (List.mem_cons_of_mem _ hz)))
    exact this l (fun x hx => (hl x).mp hx)
  rcases hd (a ^ l.length - 1) (lp l) (by grind) with h3 | h3
  · grind
  · exact absurd h3 h2
theorem mon_quot {R : Type} [Lean.Grind.CommRing R] {deg : R → Nat} {mon : R → Prop} (hE : EU deg mon) (hN : ∀ a : R, ¬ a = 0 → ∃ u v, u * v = 1 ∧ deg u = 0 ∧ mon (u * a)) {p x y : R} (hp : mon p) (hx : mon x) (e : x = p * y) : mon y := by
  have x0 := hE.2.2.2.2.2.2.1 x hx
  have y0 : ¬ y = 0 := fun z => x0 (by rw [e, z]; grind)
  obtain ⟨u, v, h1, h2, h3⟩ := hN y y0
  have h4 : mon (u * x) := by
    have h5 := hE.2.2.2.2.2.1 p (u * y) hp h3
    rw [show p * (u * y) = u * x by grind] at h5
    exact h5
  have h6 := hE.2.2.2.2.2.2.2 (u * x) x u h4 hx rfl h2
  have h7 : u = 1 := by
    rcases hE.2.1 (u - 1) x (by grind) with h | h
    · grind
    · exact absurd h x0
  rw [h7, show (1 : R) * y = y by grind] at h3
  exact h3
/-- a divisor with 1 at the highest power, of a product of different primes, is the product of some of them -/
theorem lp_part {R : Type} [Lean.Grind.CommRing R] {deg : R → Nat} {mon : R → Prop} (hE : EU deg mon) (hN : ∀ a : R, ¬ a = 0 → ∃ u v, u * v = 1 ∧ deg u = 0 ∧ mon (u * a)) : ∀ (l : List R) (D c : R), (∀ p ∈ l, irr deg mon p) → mon D → mon c → lp l = D * c → ∃ l1 l2, l.Perm (l1 ++ l2) ∧ D = lp l1 ∧ c = lp l2 := by
  intro l
  induction l with
  | nil =>
    intro D c _ hD hc h
    have h : (1 : R) = D * c := h
    have d0 := hE.2.2.2.2.2.2.1 D hD
    have c0 := hE.2.2.2.2.2.2.1 c hc
    have h1 := hE.2.2.1 D c d0 c0
    rw [← h, hE.2.2.2.2.1.2.2] at h1
    have e1 : (1 : R) = D := (hE.2.2.2.2.2.2.2 1 D c hE.2.2.2.2.1.2.1 hD (by grind) (by omega))
    have e2 : (1 : R) = c := (hE.2.2.2.2.2.2.2 1 c D hE.2.2.2.2.1.2.1 hc (by grind) (by omega))
    exact ⟨[], [], List.Perm.nil, e1.symm, e2.symm⟩
  | cons p l ih =>
    intro D c hl hD hc h
    have hp := hl p List.mem_cons_self
    have p0 := hE.2.2.2.2.2.2.1 p hp.1
    have hl' : ∀ z ∈ l, irr deg mon z := fun z hz => hl z (List.mem_cons_of_mem _ hz)
    have h : p * lp l = D * c := h
    have can : ∀ x y : R, p * x = p * y → x = y := fun x y e => by
      rcases hE.2.1 p (x - y) (by grind) with h1 | h1
      · exact absurd h1 p0
      · grind
    have monq : ∀ x y : R, mon x → x = p * y → mon y := fun x y hx e => by
      have y0 : ¬ y = 0 := fun z => hE.2.2.2.2.2.2.1 x hx (by rw [e, z]; grind)
      exact mon_quot hE hN hp.1 hx e
    rcases irr_pr hE hp (a := D) (b := c) ⟨lp l, h.symm⟩ with ⟨w, hw⟩ | ⟨w, hw⟩
    · obtain ⟨l1, l2, h1, h2, h3⟩ := ih w c hl' (monq D w hD hw) hc (can _ _ (by rw [h, hw]; grind))
      exact ⟨p :: l1, l2, List.Perm.cons p h1, by show D = p * lp l1; rw [hw, h2], h3⟩
    · obtain ⟨l1, l2, h1, h2, h3⟩ := ih D w hl' hD (monq c w hc hw) (can _ _ (by rw [h, hw]; grind))
      exact ⟨l1, p :: l2, (List.Perm.cons p h1).trans List.perm_middle.symm, h2, by show c = p * lp l2; rw [hw, h3]⟩
/-- a derivation -/
theorem der_pow {R : Type} [Lean.Grind.CommRing R] (D : R → R) (hD : ∀ a b, D (a * b) = D a * b + a * D b) (p : R) (n : Nat) : dv (p ^ n) (D (p ^ (n + 1))) := by
  induction n with
  | zero => rw [Lean.Grind.Semiring.pow_zero]; exact ⟨D (p ^ (0 + 1)), by grind⟩
  | succ n ih =>
    obtain ⟨w, hw⟩ := ih
    rw [Lean.Grind.Semiring.pow_succ p (n + 1), hD, hw, Lean.Grind.Semiring.pow_succ p n]
    exact ⟨w + D p, by grind⟩
/-- f over what it shares with its derivative has no square of a polynomial -/
theorem root_sq {R : Type} [Lean.Grind.CommRing R] {deg : R → Nat} {mon : R → Prop} (hE : EU deg mon) (D : R → R) (hD : ∀ a b, D (a * b) = D a * b + a * D b) {f g r u v p : R} (hf : f = r * g) (hg : g = u * f + v * D f) (hg0 : ¬ g = 0) (hp : 0 < deg p) (hm : mon p) : ¬ dv (p * p) r := by
  rintro ⟨s, hs⟩
  have key : ∀ a : Nat, dv (p ^ a) g := by
    intro a
    induction a with
    | zero => rw [Lean.Grind.Semiring.pow_zero]; exact ⟨g, by grind⟩
    | succ a ih =>
      obtain ⟨h, hh⟩ := ih
      have e1 : f = p ^ (a + 1 + 1) * (s * h) := by rw [Lean.Grind.Semiring.pow_succ, Lean.Grind.Semiring.pow_succ]; grind
      obtain ⟨w, hw⟩ := der_pow D hD p (a + 1)
      have e2 : D f = p ^ (a + 1) * (w * (s * h) + p * D (s * h)) := by
        rw [e1, hD, hw, Lean.Grind.Semiring.pow_succ p (a + 1)]; grind
      rw [hg]
      refine dv_add (dv_ml u ⟨p * (s * h), ?_⟩) (dv_ml v ⟨_, e2⟩)
      rw [e1, Lean.Grind.Semiring.pow_succ p (a + 1)]; grind
  have h1 := dv_deg hE hg0 (key (deg g + 1))
  rw [(ax_pow hE hm (deg g + 1)).2] at h1
  have : deg g + 1 ≤ (deg g + 1) * deg p := Nat.le_mul_of_pos_right _ hp
  omega
