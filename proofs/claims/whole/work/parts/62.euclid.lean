/-! A ring with a division that leaves rests of lower degree: what divides what; primes; products of primes are so in one way. deg: the degree (0 for 0 too); mon: 1 at the highest power. -/
def dv {R : Type} [Lean.Grind.CommRing R] (a b : R) : Prop := ∃ c, b = a * c
def EU {R : Type} [Lean.Grind.CommRing R] (deg : R → Nat) (mon : R → Prop) : Prop :=
  (∀ a b : R, ¬ b = 0 → ∃ q r, a = q * b + r ∧ (r = 0 ∨ deg r < deg b)) ∧ (∀ a b : R, a * b = 0 → a = 0 ∨ b = 0) ∧ (∀ a b : R, ¬ a = 0 → ¬ b = 0 → deg (a * b) = deg a + deg b) ∧
  (∀ a : R, deg a = 0 → ¬ a = 0 → ∃ b, a * b = 1) ∧ (¬ (1 : R) = 0 ∧ mon 1 ∧ deg (1 : R) = 0) ∧ (∀ a b : R, mon a → mon b → mon (a * b)) ∧ (∀ a : R, mon a → ¬ a = 0) ∧ (∀ a b u : R, mon a → mon b → a = u * b → deg u = 0 → a = b)
theorem dv_rf {R : Type} [Lean.Grind.CommRing R] (a : R) : dv a a := ⟨1, by grind⟩
theorem dv_tr {R : Type} [Lean.Grind.CommRing R] {a b c : R} (h : dv a b) (k : dv b c) : dv a c := by
  obtain ⟨x, hx⟩ := h
  obtain ⟨y, hy⟩ := k
  exact ⟨x * y, by grind⟩
theorem dv_add {R : Type} [Lean.Grind.CommRing R] {a b c : R} (h : dv a b) (k : dv a c) : dv a (b + c) := by
  obtain ⟨x, hx⟩ := h
  obtain ⟨y, hy⟩ := k
  exact ⟨x + y, by grind⟩
theorem dv_sub {R : Type} [Lean.Grind.CommRing R] {a b c : R} (h : dv a b) (k : dv a c) : dv a (b - c) := by
  obtain ⟨x, hx⟩ := h
  obtain ⟨y, hy⟩ := k
  exact ⟨x - y, by grind⟩
theorem dv_ml {R : Type} [Lean.Grind.CommRing R] {a b : R} (c : R) (h : dv a b) : dv a (c * b) := by
  obtain ⟨x, hx⟩ := h
  exact ⟨c * x, by grind⟩
theorem dv_mr {R : Type} [Lean.Grind.CommRing R] {a b : R} (c : R) (h : dv a b) : dv a (b * c) := by
  obtain ⟨x, hx⟩ := h
  exact ⟨c * x, by grind⟩
/-- the greatest common divisor, as a sum of multiples -/
theorem bez {R : Type} [Lean.Grind.CommRing R] {deg : R → Nat} {mon : R → Prop} (hE : EU deg mon) : ∀ (n : Nat) (a b : R), (b = 0 ∨ deg b < n) → ∃ g u v, g = u * a + v * b ∧ dv g a ∧ dv g b := by
  intro n
  induction n with
  | zero =>
    intro a b h
    rcases h with h | h
    · exact ⟨a, 1, 0, by grind, dv_rf a, 0, by grind⟩
    · omega
  | succ n ih =>
    intro a b h
    by_cases hb : b = 0
    · exact ⟨a, 1, 0, by grind, dv_rf a, 0, by grind⟩
    · obtain ⟨q, r, h1, h2⟩ := hE.1 a b hb
      have h3 : deg b < n + 1 := h.elim (fun e => absurd e hb) id
      obtain ⟨g, u, v, h4, h5, h6⟩ := ih b r (h2.elim Or.inl (fun z => Or.inr (by omega)))
      refine ⟨g, v, u - v * q, by grind, ?_, h5⟩
      rw [h1]
      exact dv_add (dv_ml q h5) h6
def irr {R : Type} [Lean.Grind.CommRing R] (deg : R → Nat) (mon : R → Prop) (p : R) : Prop := mon p ∧ 0 < deg p ∧ ∀ a b, p = a * b → deg a = 0 ∨ deg b = 0
theorem irr_pr {R : Type} [Lean.Grind.CommRing R] {deg : R → Nat} {mon : R → Prop} (hE : EU deg mon) {p a b : R} (hp : irr deg mon p) (h : dv p (a * b)) : dv p a ∨ dv p b := by
  obtain ⟨g, u, v, h1, ⟨x, h2⟩, ⟨y, h3⟩⟩ := bez hE (deg a + 1) p a (Or.inr (by omega))
  have hp0 : ¬ p = 0 := hE.2.2.2.2.2.2.1 p hp.1
  have hg0 : ¬ g = 0 := fun e => hp0 (by rw [h2, e]; grind)
  have hx0 : ¬ x = 0 := fun e => hp0 (by rw [h2, e]; grind)
  rcases hp.2.2 g x h2 with h4 | h4
  · obtain ⟨w, hw⟩ := hE.2.2.2.1 g h4 hg0
    obtain ⟨z, hz⟩ := h
    exact Or.inr ⟨w * u * b + w * v * z, by grind⟩
  · obtain ⟨w, hw⟩ := hE.2.2.2.1 x h4 hx0
    exact Or.inl ⟨w * y, by grind⟩
/-- one prime divides another only if they are the same -/
theorem irr_eq {R : Type} [Lean.Grind.CommRing R] {deg : R → Nat} {mon : R → Prop} (hE : EU deg mon) {p q : R} (hp : irr deg mon p) (hq : irr deg mon q) (h : dv p q) : p = q := by
  obtain ⟨x, hx⟩ := h
  rcases hq.2.2 p x hx with h1 | h1
  · have := hp.2.1
    omega
  · exact (hE.2.2.2.2.2.2.2 q p x hq.1 hp.1 (by grind) h1).symm
def lp {R : Type} [Lean.Grind.CommRing R] : List R → R
  | [] => 1
  | a :: l => a * lp l
theorem lp_app {R : Type} [Lean.Grind.CommRing R] (l m : List R) : lp (l ++ m) = lp l * lp m := by
  induction l with
  | nil => show lp m = 1 * lp m; grind
  | cons a l ih => show a * lp (l ++ m) = a * lp l * lp m; rw [ih]; grind
theorem lp_perm {R : Type} [Lean.Grind.CommRing R] {l m : List R} (h : l.Perm m) : lp l = lp m := by
  induction h with
  | nil => rfl
  | cons a _ ih => show a * _ = a * _; rw [ih]
  | swap a b l => show b * (a * lp l) = a * (b * lp l); grind
  | trans _ _ h1 h2 => exact h1.trans h2
theorem lp_dv {R : Type} [Lean.Grind.CommRing R] {deg : R → Nat} {mon : R → Prop} (hE : EU deg mon) {p : R} (hp : irr deg mon p) : ∀ l : List R, dv p (lp l) → ∃ q ∈ l, dv p q := by
  intro l
  induction l with
  | nil =>
    intro ⟨x, hx⟩
    have hx : (1 : R) = p * x := hx
    have hp0 : ¬ p = 0 := hE.2.2.2.2.2.2.1 p hp.1
    have hx0 : ¬ x = 0 := fun e => hE.2.2.2.2.1.1 (by rw [hx, e]; grind)
    have h1 := hE.2.2.1 p x hp0 hx0
    rw [← hx, hE.2.2.2.2.1.2.2] at h1
    have := hp.2.1
    omega
  | cons a l ih =>
    intro h
    rcases irr_pr hE hp (show dv p (a * lp l) from h) with h1 | h1
    · exact ⟨a, List.mem_cons_self, h1⟩
    · obtain ⟨q, h2, h3⟩ := ih h1
      exact ⟨q, List.mem_cons_of_mem _ h2, h3⟩
/-- a product of primes is one in one way -/
theorem lp_uni {R : Type} [Lean.Grind.CommRing R] {deg : R → Nat} {mon : R → Prop} (hE : EU deg mon) : ∀ l m : List R, (∀ p ∈ l, irr deg mon p) → (∀ p ∈ m, irr deg mon p) → lp l = lp m → l.Perm m := by
  intro l
  induction l with
  | nil =>
    intro m _ hm h
    cases m with
    | nil => exact List.Perm.nil
    | cons q m =>
      obtain ⟨z, hz, -⟩ := lp_dv hE (hm q List.mem_cons_self) [] ⟨lp m, h⟩
      cases hz
  | cons p l ih =>
    intro m hl hm h
    have hp := hl p List.mem_cons_self
    obtain ⟨q, h1, h2⟩ := lp_dv hE hp m ⟨lp l, h.symm⟩
    have e := irr_eq hE hp (hm q h1) h2
    subst e
    obtain ⟨s, t, rfl⟩ := List.append_of_mem h1
    have h3 : (s ++ p :: t).Perm (p :: (s ++ t)) := List.perm_middle
    have h4 : p * lp l = p * lp (s ++ t) := h.trans (lp_perm h3)
    have h5 : lp l = lp (s ++ t) := by
      rcases hE.2.1 p (lp l - lp (s ++ t)) (by grind) with h6 | h6
      · exact absurd h6 (hE.2.2.2.2.2.2.1 p hp.1)
      · grind
    exact (List.Perm.cons p (ih (s ++ t) (fun z hz => hl z (List.mem_cons_of_mem _ hz)) (fun z hz => hm z (by
      rcases List.mem_append.mp hz with h6 | h6
      · exact List.mem_append_left _ h6
      · exact List.mem_append_right _ (List.mem_cons_of_mem _ h6))) h5)).trans h3.symm
