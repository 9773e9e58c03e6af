/-! Each polynomial with 1 at its highest power is a product of primes; what a greatest divisor takes of such a product. -/
theorem lp_nil {R : Type} [Lean.Grind.CommRing R] : lp ([] : List R) = 1 := rfl
theorem lp_cons {R : Type} [Lean.Grind.CommRing R] (p : R) (l : List R) : lp (p :: l) = p * lp l := rfl
theorem lp_mem {R : Type} [Lean.Grind.CommRing R] {p : R} : ∀ l : List R, p ∈ l → dv p (lp l) := by
  intro l
  induction l with
  | nil => intro h; cases h
  | cons x l ih =>
    intro h
    rcases List.mem_cons.mp h with h | h
    · exact ⟨lp l, by rw [h]; rfl⟩
    · exact dv_ml x (ih h)
theorem lp_monI {R : Type} [Lean.Grind.CommRing R] {deg : R → Nat} {mon : R → Prop} (hE : EU deg mon) {l : List R} (h : ∀ p ∈ l, irr deg mon p) : mon (lp l) := lp_mon hE l (fun p hp => (h p hp).1)
theorem lp_deg {R : Type} [Lean.Grind.CommRing R] {deg : R → Nat} {mon : R → Prop} (hE : EU deg mon) {d : Nat} : ∀ l : List R, (∀ p ∈ l, irr deg mon p ∧ d ≤ deg p) → d * l.length ≤ deg (lp l) := by
  intro l
  induction l with
  | nil => intro _; rw [List.length_nil]; omega
  | cons x l ih =>
    intro h
    have h1 := ih (fun p hp => h p (List.mem_cons_of_mem _ hp))
    have h2 := h x List.mem_cons_self
    have m1 := hE.2.2.2.2.2.2.1 _ h2.1.1
    have m2 := hE.2.2.2.2.2.2.1 _ (lp_monI hE (l := l) (fun p hp => (h p (List.mem_cons_of_mem _ hp)).1))
    rw [lp_cons, hE.2.2.1 _ _ m1 m2, List.length_cons, Nat.mul_add]
    omega
theorem lp_len {R : Type} [Lean.Grind.CommRing R] {deg : R → Nat} {mon : R → Prop} (hE : EU deg mon) {l : List R} (h : ∀ p ∈ l, irr deg mon p) : l.length ≤ deg (lp l) := by
  have := lp_deg hE (d := 1) l (fun p hp => ⟨h p hp, (h p hp).2.1⟩)
  omega
theorem fac_ex {R : Type} [Lean.Grind.CommRing R] {deg : R → Nat} {mon : R → Prop} (hE : EU deg mon) (hN : ∀ a : R, ¬ a = 0 → ∃ u v, u * v = 1 ∧ deg u = 0 ∧ mon (u * a)) : ∀ (n : Nat) (a : R), mon a → deg a ≤ n → ∃ l : List R, (∀ p ∈ l, irr deg mon p) ∧ lp l = a := by
  have zero : ∀ a : R, mon a → deg a = 0 → ∃ l : List R, (∀ p ∈ l, irr deg mon p) ∧ lp l = a := fun a ha hd =>
    ⟨[], fun p hp => (by cases hp), (hE.2.2.2.2.2.2.2 a 1 a ha hE.2.2.2.2.1.2.1 (by grind) hd).symm⟩
  intro n
  induction n with
  | zero => intro a ha hd; exact zero a ha (by omega)
  | succ n ih =>
    intro a ha hd
    by_cases d0 : deg a = 0
    · exact zero a ha d0
    by_cases hi : irr deg mon a
    · exact ⟨[a], fun p hp => by rw [List.mem_singleton.mp hp]; exact hi, by rw [lp_cons, lp_nil]; grind⟩
    · have hi2 : ∃ b c, a = b * c ∧ ¬ deg b = 0 ∧ ¬ deg c = 0 := Classical.byContradiction (fun hn => hi ⟨ha, by omega, fun b c e => Classical.byContradiction (fun h2 => hn ⟨b, c, e, fun q => h2 (Or.inl q), fun q => h2 (Or.inr q)⟩)⟩)
      obtain ⟨b, c, e, hb, hc⟩ := hi2
      have a0 := hE.2.2.2.2.2.2.1 a ha
      have b0 : ¬ b = 0 := fun q => a0 (by rw [e, q]; grind)
      have c0 : ¬ c = 0 := fun q => a0 (by rw [e, q]; grind)
      obtain ⟨u, v, uv, du, mu⟩ := hN b b0
      have e2 : a = (u * b) * (v * c) := by grind
      have mv : mon (v * c) := mon_quot hE hN mu ha e2
      have dd := hE.2.2.1 b c b0 c0
      rw [← e] at dd
      have u0 : ¬ u = 0 := fun q => hE.2.2.2.2.1.1 (by rw [← uv, q]; grind)
      have v0 : ¬ v = 0 := fun q => hE.2.2.2.2.1.1 (by rw [← uv, q]; grind)
      have dv0 : deg v = 0 := by
        have := hE.2.2.1 u v u0 v0
        rw [uv, hE.2.2.2.2.1.2.2] at this
        omega
      obtain ⟨l1, p1, q1⟩ := ih (u * b) mu (by rw [hE.2.2.1 u b u0 b0]; omega)
      obtain ⟨l2, p2, q2⟩ := ih (v * c) mv (by rw [hE.2.2.1 v c v0 c0]; omega)
      exact ⟨l1 ++ l2, fun p hp => (List.mem_append.mp hp).elim (p1 p) (p2 p), by rw [lp_app, q1, q2, ← e2]⟩
theorem sqf_nd {R : Type} [Lean.Grind.CommRing R] {deg : R → Nat} {mon : R → Prop} : ∀ l : List R, (∀ p ∈ l, irr deg mon p) → (∀ p, 0 < deg p → mon p → ¬ dv (p * p) (lp l)) → l.Nodup := by
  intro l
  induction l with
  | nil => intro _ _; exact List.nodup_nil
  | cons x l ih =>
    intro h1 h2
    rw [List.nodup_cons]
    refine ⟨fun hx => ?_, ih (fun p hp => h1 p (List.mem_cons_of_mem _ hp)) (fun p a b c => h2 p a b (dv_ml x c))⟩
    have hi := h1 x List.mem_cons_self
    obtain ⟨c, hc⟩ := lp_mem l hx
    exact h2 x hi.2.1 hi.1 ⟨c, by rw [lp_cons, hc]; grind⟩
theorem lp_one {R : Type} [Lean.Grind.CommRing R] {deg : R → Nat} {mon : R → Prop} (hE : EU deg mon) {l : List R} (h : ∀ p ∈ l, irr deg mon p) (hd : deg (lp l) = 0) : l = [] := by
  have := lp_len hE h
  exact List.length_eq_zero_iff.mp (by omega)
theorem gc_split {R : Type} [Lean.Grind.CommRing R] {deg : R → Nat} {mon : R → Prop} (hE : EU deg mon) (hN : ∀ a : R, ¬ a = 0 → ∃ u v, u * v = 1 ∧ deg u = 0 ∧ mon (u * a)) {L : List R} (hL : ∀ p ∈ L, irr deg mon p) (hn : L.Nodup) {b g : R} (hg : GC mon (lp L) b g) : ∃ l1 l2, L.Perm (l1 ++ l2) ∧ g = lp l1 ∧ mon g ∧ (∀ p ∈ l1, dv p b) ∧ ∀ p ∈ l2, ¬ dv p b := by
  have mL := lp_monI hE hL
  have L0 := hE.2.2.2.2.2.2.1 _ mL
  obtain ⟨c, hc⟩ := hg.1
  have g0 : ¬ g = 0 := fun q => L0 (by rw [hc, q]; grind)
  have mg : mon g := hg.2.2.2.resolve_left g0
  have mc : mon c := mon_quot hE hN mg mL hc
  obtain ⟨l1, l2, hp, h1, h2⟩ := lp_part hE hN L g c hL mg mc hc
  refine ⟨l1, l2, hp, h1, mg, fun p hp1 => dv_tr (h1 ▸ lp_mem l1 hp1) hg.2.1, fun p hp2 hb => ?_⟩
  have i2 : irr deg mon p := hL p (hp.mem_iff.mpr (List.mem_append.mpr (Or.inr hp2)))
  obtain ⟨u, v, e⟩ := hg.2.2.1
  have : dv p g := by
    rw [e]
    exact dv_add (dv_ml u (lp_mem L (hp.mem_iff.mpr (List.mem_append.mpr (Or.inr hp2))))) (dv_ml v hb)
  rw [h1] at this
  obtain ⟨r, hr, hd⟩ := lp_dv hE i2 l1 this
  have i1 : irr deg mon r := hL r (hp.mem_iff.mpr (List.mem_append.mpr (Or.inl hr)))
  have er := irr_eq hE i2 i1 hd
  have nd := hp.nodup hn
  rw [List.nodup_append] at nd
  exact nd.2.2 r hr p hp2 er.symm
theorem gc_cong {R : Type} [Lean.Grind.CommRing R] {mon : R → Prop} {a b b' c g : R} (h : b' = c * a + b) (hg : GC mon a b g) : GC mon a b' g := by
  obtain ⟨h1, h2, ⟨u, v, e⟩, h4⟩ := hg
  exact ⟨h1, by rw [h]; exact dv_add (dv_ml c h1) h2, ⟨u - v * c, v, by rw [e, h]; grind⟩, h4⟩
