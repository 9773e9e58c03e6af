/-! The polynomials over K: rows that end. Their ring; over a field their division. -/
abbrev PK (K : Type) [Lean.Grind.CommRing K] : Type := { f : Nat → K // ∃ n, dl f n }
theorem en_add {K : Type} [Lean.Grind.CommRing K] {f g : Nat → K} (hf : ∃ n, dl f n) (hg : ∃ n, dl g n) : ∃ n, dl (fun i => f i + g i) n := by
  obtain ⟨m, hm⟩ := hf
  obtain ⟨n, hn⟩ := hg
  exact ⟨m + n, fun i hi => by show f i + g i = 0; rw [hm i (by omega), hn i (by omega)]; grind⟩
theorem en_neg {K : Type} [Lean.Grind.CommRing K] {f : Nat → K} (hf : ∃ n, dl f n) : ∃ n, dl (fun i => - f i) n := by
  obtain ⟨m, hm⟩ := hf
  exact ⟨m, fun i hi => by show - f i = 0; rw [hm i hi]; grind⟩
theorem en_sub {K : Type} [Lean.Grind.CommRing K] {f g : Nat → K} (hf : ∃ n, dl f n) (hg : ∃ n, dl g n) : ∃ n, dl (fun i => f i - g i) n := by
  obtain ⟨m, hm⟩ := hf
  obtain ⟨n, hn⟩ := hg
  exact ⟨m + n, fun i hi => by show f i - g i = 0; rw [hm i (by omega), hn i (by omega)]; grind⟩
theorem en_pm {K : Type} [Lean.Grind.CommRing K] {f g : Nat → K} (hf : ∃ n, dl f n) (hg : ∃ n, dl g n) : ∃ n, dl (pm f g) n := by
  obtain ⟨m, hm⟩ := hf
  obtain ⟨n, hn⟩ := hg
  exact ⟨m + n - 1, dl_pm hm hn⟩
theorem en_pc {K : Type} [Lean.Grind.CommRing K] (a : K) : ∃ n, dl (pc a) n := ⟨1, fun i hi => by simp [pc, show ¬ i = 0 by omega]⟩
theorem en_pow {K : Type} [Lean.Grind.CommRing K] {f : Nat → K} (hf : ∃ n, dl f n) (k : Nat) : ∃ n, dl (ppow f k) n := by
  induction k with
  | zero => exact en_pc 1
  | succ k ih => exact en_pm ih hf
def pkRing (K : Type) [inst : Lean.Grind.CommRing K] : Lean.Grind.CommRing (PK K) where
  add f g := ⟨fun i => f.1 i + g.1 i, en_add f.2 g.2⟩
  mul f g := ⟨pm f.1 g.1, en_pm f.2 g.2⟩
  natCast := ⟨fun n => ⟨pc (K := K) (OfNat.ofNat n), en_pc _⟩⟩
  ofNat n := ⟨⟨pc (K := K) (OfNat.ofNat n), en_pc _⟩⟩
  nsmul := ⟨fun n f => ⟨pm (K := K) (pc (OfNat.ofNat n)) f.1, en_pm (en_pc _) f.2⟩⟩
  npow := ⟨fun f n => ⟨ppow (K := K) f.1 n, en_pow f.2 n⟩⟩
  neg f := ⟨fun i => - f.1 i, en_neg f.2⟩
  sub f g := ⟨fun i => f.1 i - g.1 i, en_sub f.2 g.2⟩
  intCast := ⟨fun i => ⟨pc (K := K) (inst.toRing.intCast.intCast i), en_pc _⟩⟩
  zsmul := ⟨fun i f => ⟨pm (K := K) (pc (inst.toRing.intCast.intCast i)) f.1, en_pm (en_pc _) f.2⟩⟩
  add_zero f := Subtype.ext ((psRing K).add_zero f.1)
  add_comm f g := Subtype.ext ((psRing K).add_comm f.1 g.1)
  add_assoc f g h := Subtype.ext ((psRing K).add_assoc f.1 g.1 h.1)
  mul_assoc f g h := Subtype.ext ((psRing K).mul_assoc f.1 g.1 h.1)
  mul_comm f g := Subtype.ext ((psRing K).mul_comm f.1 g.1)
  mul_one f := Subtype.ext ((psRing K).mul_one f.1)
  one_mul f := Subtype.ext ((psRing K).one_mul f.1)
  left_distrib f g h := Subtype.ext ((psRing K).left_distrib f.1 g.1 h.1)
  right_distrib f g h := Subtype.ext ((psRing K).right_distrib f.1 g.1 h.1)
  zero_mul f := Subtype.ext ((psRing K).zero_mul f.1)
  mul_zero f := Subtype.ext ((psRing K).mul_zero f.1)
  pow_zero f := rfl
  pow_succ f n := rfl
  ofNat_succ n := Subtype.ext ((psRing K).ofNat_succ n)
  neg_add_cancel f := Subtype.ext ((psRing K).neg_add_cancel f.1)
  sub_eq_add_neg f g := Subtype.ext ((psRing K).sub_eq_add_neg f.1 g.1)
  neg_zsmul i f := Subtype.ext ((psRing K).neg_zsmul i f.1)
  zsmul_natCast_eq_nsmul n f := Subtype.ext ((psRing K).zsmul_natCast_eq_nsmul n f.1)
  intCast_ofNat n := Subtype.ext ((psRing K).intCast_ofNat n)
  intCast_neg i := Subtype.ext ((psRing K).intCast_neg i)
/-- a field: each but 0 goes into 1 -/
def fld (K : Type) [Lean.Grind.CommRing K] : Prop := ¬ (1 : K) = 0 ∧ ∀ a : K, ¬ a = 0 → ∃ b, a * b = 1
theorem fld_dom {K : Type} [Lean.Grind.CommRing K] (h : fld K) {a b : K} (e : a * b = 0) : a = 0 ∨ b = 0 := by
  by_cases ha : a = 0
  · exact Or.inl ha
  · obtain ⟨c, hc⟩ := h.2 a ha
    exact Or.inr (by grind)
theorem pk_top {K : Type} [Lean.Grind.CommRing K] (f : PK K) : (∀ i, f.1 i = 0) ∨ ∃ e, ¬ f.1 e = 0 ∧ dl f.1 (e + 1) := by
  obtain ⟨n, hn⟩ := f.2
  rcases dl_top hn with h | ⟨e, -, h1, h2⟩
  · exact Or.inl h
  · exact Or.inr ⟨e, h1, h2⟩
noncomputable def pdeg {K : Type} [Lean.Grind.CommRing K] (f : PK K) : Nat := (Classical.propDecidable (∃ e, ¬ f.1 e = 0 ∧ dl f.1 (e + 1))).casesOn (fun _ => 0) (fun h => h.choose)
theorem pdeg_of {K : Type} [Lean.Grind.CommRing K] {f : PK K} {e : Nat} (h1 : ¬ f.1 e = 0) (h2 : dl f.1 (e + 1)) : pdeg f = e := by
  unfold pdeg
  cases hd : Classical.propDecidable (∃ e, ¬ f.1 e = 0 ∧ dl f.1 (e + 1)) with
  | isFalse h => exact absurd ⟨e, h1, h2⟩ h
  | isTrue h =>
    show h.choose = e
    obtain ⟨g1, g2⟩ := h.choose_spec
    rcases Nat.lt_trichotomy h.choose e with z | z | z
    · exact absurd (g2 e (by omega)) h1
    · exact z
    · exact absurd (h2 _ (by omega)) g1
theorem pdeg_zero {K : Type} [Lean.Grind.CommRing K] {f : PK K} (h : ∀ i, f.1 i = 0) : pdeg f = 0 := by
  unfold pdeg
  cases hd : Classical.propDecidable (∃ e, ¬ f.1 e = 0 ∧ dl f.1 (e + 1)) with
  | isFalse h => rfl
  | isTrue k => exact absurd (h k.choose) k.choose_spec.1
def pmon {K : Type} [Lean.Grind.CommRing K] (f : PK K) : Prop := ∃ d, mo f.1 d
