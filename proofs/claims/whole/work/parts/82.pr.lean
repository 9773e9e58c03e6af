/-! The polynomials, with their coefficients (cf). -/
def PR {K R : Type} [Lean.Grind.CommRing K] [Lean.Grind.CommRing R] (cf : R → Nat → K) (deg : R → Nat) (mon : R → Prop) (X : R) (Cc : K → R) (Kl : List R) (q : Nat) : Prop :=
  AX deg mon X Kl q ∧ fld K ∧ (∀ a b, (∀ i, cf a i = cf b i) → a = b) ∧ (∀ a, ∃ n, dl (cf a) n) ∧ (∀ (f : Nat → K) (n : Nat), dl f n → ∃ a, ∀ i, cf a i = f i) ∧
  (∀ a b i, cf (a + b) i = cf a i + cf b i) ∧ (∀ a b i, cf (a - b) i = cf a i - cf b i) ∧ (∀ a b i, cf (a * b) i = pm (cf a) (cf b) i) ∧
  (∀ i, cf 0 i = 0) ∧ (∀ i, cf 1 i = pc 1 i) ∧ (∀ i, cf X i = xp 1 i) ∧ (∀ c i, cf (Cc c) i = pc c i) ∧
  (∀ a, sq (cf a) = 0 → deg a = 0) ∧ (∀ a e, sq (cf a) = e + 1 → deg a = e) ∧ (∀ a, mon a ↔ ∃ d, mo (cf a) d)
section
theorem pr_ax {K R : Type} [Lean.Grind.CommRing K] [Lean.Grind.CommRing R] {cf : R → Nat → K} {deg : R → Nat} {mon : R → Prop} {X : R} {Cc : K → R} {Kl : List R} {q : Nat} (hR : PR cf deg mon X Cc Kl q) : AX deg mon X Kl q := hR.1
theorem pr_eu {K R : Type} [Lean.Grind.CommRing K] [Lean.Grind.CommRing R] {cf : R → Nat → K} {deg : R → Nat} {mon : R → Prop} {X : R} {Cc : K → R} {Kl : List R} {q : Nat} (hR : PR cf deg mon X Cc Kl q) : EU deg mon := hR.1.1
theorem pr_fld {K R : Type} [Lean.Grind.CommRing K] [Lean.Grind.CommRing R] {cf : R → Nat → K} {deg : R → Nat} {mon : R → Prop} {X : R} {Cc : K → R} {Kl : List R} {q : Nat} (hR : PR cf deg mon X Cc Kl q) : fld K := hR.2.1
theorem pr_ext {K R : Type} [Lean.Grind.CommRing K] [Lean.Grind.CommRing R] {cf : R → Nat → K} {deg : R → Nat} {mon : R → Prop} {X : R} {Cc : K → R} {Kl : List R} {q : Nat} (hR : PR cf deg mon X Cc Kl q) {a b : R} (h : ∀ i, cf a i = cf b i) : a = b := hR.2.2.1 a b h
theorem pr_en {K R : Type} [Lean.Grind.CommRing K] [Lean.Grind.CommRing R] {cf : R → Nat → K} {deg : R → Nat} {mon : R → Prop} {X : R} {Cc : K → R} {Kl : List R} {q : Nat} (hR : PR cf deg mon X Cc Kl q) (a : R) : ∃ n, dl (cf a) n := hR.2.2.2.1 a
theorem pr_ex {K R : Type} [Lean.Grind.CommRing K] [Lean.Grind.CommRing R] {cf : R → Nat → K} {deg : R → Nat} {mon : R → Prop} {X : R} {Cc : K → R} {Kl : List R} {q : Nat} (hR : PR cf deg mon X Cc Kl q) {f : Nat → K} {n : Nat} (h : dl f n) : ∃ a, cf a = f := by
  obtain ⟨a, ha⟩ := hR.2.2.2.2.1 f n h
  exact ⟨a, funext ha⟩
theorem pr_add {K R : Type} [Lean.Grind.CommRing K] [Lean.Grind.CommRing R] {cf : R → Nat → K} {deg : R → Nat} {mon : R → Prop} {X : R} {Cc : K → R} {Kl : List R} {q : Nat} (hR : PR cf deg mon X Cc Kl q) (a b : R) (i : Nat) : cf (a + b) i = cf a i + cf b i := hR.2.2.2.2.2.1 a b i
theorem pr_sub {K R : Type} [Lean.Grind.CommRing K] [Lean.Grind.CommRing R] {cf : R → Nat → K} {deg : R → Nat} {mon : R → Prop} {X : R} {Cc : K → R} {Kl : List R} {q : Nat} (hR : PR cf deg mon X Cc Kl q) (a b : R) (i : Nat) : cf (a - b) i = cf a i - cf b i := hR.2.2.2.2.2.2.1 a b i
theorem pr_mul {K R : Type} [Lean.Grind.CommRing K] [Lean.Grind.CommRing R] {cf : R → Nat → K} {deg : R → Nat} {mon : R → Prop} {X : R} {Cc : K → R} {Kl : List R} {q : Nat} (hR : PR cf deg mon X Cc Kl q) (a b : R) : cf (a * b) = pm (cf a) (cf b) := funext (hR.2.2.2.2.2.2.2.1 a b)
theorem pr_0 {K R : Type} [Lean.Grind.CommRing K] [Lean.Grind.CommRing R] {cf : R → Nat → K} {deg : R → Nat} {mon : R → Prop} {X : R} {Cc : K → R} {Kl : List R} {q : Nat} (hR : PR cf deg mon X Cc Kl q) : cf 0 = fun _ => 0 := funext hR.2.2.2.2.2.2.2.2.1
theorem pr_1 {K R : Type} [Lean.Grind.CommRing K] [Lean.Grind.CommRing R] {cf : R → Nat → K} {deg : R → Nat} {mon : R → Prop} {X : R} {Cc : K → R} {Kl : List R} {q : Nat} (hR : PR cf deg mon X Cc Kl q) : cf 1 = pc 1 := funext hR.2.2.2.2.2.2.2.2.2.1
theorem pr_X {K R : Type} [Lean.Grind.CommRing K] [Lean.Grind.CommRing R] {cf : R → Nat → K} {deg : R → Nat} {mon : R → Prop} {X : R} {Cc : K → R} {Kl : List R} {q : Nat} (hR : PR cf deg mon X Cc Kl q) : cf X = xp 1 := funext hR.2.2.2.2.2.2.2.2.2.2.1
theorem pr_C {K R : Type} [Lean.Grind.CommRing K] [Lean.Grind.CommRing R] {cf : R → Nat → K} {deg : R → Nat} {mon : R → Prop} {X : R} {Cc : K → R} {Kl : List R} {q : Nat} (hR : PR cf deg mon X Cc Kl q) (c : K) : cf (Cc c) = pc c := funext (hR.2.2.2.2.2.2.2.2.2.2.2.1 c)
theorem pr_mon {K R : Type} [Lean.Grind.CommRing K] [Lean.Grind.CommRing R] {cf : R → Nat → K} {deg : R → Nat} {mon : R → Prop} {X : R} {Cc : K → R} {Kl : List R} {q : Nat} (hR : PR cf deg mon X Cc Kl q) (a : R) : mon a ↔ ∃ d, mo (cf a) d := hR.2.2.2.2.2.2.2.2.2.2.2.2.2.2 a
theorem pr_dl {K R : Type} [Lean.Grind.CommRing K] [Lean.Grind.CommRing R] {cf : R → Nat → K} {deg : R → Nat} {mon : R → Prop} {X : R} {Cc : K → R} {Kl : List R} {q : Nat} (hR : PR cf deg mon X Cc Kl q) (a : R) : dl (cf a) (sq (cf a)) := by
  obtain ⟨n, h⟩ := pr_en hR a
  exact sq_dl h
theorem pr_sq0 {K R : Type} [Lean.Grind.CommRing K] [Lean.Grind.CommRing R] {cf : R → Nat → K} {deg : R → Nat} {mon : R → Prop} {X : R} {Cc : K → R} {Kl : List R} {q : Nat} (hR : PR cf deg mon X Cc Kl q) (a : R) : sq (cf a) = 0 ↔ a = 0 := by
  constructor
  · intro h
    have h1 := pr_dl hR a
    exact pr_ext hR (fun i => by rw [h1 i (by omega), pr_0 hR])
  · intro h
    rw [h, pr_0 hR]
    exact sq_0 (fun _ => rfl)
theorem pr_sq {K R : Type} [Lean.Grind.CommRing K] [Lean.Grind.CommRing R] {cf : R → Nat → K} {deg : R → Nat} {mon : R → Prop} {X : R} {Cc : K → R} {Kl : List R} {q : Nat} (hR : PR cf deg mon X Cc Kl q) {a : R} (h : ¬ a = 0) : sq (cf a) = deg a + 1 := by
  cases e : sq (cf a) with
  | zero => exact absurd ((pr_sq0 hR a).mp e) h
  | succ n => rw [hR.2.2.2.2.2.2.2.2.2.2.2.2.2.1 a n e]
theorem pr_d0 {K R : Type} [Lean.Grind.CommRing K] [Lean.Grind.CommRing R] {cf : R → Nat → K} {deg : R → Nat} {mon : R → Prop} {X : R} {Cc : K → R} {Kl : List R} {q : Nat} (hR : PR cf deg mon X Cc Kl q) : deg 0 = 0 := hR.2.2.2.2.2.2.2.2.2.2.2.2.1 0 ((pr_sq0 hR 0).mpr rfl)
theorem pr_mo {K R : Type} [Lean.Grind.CommRing K] [Lean.Grind.CommRing R] {cf : R → Nat → K} {deg : R → Nat} {mon : R → Prop} {X : R} {Cc : K → R} {Kl : List R} {q : Nat} (hR : PR cf deg mon X Cc Kl q) {a : R} (h : mon a) : mo (cf a) (deg a) ∧ sq (cf a) = deg a + 1 := by
  obtain ⟨d, hd⟩ := (pr_mon hR a).mp h
  have h1 : sq (cf a) = d + 1 := sq_of (by rw [hd.1]; exact (pr_fld hR).1) hd.2
  rw [hR.2.2.2.2.2.2.2.2.2.2.2.2.2.1 a d h1]
  exact ⟨hd, h1⟩
theorem pr_sqm {K R : Type} [Lean.Grind.CommRing K] [Lean.Grind.CommRing R] {cf : R → Nat → K} {deg : R → Nat} {mon : R → Prop} {X : R} {Cc : K → R} {Kl : List R} {q : Nat} (hR : PR cf deg mon X Cc Kl q) {a b : R} (ha : ¬ a = 0) (hb : ¬ b = 0) : sq (cf (a * b)) + 1 = sq (cf a) + sq (cf b) := by
  have hab : ¬ a * b = 0 := fun h => ((pr_eu hR).2.1 a b h).elim ha hb
  rw [pr_sq hR ha, pr_sq hR hb, pr_sq hR hab, (pr_eu hR).2.2.1 a b ha hb]; omega
/-- the same sums of multiples -/
def SI {R : Type} [Lean.Grind.CommRing R] (a b c d : R) : Prop := (∃ u v, a = u * c + v * d) ∧ (∃ u v, b = u * c + v * d) ∧ (∃ u v, c = u * a + v * b) ∧ (∃ u v, d = u * a + v * b)
theorem SI_rf {R : Type} [Lean.Grind.CommRing R] (a b : R) : SI a b a b := ⟨⟨1, 0, by grind⟩, ⟨0, 1, by grind⟩, ⟨1, 0, by grind⟩, ⟨0, 1, by grind⟩⟩
theorem SI_tr {R : Type} [Lean.Grind.CommRing R] {a b c d e f : R} (h : SI a b c d) (k : SI c d e f) : SI a b e f := by
  obtain ⟨⟨u1, v1, h1⟩, ⟨u2, v2, h2⟩, ⟨u3, v3, h3⟩, ⟨u4, v4, h4⟩⟩ := h
  obtain ⟨⟨x1, y1, k1⟩, ⟨x2, y2, k2⟩, ⟨x3, y3, k3⟩, ⟨x4, y4, k4⟩⟩ := k
  exact ⟨⟨u1 * x1 + v1 * x2, u1 * y1 + v1 * y2, by rw [h1, k1, k2]; grind⟩, ⟨u2 * x1 + v2 * x2, u2 * y1 + v2 * y2, by rw [h2, k1, k2]; grind⟩, ⟨x3 * u3 + y3 * u4, x3 * v3 + y3 * v4, by rw [k3, h3, h4]; grind⟩, ⟨x4 * u3 + y4 * u4, x4 * v3 + y4 * v4, by rw [k4, h3, h4]; grind⟩⟩
theorem SI_step {R : Type} [Lean.Grind.CommRing R] {a b w w' q r : R} (hw : w * w' = 1) (h : a = q * (w * b) + r) : SI (w * b) r a b :=
  ⟨⟨0, w, by grind⟩, ⟨1, - (q * w), by grind⟩, ⟨q, 1, by grind⟩, ⟨w', 0, by grind⟩⟩
/-- the greatest that divides both, with 1 at its highest power (0 if both are 0) -/
def GC {R : Type} [Lean.Grind.CommRing R] (mon : R → Prop) (a b g : R) : Prop := dv g a ∧ dv g b ∧ (∃ u v, g = u * a + v * b) ∧ (g = 0 ∨ mon g)
theorem gc_uni {R : Type} [Lean.Grind.CommRing R] {deg : R → Nat} {mon : R → Prop} (hE : EU deg mon) {a b g h : R} (hg : GC mon a b g) (hh : GC mon a b h) : g = h := by
  obtain ⟨u, v, e⟩ := hg.2.2.1
  obtain ⟨u', v', e'⟩ := hh.2.2.1
  have h1 : dv h g := by rw [e]; exact dv_add (dv_ml u hh.1) (dv_ml v hh.2.1)
  have h2 : dv g h := by rw [e']; exact dv_add (dv_ml u' hg.1) (dv_ml v' hg.2.1)
  obtain ⟨c, hc⟩ := h1
  obtain ⟨d, hd⟩ := h2
  by_cases z : g = 0
  · rw [z] at hd ⊢; rw [hd]; grind
  by_cases z' : h = 0
  · rw [z'] at hc; exact absurd (by rw [hc]; grind) z
  have mg : mon g := hg.2.2.2.resolve_left z
  have mh : mon h := hh.2.2.2.resolve_left z'
  have cd1 : g * (1 - d * c) = 0 := by grind
  rcases hE.2.1 _ _ cd1 with q | q
  · exact absurd q z
  · have c0 : ¬ c = 0 := fun e => hE.2.2.2.2.1.1 (by grind)
    have d0 : ¬ d = 0 := fun e => hE.2.2.2.2.1.1 (by grind)
    have h3 := hE.2.2.1 d c d0 c0
    rw [show d * c = 1 by grind, hE.2.2.2.2.1.2.2] at h3
    exact hE.2.2.2.2.2.2.2 g h c mg mh (by grind) (by omega)
theorem gc_of {R : Type} [Lean.Grind.CommRing R] {mon : R → Prop} {a b c w w' : R} (h : SI c 0 a b) (hw : w * w' = 1) (hm : c = 0 ∨ mon (w * c)) : GC mon a b (w * c) := by
  obtain ⟨⟨u1, v1, h1⟩, ⟨u2, v2, h2⟩, ⟨u3, v3, h3⟩, ⟨u4, v4, h4⟩⟩ := h
  refine ⟨⟨u3 * w', by grind⟩, ⟨u4 * w', by grind⟩, ⟨w * u1, w * v1, by grind⟩, ?_⟩
  rcases hm with h | h
  · exact Or.inl (by rw [h]; grind)
  · exact Or.inr h
/-- division by what has 1 at its highest power -/
theorem P_divR {K R : Type} [Lean.Grind.CommRing K] [Lean.Grind.CommRing R] {cd : K → Int32} {E : Nat → Int32} {kk : Int32} {md : Nat → Int32} (hC : CX cd E kk md) {cf : R → Nat → K} {deg : R → Nat} {mon : R → Prop} {X : R} {Cc : K → R} {Kl : List R} {q : Nat} (hR : PR cf deg mon X Cc Kl q) {M : Fin 20 → Nat → Int32} {a b : Fin 20} (hab : ¬ b = a) (ha : ¬ a = 2) (hb : ¬ b = 2) {f g : R} (hf : RW cd (M a) (cf f)) (hg : RW cd (M b) (cf g)) (hg' : mon g) {fu : Nat} (hfu : 18 ≤ fu) : ∃ M' q r, f_X1_divide fu M E a b = some M' ∧ (∀ x, ¬ x = 2 → ¬ x = a → M' x = M x) ∧ RW cd (M' 2) (cf q) ∧ RW cd (M' a) (cf r) ∧ f = q * g + r ∧ sq (cf r) < sq (cf g) := by
  obtain ⟨m1, m2⟩ := pr_mo hR hg'
  obtain ⟨M', q, r, h1, h2, h3, h4, h5, h6, h7⟩ := P_div hC hab ha hb hf hg m1 hfu
  obtain ⟨q', rfl⟩ := pr_ex hR h3.1
  obtain ⟨r', rfl⟩ := pr_ex hR h4.1
  refine ⟨M', q', r', h1, h2, h3, h4, pr_ext hR (fun i => ?_), ?_⟩
  · rw [pr_add hR, pr_mul hR, h5]
  · have := sq_le h6
    omega
theorem pr_dun {K R : Type} [Lean.Grind.CommRing K] [Lean.Grind.CommRing R] {cf : R → Nat → K} {deg : R → Nat} {mon : R → Prop} {X : R} {Cc : K → R} {Kl : List R} {q : Nat} (hR : PR cf deg mon X Cc Kl q) {g q1 r1 q2 r2 : R} (hg : mon g) (h : q1 * g + r1 = q2 * g + r2) (h1 : sq (cf r1) < sq (cf g)) (h2 : sq (cf r2) < sq (cf g)) : q1 = q2 ∧ r1 = r2 := by
  obtain ⟨m1, m2⟩ := pr_mo hR hg
  obtain ⟨n1, e1⟩ := pr_en hR q1
  obtain ⟨n2, e2⟩ := pr_en hR q2
  have := div_un m1 e1 e2 (dl_mono (pr_dl hR r1) (by omega)) (dl_mono (pr_dl hR r2) (by omega)) (fun i => by
    rw [← pr_mul hR, ← pr_mul hR, ← pr_add hR, ← pr_add hR, h])
  exact ⟨pr_ext hR this.1, pr_ext hR this.2⟩
theorem pr_scale {K R : Type} [Lean.Grind.CommRing K] [Lean.Grind.CommRing R] {cf : R → Nat → K} {deg : R → Nat} {mon : R → Prop} {X : R} {Cc : K → R} {Kl : List R} {q : Nat} (hR : PR cf deg mon X Cc Kl q) (u : K) (a : R) : cf (Cc u * a) = fun t => u * cf a t := by
  rw [pr_mul hR, pr_C hR, pm_pc]
theorem pr_C1 {K R : Type} [Lean.Grind.CommRing K] [Lean.Grind.CommRing R] {cf : R → Nat → K} {deg : R → Nat} {mon : R → Prop} {X : R} {Cc : K → R} {Kl : List R} {q : Nat} (hR : PR cf deg mon X Cc Kl q) {u v : K} (h : u * v = 1) : Cc u * Cc v = 1 := pr_ext hR (fun i => by
  rw [pr_mul hR, pr_C hR, pr_C hR, pc_mul, h, pr_1 hR])
theorem P_monR {K R : Type} [Lean.Grind.CommRing K] [Lean.Grind.CommRing R] {cd : K → Int32} {E : Nat → Int32} {kk : Int32} {md : Nat → Int32} (hC : CX cd E kk md) {cf : R → Nat → K} {deg : R → Nat} {mon : R → Prop} {X : R} {Cc : K → R} {Kl : List R} {q : Nat} (hR : PR cf deg mon X Cc Kl q) {mn : Int64} (hF : FX K q E mn) {M : Fin 20 → Nat → Int32} {a : Fin 20} {f : R} (hf : RW cd (M a) (cf f)) {fu : Nat} (hfu : 32 ≤ fu) : ∃ M' w w', f_X1_makeMonic fu M E a = some M' ∧ (∀ q, ¬ q = a → M' q = M q) ∧ RW cd (M' a) (cf (w * f)) ∧ w * w' = 1 ∧ (f = 0 ∨ mon (w * f)) := by
  obtain ⟨M', u, v, h1, h2, h3, h4, h5⟩ := P_mon hC hF hf hfu
  refine ⟨M', Cc u, Cc v, h1, h2, by rw [pr_scale hR]; exact h3, pr_C1 hR h4, ?_⟩
  by_cases z : f = 0
  · exact Or.inl z
  · refine Or.inr ((pr_mon hR _).mpr ⟨deg f, ?_, ?_⟩)
    · rw [pr_scale hR]; exact h5 _ (pr_sq hR z)
    · rw [pr_scale hR]
      intro i hi
      show u * cf f i = 0
      have := pr_dl hR f
      rw [pr_sq hR z] at this
      rw [this i hi]; grind
theorem P_gcd_l {K R : Type} [Lean.Grind.CommRing K] [Lean.Grind.CommRing R] {cd : K → Int32} {E : Nat → Int32} {kk : Int32} {md : Nat → Int32} (hC : CX cd E kk md) {cf : R → Nat → K} {deg : R → Nat} {mon : R → Prop} {X : R} {Cc : K → R} {Kl : List R} {q : Nat} (hR : PR cf deg mon X Cc Kl q) {mn : Int64} (hF : FX K q E mn) (k : Fin 20 → Fin 20 → Int32 → (Fin 20 → Nat → Int32) → Option (Fin 20 → Nat → Int32)) (fu : Nat) (hfu : 32 ≤ fu) (x1 x2 x3 : Fin 20) : ∀ (s n j : Nat) (M : Fin 20 → Nat → Int32) (xl xr : Fin 20) (a b : R), sq (cf b) ≤ s → s + j ≤ 16 → (xl = 3 ∧ xr = 4) ∨ (xl = 4 ∧ xr = 3) → RW cd (M xl) (cf a) → RW cd (M xr) (cf b) → s < n → ∃ xl' xr' y M' a', f_X1_findCommon_l31 k fu E x1 x2 x3 n xl xr (nI j) M = k xl' xr' y M' ∧ (xl' = 3 ∨ xl' = 4) ∧ (∀ x, ¬ x = 2 → ¬ x = 3 → ¬ x = 4 → M' x = M x) ∧ RW cd (M' xl') (cf a') ∧ SI a' 0 a b := by
  intro s
  induction s with
  | zero =>
    intro n j M xl xr a b hs hj hx hl hr hn
    obtain ⟨n, rfl⟩ : ∃ n', n = n' + 1 := ⟨n - 1, by omega⟩
    have hb : b = 0 := (pr_sq0 hR b).mp (by omega)
    refine ⟨xl, xr, nI j, M, a, ?_, hx.elim (fun h => Or.inl h.1) (fun h => Or.inr h.1), fun _ _ _ _ => rfl, hl, by rw [hb]; exact SI_rf a 0⟩
    rw [f_X1_findCommon_l31, if_neg (show ¬ (17 : Int32) < nI j from nI_nlt (a := 17) (by omega) (by decide)), P_deg hC hr (by omega), Option.bind_some, show sq (cf b) = 0 by omega, if_pos dI_neg]
  | succ s ih =>
    intro n j M xl xr a b hs hj hx hl hr hn
    obtain ⟨n, rfl⟩ : ∃ n', n = n' + 1 := ⟨n - 1, by omega⟩
    rw [f_X1_findCommon_l31, if_neg (show ¬ (17 : Int32) < nI j from nI_nlt (a := 17) (by omega) (by decide)), P_deg hC hr (by omega), Option.bind_some]
    by_cases hb : b = 0
    · rw [(pr_sq0 hR b).mpr hb, if_pos dI_neg]
      exact ⟨xl, xr, nI j, M, a, rfl, hx.elim (fun h => Or.inl h.1) (fun h => Or.inr h.1), fun _ _ _ _ => rfl, hl, by rw [hb]; exact SI_rf a 0⟩
    · have hsq := pr_sq hR hb
      have hlr : ¬ xl = xr := by rcases hx with ⟨h1, h2⟩ | ⟨h1, h2⟩ <;> rw [h1, h2] <;> decide
      have hl2 : ¬ xl = 2 := by rcases hx with ⟨h1, h2⟩ | ⟨h1, h2⟩ <;> rw [h1] <;> decide
      have hr2 : ¬ xr = 2 := by rcases hx with ⟨h1, h2⟩ | ⟨h1, h2⟩ <;> rw [h2] <;> decide
      rw [hsq, dI_s, if_neg (nI_pos (by omega))]
      obtain ⟨M1, w, w', h1, h2, h3, h4, h5⟩ := P_monR hC hR hF hr hfu
      have hm := h5.resolve_left hb
      obtain ⟨M2, qq, r, k1, k2, k3, k4, k5, k6⟩ := P_divR hC hR (fun e => hlr e.symm) hl2 hr2 (by rw [h2 xl hlr]; exact hl) h3 hm (show 18 ≤ fu by omega)
      have hw0 : ¬ w = 0 := fun e => (pr_eu hR).2.2.2.2.1.1 (by rw [← h4, e]; grind)
      have hw1 : deg w = 0 := by
        have hw0' : ¬ w' = 0 := fun e => (pr_eu hR).2.2.2.2.1.1 (by rw [← h4, e]; grind)
        have := (pr_eu hR).2.2.1 w w' hw0 hw0'
        rw [h4, (pr_eu hR).2.2.2.2.1.2.2] at this
        omega
      have hsz := pr_sqm hR hw0 hb
      rw [pr_sq hR hw0, hw1] at hsz
      rw [h1, Option.bind_some, k1, Option.bind_some, nI_1]
      obtain ⟨xl', xr', y, M', a', l1, l2, l3, l4, l5⟩ := ih n (j + 1) M2 xr xl (w * b) r (by omega) (by omega) (hx.elim (fun h => Or.inr ⟨h.2, h.1⟩) (fun h => Or.inl ⟨h.2, h.1⟩)) (by rw [k2 xr hr2 (fun e => hlr e.symm)]; exact h3) k4 (by omega)
      refine ⟨xl', xr', y, M', a', l1, l2, fun x hx2 hx3 hx4 => ?_, l4, SI_tr l5 (SI_step h4 k5)⟩
      have e1 : ¬ x = xl := by rcases hx with ⟨h1, h2⟩ | ⟨h1, h2⟩ <;> rw [h1] <;> assumption
      have e2 : ¬ x = xr := by rcases hx with ⟨h1, h2⟩ | ⟨h1, h2⟩ <;> rw [h2] <;> assumption
      rw [l3 x hx2 hx3 hx4, k2 x hx2 e1, h2 x e2]
theorem P_gcd {K R : Type} [Lean.Grind.CommRing K] [Lean.Grind.CommRing R] {cd : K → Int32} {E : Nat → Int32} {kk : Int32} {md : Nat → Int32} (hC : CX cd E kk md) {cf : R → Nat → K} {deg : R → Nat} {mon : R → Prop} {X : R} {Cc : K → R} {Kl : List R} {q : Nat} (hR : PR cf deg mon X Cc Kl q) {mn : Int64} (hF : FX K q E mn) {M : Fin 20 → Nat → Int32} {x1 x2 x3 : Fin 20} (d1 : ¬ x1 = 3) (d2 : ¬ x2 = 3 ∧ ¬ x2 = 4) (d3 : ¬ x3 = 2 ∧ ¬ x3 = 3 ∧ ¬ x3 = 4) {a b : R} (ha : RW cd (M x1) (cf a)) (hb : RW cd (M x2) (cf b)) {fu : Nat} (hfu : 32 ≤ fu) : ∃ M' g, f_X1_findCommon fu M E x1 x2 x3 = some M' ∧ (∀ x, ¬ x = 2 → ¬ x = 3 → ¬ x = 4 → ¬ x = x3 → M' x = M x) ∧ RW cd (M' x3) (cf g) ∧ GC mon a b g := by
  unfold f_X1_findCommon
  obtain ⟨M1, h1, h2, h3⟩ := P_copy hC d1 ha (r := 3) (show 17 ≤ fu by omega)
  obtain ⟨M2, k1, k2, k3⟩ := P_copy hC d2.2 (M := M1) (by rw [h2 x2 d2.1]; exact hb) (r := 4) (show 17 ≤ fu by omega)
  rw [h1, Option.bind_some, k1, Option.bind_some]
  have hsb := sq_le hb.1
  obtain ⟨xl', xr', y, M3, a', l1, l2, l3, l4, l5⟩ := P_gcd_l hC hR hF (fun y13 y14 y15 M16 => (f_X1_makeMonic fu M16 E y13).bind (fun u17 => (f_X2_copy fu u17 x3 y13).bind (fun u19 => some u19))) fu hfu x1 x2 x3 16 fu 0 M2 3 4 a b hsb (by omega) (Or.inl ⟨rfl, rfl⟩) (by rw [k2 3 (by decide)]; exact h3) k3 (by omega)
  rw [show (0 : Int32) = nI 0 from rfl, l1]
  obtain ⟨M4, w, w', m1, m2, m3, m4, m5⟩ := P_monR hC hR hF l4 hfu
  have hx3 : ¬ xl' = x3 := by
    rcases l2 with h | h
    · rw [h]; exact fun e => d3.2.1 e.symm
    · rw [h]; exact fun e => d3.2.2 e.symm
  obtain ⟨M5, n1, n2, n3⟩ := P_copy hC hx3 m3 (r := x3) (show 17 ≤ fu by omega)
  show ∃ M' g, (f_X1_makeMonic fu M3 E xl').bind (fun u17 => (f_X2_copy fu u17 x3 xl').bind (fun u19 => some u19)) = some M' ∧ _
  rw [m1, Option.bind_some, n1, Option.bind_some]
  refine ⟨M5, w * a', rfl, fun x e2 e3 e4 e5 => ?_, n3, gc_of l5 m4 m5⟩
  have : ¬ x = xl' := by rcases l2 with h | h <;> rw [h] <;> assumption
  rw [n2 x e5, m2 x this, l3 x e2 e3 e4, k2 x e4, h2 x e3]
end
