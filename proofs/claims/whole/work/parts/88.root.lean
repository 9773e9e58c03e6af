/-! f over what it shares with its derivative; the list of parts. -/
def RT {R : Type} [Lean.Grind.CommRing R] (mon : R → Prop) (D : R → R) (f r : R) : Prop := ∃ g w w' q, GC mon f (D f) g ∧ f = q * g ∧ w * w' = 1 ∧ r = w * q ∧ mon r
theorem rt_uni {R : Type} [Lean.Grind.CommRing R] {deg : R → Nat} {mon : R → Prop} (hE : EU deg mon) {D : R → R} {f r r' : R} (hf : ¬ f = 0) (h : RT mon D f r) (h' : RT mon D f r') : r = r' := by
  obtain ⟨g, w, w', q, h1, h2, h3, h4, h5⟩ := h
  obtain ⟨g', v, v', q', k1, k2, k3, k4, k5⟩ := h'
  have eg := gc_uni hE h1 k1
  subst eg
  have g0 : ¬ g = 0 := fun e => hf (by rw [h2, e]; grind)
  have : (q - q') * g = 0 := by grind
  have eq : q = q' := by
    rcases hE.2.1 _ _ this with h | h
    · grind
    · exact absurd h g0
  subst eq
  have u0 : ∀ a b : R, a * b = 1 → ¬ a = 0 := fun a b e z => hE.2.2.2.2.1.1 (by rw [← e, z]; grind)
  have d0 : deg (w * v') = 0 := by
    have e1 : (w * v') * (v * w') = 1 := by grind
    have := hE.2.2.1 _ _ (u0 _ _ e1) (u0 _ _ (show (v * w') * (w * v') = 1 by grind))
    rw [e1, hE.2.2.2.2.1.2.2] at this
    omega
  exact hE.2.2.2.2.2.2.2 r r' (w * v') h5 k5 (by grind) d0
theorem rt_list {R : Type} [Lean.Grind.CommRing R] {deg : R → Nat} {mon : R → Prop} (hE : EU deg mon) (hN : ∀ a : R, ¬ a = 0 → ∃ u v, u * v = 1 ∧ deg u = 0 ∧ mon (u * a)) {D : R → R} (hD : ∀ a b, D (a * b) = D a * b + a * D b) {f r : R} (hf : ¬ f = 0) (h : RT mon D f r) : ∃ L : List R, (∀ p ∈ L, irr deg mon p) ∧ L.Nodup ∧ lp L = r ∧ deg r ≤ deg f := by
  obtain ⟨g, w, w', q, h1, h2, h3, h4, h5⟩ := h
  obtain ⟨L, l1, l2⟩ := fac_ex hE hN (deg r) r h5 (Nat.le_refl _)
  have g0 : ¬ g = 0 := fun e => hf (by rw [h2, e]; grind)
  obtain ⟨u, v, e⟩ := h1.2.2.1
  refine ⟨L, l1, sqf_nd L l1 (fun p hp hm hd => ?_), l2, ?_⟩
  · rw [l2] at hd
    refine root_sq hE D hD h2 e g0 hp hm ?_
    have : q = w' * r := by grind
    rw [this]
    exact dv_ml w' hd
  · exact dv_deg hE hf ⟨w' * g, by grind⟩
theorem P_root {K R : Type} [Lean.Grind.CommRing K] [Lean.Grind.CommRing R] {cd : K → Int32} {E : Nat → Int32} {kk : Int32} {md : Nat → Int32} (hC : CX cd E kk md) {cf : R → Nat → K} {deg : R → Nat} {mon : R → Prop} {X : R} {Cc : K → R} {Kl : List R} {q : Nat} (hR : PR cf deg mon X Cc Kl q) {mn : Int64} (hF : FX K q E mn) {D : R → R} (hD : DR cf D) {M : Fin 20 → Nat → Int32} {f : R} (hf : RW cd (M 0) (cf f)) (f0 : ¬ f = 0) {fu : Nat} (hfu : 32 ≤ fu) : ∃ M1 M' r, f_X1_findSquares fu M E 0 14 = some M1 ∧ f_X3_keepRoot fu M1 E 0 = some M' ∧ (M' 0 = M 0 ∧ (∀ x : Fin 20, 15 ≤ x.val → M' x = M x)) ∧ RW cd (M' 11) (cf r) ∧ RT mon D f r := by
  obtain ⟨M1, g, h1, h2, h3, h4⟩ := P_sqr hC hR hF hD (x1 := 0) (x2 := 14) (by decide) (by decide) hf hfu
  have g0 : ¬ g = 0 := fun e => f0 (by
    obtain ⟨c, hc⟩ := h4.1
    rw [hc, e]; grind)
  have mg : mon g := h4.2.2.2.resolve_left g0
  have M10 : M1 0 = M 0 := h2 0 (by decide) (by decide) (by decide) (by decide) (by decide)
  obtain ⟨M2, k1, k2, k3⟩ := P_copy hC (M := M1) (r := 11) (b := 0) (by decide) (by rw [M10]; exact hf) (show 17 ≤ fu by omega)
  obtain ⟨M3, qq, rr, l1, l2, l3, l4, l5, l6⟩ := P_divR hC hR (a := 11) (b := 14) (by decide) (by decide) (by decide) k3 (by rw [k2 14 (by decide)]; exact h3) mg (show 18 ≤ fu by omega)
  obtain ⟨c, hc⟩ := h4.1
  have hun := pr_dun hR mg (q1 := qq) (r1 := rr) (q2 := c) (r2 := 0) (by rw [← l5, hc]; grind) l6 (by rw [(pr_sq0 hR 0).mpr rfl, (pr_mo hR mg).2]; omega)
  have eq : f = qq * g := by rw [l5, hun.2]; grind
  have q0 : ¬ qq = 0 := fun e => f0 (by rw [eq, e]; grind)
  obtain ⟨M4, m1, m2, m3⟩ := P_copy hC (M := M3) (r := 11) (b := 2) (by decide) l3 (show 17 ≤ fu by omega)
  obtain ⟨M5, w, w', n1, n2, n3, n4, n5⟩ := P_monR hC hR hF m3 hfu
  refine ⟨M1, M5, w * qq, h1, ?_, ⟨?_, fun x hx => ?_⟩, n3, g, w, w', qq, h4, eq, n4, rfl, n5.resolve_left q0⟩
  · unfold f_X3_keepRoot
    rw [k1, Option.bind_some, l1, Option.bind_some, m1, Option.bind_some, n1]
    rfl
  · rw [n2 0 (by decide), m2 0 (by decide), l2 0 (by decide) (by decide), k2 0 (by decide), M10]
  · have N : ∀ (v : Nat) (hv : v < 20), v < 15 → ¬ x = ⟨v, hv⟩ := fun v hv h e => by rw [e] at hx; exact absurd hx (by show ¬ 15 ≤ v; omega)
    rw [n2 x (N 11 (by omega) (by omega)), m2 x (N 11 (by omega) (by omega)), l2 x (N 2 (by omega) (by omega)) (N 11 (by omega) (by omega)), k2 x (N 11 (by omega) (by omega)), h2 x (N 2 (by omega) (by omega)) (N 3 (by omega) (by omega)) (N 4 (by omega) (by omega)) (N 5 (by omega) (by omega)) (N 14 (by omega) (by omega))]
/-- which row a part is -/
def PI (P : Nat → Fin 20) : Prop := (∀ i, i < 5 → 15 ≤ (P i).val) ∧ ∀ i j, i < 5 → j < 5 → P i = P j → i = j
theorem PI_ne {P : Nat → Fin 20} (h : PI P) {i : Nat} (hi : i < 5) {v : Nat} (hv : v < 20) (h15 : v < 15) : ¬ P i = ⟨v, hv⟩ := fun e => by
  have := h.1 i hi
  rw [e] at this
  exact absurd this (by show ¬ 15 ≤ v; omega)
/-- the parts are these -/
def PL {K R : Type} [Lean.Grind.CommRing K] (cd : K → Int32) (cf : R → Nat → K) (M : Fin 20 → Nat → Int32) (P : Nat → Fin 20) (l : List R) : Prop := l.length ≤ 5 ∧ ∀ i a, l[i]? = some a → RW cd (M (P i)) (cf a)
theorem P_part {P : Nat → Fin 20} {i : Nat} (hi : i < 5) : f_X3_part P (nI i) = some (P i) := by
  unfold f_X3_part
  rw [if_neg (nI_pos (by omega)), if_neg (show ¬ (5 : Int32) ≤ nI i from nI_ge (b := 5) hi (by decide)), if_neg (nI_in hi (by decide)), nI_clamp (by omega)]
theorem P_addp {K R : Type} [Lean.Grind.CommRing K] {cd : K → Int32} {E : Nat → Int32} {kk : Int32} {md : Nat → Int32} (hC : CX cd E kk md) {cf : R → Nat → K} {M : Fin 20 → Nat → Int32} {P : Nat → Fin 20} (hP : PI P) {N : Nat → Int32} {l : List R} (hl : PL cd cf M P l) (hn : N 0 = nI l.length) (h5 : l.length < 5) {r : Fin 20} (hr : r.val < 15) {a : R} (ha : RW cd (M r) (cf a)) {fu : Nat} (hfu : 17 ≤ fu) : ∃ M', f_X3_add fu M P N r = some (M', va_up N 0 (nI (l.length + 1))) ∧ (∀ x, x.val < 15 → M' x = M x) ∧ PL cd cf M' P (l ++ [a]) := by
  unfold f_X3_add
  rw [hn, if_neg (show ¬ (5 : Int32) ≤ nI l.length from nI_ge (b := 5) h5 (by decide)), if_neg (nI_in h5 (by decide)), nI_clamp (by omega)]
  have hne : ¬ r = P l.length := fun e => by
    have := hP.1 l.length h5
    rw [← e] at this
    omega
  obtain ⟨M', h1, h2, h3⟩ := P_copy hC hne ha (r := P l.length) hfu
  rw [h1, Option.bind_some, nI_1]
  refine ⟨M', rfl, fun x hx => h2 x (fun e => ?_), ?_, fun i b hi => ?_⟩
  · have := hP.1 l.length h5
    rw [← e] at this
    omega
  · rw [List.length_append]; show l.length + 1 ≤ 5; omega
  · by_cases c : i < l.length
    · rw [List.getElem?_append_left c] at hi
      rw [h2 (P i) (fun e => by have := hP.2 i l.length (by omega) h5 e; omega)]
      exact hl.2 i b hi
    · have hi2 := (List.getElem?_eq_some_iff.mp hi).1
      rw [List.length_append] at hi2
      have e : i = l.length := by
        have : [a].length = 1 := rfl
        omega
      subst e
      rw [List.getElem?_append_right (Nat.le_refl _), Nat.sub_self] at hi
      have : a = b := by simpa using hi
      rw [← this]
      exact h3
theorem PL_fr {K R : Type} [Lean.Grind.CommRing K] {cd : K → Int32} {cf : R → Nat → K} {M M' : Fin 20 → Nat → Int32} {P : Nat → Fin 20} (hP : PI P) {l : List R} (h : PL cd cf M P l) (hM : ∀ x : Fin 20, 15 ≤ x.val → M' x = M x) : PL cd cf M' P l := ⟨h.1, fun i a hi => by
  have : i < l.length := (List.getElem?_eq_some_iff.mp hi).1
  rw [hM _ (hP.1 i (by have := h.1; omega))]
  exact h.2 i a hi⟩
theorem PL_set {K R : Type} [Lean.Grind.CommRing K] {cd : K → Int32} {cf : R → Nat → K} {M M' : Fin 20 → Nat → Int32} {P : Nat → Fin 20} (hP : PI P) {l : List R} (h : PL cd cf M P l) {i : Nat} (hi : i < l.length) {b : R} (hb : RW cd (M' (P i)) (cf b)) (hM : ∀ x : Fin 20, 15 ≤ x.val → ¬ x = P i → M' x = M x) : PL cd cf M' P (l.set i b) := by
  have h5 := h.1
  refine ⟨by rw [List.length_set]; exact h5, fun j a hj => ?_⟩
  have hj5 : j < l.length := by
    have := (List.getElem?_eq_some_iff.mp hj).1
    rw [List.length_set] at this
    exact this
  by_cases c : j = i
  · subst c
    rw [List.getElem?_set_self hi] at hj
    rw [← Option.some.inj hj]
    exact hb
  · rw [List.getElem?_set_ne (fun e => c e.symm)] at hj
    rw [hM _ (hP.1 j (by omega)) (fun e => c (hP.2 j i (by omega) (by omega) e))]
    exact h.2 j a hj
