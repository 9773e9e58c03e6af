/-! The class finds all factors of the root: each part is a prime in the end. -/
theorem lp_1 {R : Type} [Lean.Grind.CommRing R] (p : R) : lp [p] = p := by rw [lp_cons, lp_nil]; grind
theorem sing_map {R : Type} [Lean.Grind.CommRing R] : ∀ W : List (List R), (∀ l ∈ W, l.length = 1) → W.map lp = W.flatten ∧ W.flatten.length = W.length := by
  intro W
  induction W with
  | nil => intro _; exact ⟨rfl, rfl⟩
  | cons x W ih =>
    intro h
    obtain ⟨h1, h2⟩ := ih (fun l hl => h l (List.mem_cons_of_mem _ hl))
    obtain ⟨p, rfl⟩ := List.length_eq_one_iff.mp (h x List.mem_cons_self)
    rw [List.map_cons, List.flatten_cons, h1, lp_1]
    exact ⟨rfl, by rw [List.length_append, h2, List.length_cons (a := [p])]; show 1 + W.length = W.length + 1; omega⟩
theorem dd_1 {K R : Type} [Lean.Grind.CommRing K] [Lean.Grind.CommRing R] {cf : R → Nat → K} {deg : R → Nat} {mon : R → Prop} {X : R} {Cc : K → R} {Kl : List R} {q : Nat} (hR : PR cf deg mon X Cc Kl q) {d : Nat} (hd : d = 1 ∨ d = 2) {p : R} (hp : irr deg mon p) (h : dv p (X ^ (q ^ d) - X)) : deg p ≤ d := by
  rcases hd with e | e <;> subst e
  · rw [Nat.pow_one] at h
    rw [lin_of (pr_ax hR) hp h]
    omega
  · rw [Nat.pow_two, pow_mul'] at h
    exact quad_of (pr_ax hR) hp h
theorem dd_2 {K R : Type} [Lean.Grind.CommRing K] [Lean.Grind.CommRing R] {cf : R → Nat → K} {deg : R → Nat} {mon : R → Prop} {X : R} {Cc : K → R} {Kl : List R} {q : Nat} (hR : PR cf deg mon X Cc Kl q) {d : Nat} (hd : d = 1 ∨ d = 2) {p : R} (hp : irr deg mon p) (h : deg p = d) : dv p (X ^ (q ^ d) - X) := by
  rcases hd with e | e <;> subst e
  · rw [Nat.pow_one]
    obtain ⟨r, hr, er⟩ := lin_form (pr_ax hR) hp.1 h
    rw [er]
    exact lin_div (pr_ax hR) hr
  · rw [Nat.pow_two, pow_mul']
    exact quad_div (pr_ax hR) hp h
def FI {K R : Type} [Lean.Grind.CommRing K] [Lean.Grind.CommRing R] (cd : K → Int32) (cf : R → Nat → K) (deg : R → Nat) (P : Nat → Fin 20) (L : List R) (d : Nat) (M : (Fin 20 → Nat → Int32)) (N : (Nat → Int32)) (W : List (List R)) (Lr : List R) : Prop :=
  PL cd cf M P (W.map lp) ∧ N 0 = nI W.length ∧ (∀ l ∈ W, l.length = 1) ∧ (W.flatten ++ Lr).Perm L ∧ (∀ p ∈ Lr, d ≤ deg p) ∧ RW cd (M 12) (cf (lp Lr))
theorem P_fstep {K R : Type} [Lean.Grind.CommRing K] [Lean.Grind.CommRing R] {cd : K → Int32} {E : Nat → Int32} {kk : Int32} {md : Nat → Int32} {mn : Int64} {q k : Nat} {T : K} (hL : FL cd E kk md mn q k T) {cf : R → Nat → K} {deg : R → Nat} {mon : R → Prop} {X : R} {Cc : K → R} {Kl : List R} (hR : PR cf deg mon X Cc Kl q) {d : Nat} (hd : d = 1 ∨ d = 2) {P : Nat → Fin 20} (hP : PI P) {L : List R} (hL1 : ∀ p ∈ L, irr deg mon p) (hL2 : L.Nodup) (hdu : deg (lp L) ≤ 5) {M : (Fin 20 → Nat → Int32)} {N : (Nat → Int32)} {W : List (List R)} {Lr : List R} (h : FI cd cf deg P L d M N W Lr) (hr : 1 ≤ deg (lp Lr)) {fu : Nat} (hfu : 1030400 ≤ fu) : ∃ M1 N1 M' N' W' Lr', f_X3_collect fu M E P N (nI d) = some (M1, N1) ∧ f_X3_separate fu M1 E P N1 (N 0) (nI d) = some (M', N') ∧ FI cd cf deg P L (d + 1) M' N' W' Lr' ∧ (∀ j, ¬ j = 0 → N' j = N j) ∧ M' 0 = M 0 ∧ M' 11 = M 11 := by
  have hE := pr_eu hR
  obtain ⟨h1, h2, h3, h4, h5, h6⟩ := h
  have hLr : ∀ p ∈ Lr, irr deg mon p := fun p hp => hL1 p (h4.mem_iff.mp (List.mem_append.mpr (Or.inr hp)))
  have hnd := h4.symm.nodup hL2
  rw [List.nodup_append] at hnd
  have hlen := lp_len hE hL1
  have hl4 := h4.length_eq
  rw [List.length_append, (sing_map W h3).2] at hl4
  have hLr0 : 0 < Lr.length := by
    cases Lr with
    | nil => rw [lp_nil, hE.2.2.2.2.1.2.2] at hr; omega
    | cons x l => rw [List.length_cons]; omega
  have hdr : deg (lp Lr) ≤ 5 := by
    have := (lp_deg5 hE hL1 h4.symm).1
    omega
  obtain ⟨M1, N1, W1, l1, l2, c1, c2, c3, c4, c5, c6, c7, c8, c9, c10, c11⟩ := P_coll hL hR hd hP h1 h2 (by omega) hLr hnd.2.1 h6 hr hdr (show 42 ≤ fu by omega)
  have fl : W1.flatten.Perm (W.flatten ++ l1) := by
    rcases c6 with ⟨e, e1⟩ | ⟨e, _⟩
    · rw [e, e1, List.append_nil]
    · rw [e, List.flatten_append]; simp
  have pm1 : (W1.flatten ++ l2).Perm L := by
    refine List.Perm.trans (List.Perm.append_right l2 fl) ?_
    rw [List.append_assoc]
    exact List.Perm.trans (List.Perm.append_left _ c2.symm) h4
  obtain ⟨ds, i1, i2⟩ := lp_deg5 hE hL1 pm1.symm
  have nd1 := pm1.symm.nodup hL2
  rw [List.nodup_append] at nd1
  have pre : W.length ≤ W1.length := by
    rcases c6 with ⟨e, _⟩ | ⟨e, _⟩ <;> rw [e]
    · exact Nat.le_refl _
    · rw [List.length_append]; omega
  have deg1 : ∀ p ∈ l1, deg p = d := fun p hp => by
    have hpL : p ∈ Lr := c2.mem_iff.mpr (List.mem_append.mpr (Or.inl hp))
    have a := dd_1 hR hd (hLr p hpL) (c3 p hp)
    have b := h5 p hpL
    omega
  have hws : WS deg W1 W1.flatten W.length d := by
    refine ⟨fun l hl => ?_, List.Perm.refl _, fun j l hj hl p hp => ?_⟩
    · rcases c6 with ⟨e, _⟩ | ⟨e, e1⟩
      · rw [e] at hl
        have := h3 l hl
        exact fun q => by rw [q] at this; simp at this
      · rw [e] at hl
        rcases List.mem_append.mp hl with q | q
        · have := h3 l q
          exact fun q => by rw [q] at this; simp at this
        · rw [List.mem_singleton.mp q]; exact e1
    · rcases c6 with ⟨e, _⟩ | ⟨e, e1⟩
      · rw [e, List.getElem?_eq_none hj] at hl
        cases hl
      · rw [e, List.getElem?_append_right hj] at hl
        have : l ∈ [l1] := List.mem_of_getElem? hl
        rw [List.mem_singleton.mp this] at hp
        exact deg1 p hp
  obtain ⟨M', N', W', s1, s2, s3⟩ := P_sep hL hR hd hP (L := W1.flatten) i1 nd1.1 (by omega) (first := W.length) pre hws c7 c8 hfu
  rw [← h2] at s1
  refine ⟨M1, N1, M', N', W', l2, c1, s1, ⟨s2.2.1, s2.2.2.1, fun l hl => ?_, List.Perm.trans (List.Perm.append_right l2 s2.1.2.1) pm1, fun p hp => ?_, ?_⟩, fun j hj => by rw [s2.2.2.2.1 j hj, c9 j hj], ?_, ?_⟩
  · have l0 : 0 < l.length := List.length_pos_iff.mpr (s2.1.1 l hl)
    obtain ⟨j, hj⟩ := List.mem_iff_getElem?.mp hl
    by_cases c : j < W.length
    · have := s2.2.2.2.2.2.1 j c
      rw [hj] at this
      have e1 : W1[j]? = W[j]? := by
        rcases c6 with ⟨e, _⟩ | ⟨e, _⟩ <;> rw [e]
        rw [List.getElem?_append_left c]
      rw [e1] at this
      exact h3 l (List.mem_of_getElem? this.symm)
    · have := s3 j l (by omega) hj
      omega
  · have hpL : p ∈ Lr := c2.mem_iff.mpr (List.mem_append.mpr (Or.inr hp))
    have a := h5 p hpL
    have b : ¬ deg p = d := fun q => c4 p hp (dd_2 hR hd (hLr p hpL) q)
    omega
  · rw [s2.2.2.2.2.2.2 12 (by decide)]; exact c5
  · rw [s2.2.2.2.2.2.2 0 (by decide), c10]
  · rw [s2.2.2.2.2.2.2 11 (by decide), c11]
theorem P_floop {K R : Type} [Lean.Grind.CommRing K] [Lean.Grind.CommRing R] {cd : K → Int32} {E : Nat → Int32} {kk : Int32} {md : Nat → Int32} {mn : Int64} {q k : Nat} {T : K} (hL : FL cd E kk md mn q k T) {cf : R → Nat → K} {deg : R → Nat} {mon : R → Prop} {X : R} {Cc : K → R} {Kl : List R} (hR : PR cf deg mon X Cc Kl q) {P : Nat → Fin 20} (hP : PI P) {L : List R} (hL1 : ∀ p ∈ L, irr deg mon p) (hL2 : L.Nodup) (hdu : deg (lp L) ≤ 5) (C : (Nat → Int32)) (x2 : Fin 20) (kc : Int32 → (Fin 20 → Nat → Int32) → (Nat → Int32) → Option ((Fin 20 → Nat → Int32) × (Nat → Fin 20) × (Nat → Int32) × (Nat → Int32))) (fu : Nat) (hfu : 1030400 ≤ fu) : ∀ (e d n : Nat) (M : (Fin 20 → Nat → Int32)) (N : (Nat → Int32)) (W : List (List R)) (Lr : List R), e + d = 3 → 1 ≤ d → FI cd cf deg P L d M N W Lr → e < n → ∃ y d' M' N' W' Lr', f_X3_find_l41 kc fu E P C x2 n (nI d) M N = kc y M' N' ∧ FI cd cf deg P L d' M' N' W' Lr' ∧ Lr'.length ≤ 1 ∧ (∀ j, ¬ j = 0 → N' j = N j) ∧ M' 0 = M 0 ∧ M' 11 = M 11 := by
  have hE := pr_eu hR
  have out : ∀ (d n : Nat) (M : (Fin 20 → Nat → Int32)) (N : (Nat → Int32)) (W : List (List R)) (Lr : List R), d ≤ 3 → FI cd cf deg P L d M N W Lr → deg (lp Lr) < 2 * d → 0 < n → ∃ y d' M' N' W' Lr', f_X3_find_l41 kc fu E P C x2 n (nI d) M N = kc y M' N' ∧ FI cd cf deg P L d' M' N' W' Lr' ∧ Lr'.length ≤ 1 ∧ (∀ j, ¬ j = 0 → N' j = N j) ∧ M' 0 = M 0 ∧ M' 11 = M 11 := by
    intro d n M N W Lr hd h hlt hn
    obtain ⟨n, rfl⟩ : ∃ n', n = n' + 1 := ⟨n - 1, by omega⟩
    have hLr : ∀ p ∈ Lr, irr deg mon p := fun p hp => hL1 p (h.2.2.2.1.mem_iff.mp (List.mem_append.mpr (Or.inr hp)))
    have mr := lp_monI hE hLr
    refine ⟨nI d, d, M, N, W, Lr, ?_, h, ?_, fun _ _ => rfl, rfl, rfl⟩
    · rw [f_X3_find_l41, if_neg (show ¬ (5 : Int32) < nI d from nI_nlt (a := 5) (by omega) (by decide)), P_deg hL.1 h.2.2.2.2.2 (by omega), Option.bind_some, (pr_mo hR mr).2, dI_s, show (2 : Int32) = nI 2 from rfl, pk_mul, if_pos (nI_lt hlt (by omega))]
    · have := lp_deg hE (d := d) Lr (fun p hp => ⟨hLr p hp, h.2.2.2.2.1 p hp⟩)
      by_cases c : Lr.length ≤ 1
      · exact c
      · have : d * 2 ≤ d * Lr.length := Nat.mul_le_mul_left _ (by omega)
        omega
  intro e
  induction e with
  | zero =>
    intro d n M N W Lr hd hd1 h hn
    have hd3 : d = 3 := by omega
    subst hd3
    refine out 3 n M N W Lr (by omega) h ?_ hn
    have := (lp_deg5 hE hL1 h.2.2.2.1.symm).1
    omega
  | succ e ih =>
    intro d n M N W Lr hd hd1 h hn
    by_cases c : deg (lp Lr) < 2 * d
    · exact out d n M N W Lr (by omega) h c (by omega)
    · obtain ⟨n, rfl⟩ : ∃ n', n = n' + 1 := ⟨n - 1, by omega⟩
      have hLr : ∀ p ∈ Lr, irr deg mon p := fun p hp => hL1 p (h.2.2.2.1.mem_iff.mp (List.mem_append.mpr (Or.inr hp)))
      have mr := lp_monI hE hLr
      have hdr := (lp_deg5 hE hL1 h.2.2.2.1.symm).1
      obtain ⟨M1, N1, M', N', W', Lr', s1, s2, s3, s4, s5, s6⟩ := P_fstep hL hR (d := d) (by omega) hP hL1 hL2 hdu h (by omega) hfu
      have i2 : (2 : Int32) * nI d = nI (2 * d) := by rw [show (2 : Int32) = nI 2 from rfl, pk_mul]
      rw [f_X3_find_l41, if_neg (show ¬ (5 : Int32) < nI d from nI_nlt (a := 5) (by omega) (by decide)), P_deg hL.1 h.2.2.2.2.2 (by omega), Option.bind_some, (pr_mo hR mr).2, dI_s, i2, if_neg (nI_nlt (by omega) (by omega))]
      simp only [nm]
      rw [s1, Option.bind_some]
      show ∃ y d' M' N' W' Lr', (f_X3_separate fu M1 E P N1 (N 0) (nI d)).bind (fun u15 => f_X3_find_l41 kc fu E P C x2 n (nI d + 1) u15.1 u15.2) = kc y M' N' ∧ _
      rw [s2, Option.bind_some, nI_1]
      obtain ⟨y, d', M2, N2, W2, L2, t1, t2, t3, t4, t5, t6⟩ := ih (d + 1) n M' N' W' Lr' (by omega) (by omega) s3 (by omega)
      exact ⟨y, d', M2, N2, W2, L2, t1, t2, t3, fun j hj => by rw [t4 j hj, s4 j hj], by rw [t5, s5], by rw [t6, s6]⟩
/-- the rest, if there is one, is the last -/
theorem P_flast {K R : Type} [Lean.Grind.CommRing K] [Lean.Grind.CommRing R] {cd : K → Int32} {E : Nat → Int32} {kk : Int32} {md : Nat → Int32} {mn : Int64} {q k : Nat} {T : K} (hL : FL cd E kk md mn q k T) {cf : R → Nat → K} {deg : R → Nat} {mon : R → Prop} {X : R} {Cc : K → R} {Kl : List R} (hR : PR cf deg mon X Cc Kl q) {P : Nat → Fin 20} (hP : PI P) {L : List R} (hL1 : ∀ p ∈ L, irr deg mon p) (hdu : deg (lp L) ≤ 5) {d : Nat} {M : (Fin 20 → Nat → Int32)} {N : (Nat → Int32)} {W : List (List R)} {Lr : List R} (h : FI cd cf deg P L d M N W Lr) (h1 : Lr.length ≤ 1) {fu : Nat} (hfu : 17 ≤ fu) : ∃ u20 M' N' ps, f_X2_degree fu M 12 = some u20 ∧ (if u20 ≤ 0 then some (M, N) else (f_X3_add fu M P N (12 : Fin 20)).bind (fun u24 => some (u24.1, u24.2)) : Option ((Fin 20 → Nat → Int32) × (Nat → Int32))) = some (M', N') ∧ ps.Perm L ∧ PL cd cf M' P ps ∧ N' 0 = nI ps.length ∧ (∀ j, ¬ j = 0 → N' j = N j) ∧ M' 0 = M 0 ∧ M' 11 = M 11 := by
  have hE := pr_eu hR
  obtain ⟨g1, g2, g3, g4, g5, g6⟩ := h
  have hLr : ∀ p ∈ Lr, irr deg mon p := fun p hp => hL1 p (g4.mem_iff.mp (List.mem_append.mpr (Or.inr hp)))
  have mr := lp_monI hE hLr
  obtain ⟨w1, w2⟩ := sing_map W g3
  have hlen := lp_len hE hL1
  have hl4 := g4.length_eq
  rw [List.length_append, w2] at hl4
  refine ⟨dI (sq (cf (lp Lr))), ?_⟩
  rw [P_deg hL.1 g6 hfu]
  match Lr, h1 with
  | [], _ =>
    refine ⟨M, N, W.flatten, rfl, ?_, by rw [List.append_nil] at g4; exact g4, by rw [← w1]; exact g1, by rw [w2]; exact g2, fun _ _ => rfl, rfl, rfl⟩
    rw [if_pos]
    refine Int32.not_lt.mp (fun q => ?_)
    have := (dI_0lt hR g6.1).mp q
    rw [lp_nil, hE.2.2.2.2.1.2.2] at this
    omega
  | [p], _ =>
    have hp := hLr p List.mem_cons_self
    have l1 : [p].length = 1 := rfl
    obtain ⟨M', m1, m2, m3⟩ := P_addp hL.1 hP g1 (N := N) (by rw [List.length_map]; exact g2) (by rw [List.length_map]; omega) (r := 12) (by decide) g6 hfu
    refine ⟨M', va_up N 0 (nI ((W.map lp).length + 1)), W.flatten ++ [p], rfl, ?_, g4, ?_, ?_, fun j hj => va_up_ne _ _ hj, m2 0 (by decide), m2 11 (by decide)⟩
    · rw [if_neg, m1]
      · rfl
      · refine Int32.not_le.mpr ((dI_0lt hR g6.1).mpr ?_)
        rw [lp_1]
        exact hp.2.1
    · rw [w1, lp_1] at m3
      exact m3
    · rw [va_up_self, List.length_map, List.length_append, w2]; rfl
