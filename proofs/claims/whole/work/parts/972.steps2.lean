/-! Shift, factors, factor, often, splitting, take. -/
/-- both have found the same -/
def BO {K R : Type} [Lean.Grind.CommRing K] [Lean.Grind.CommRing R] (cd : K → Int32) (cf : R → Nat → K) (deg : R → Nat) (mon : R → Prop) (D : R → R) (M : (Fin 20 → Nat → Int32)) (P : Nat → Fin 20) (C N : (Nat → Int32)) (rw dg : (Nat → Int32)) (fc : Int32) (oft : (Nat → Int32)) (f : R) (r : R) (ps : List R) : Prop :=
  RT mon D f r ∧ RW cd (M 11) (cf r) ∧ FP cd cf deg mon r ps ∧ (PL cd cf M P ps ∧ N 0 = nI ps.length ∧ ∀ i p, ps[i]? = some p → ∃ m, MLT f p m ∧ C i = nI m) ∧ (PF cd cf rw dg ps ∧ fc = nI ps.length ∧ ∀ i p, ps[i]? = some p → ∃ m, MLT f p m ∧ oft i = nI m)
theorem bo_of {K R : Type} [Lean.Grind.CommRing K] [Lean.Grind.CommRing R] {cf : R → Nat → K} {deg : R → Nat} {mon : R → Prop} {X : R} {Cc : K → R} {Kl : List R} {q : Nat} (hR : PR cf deg mon X Cc Kl q) {cd : K → Int32} {D : R → R} {M : (Fin 20 → Nat → Int32)} {P : Nat → Fin 20} {C N : (Nat → Int32)} {rw dg : (Nat → Int32)} {fc : Int32} {oft : (Nat → Int32)} {f : R} (f0 : ¬ f = 0) (h : FD cd cf deg mon D M P C N f) (h' : FDR cd cf deg mon D rw dg fc oft f) : ∃ r ps, BO cd cf deg mon D M P C N rw dg fc oft f r ps := by
  have hE := pr_eu hR
  obtain ⟨r, ps, a1, a2, a3, a4, a5, a6⟩ := h
  obtain ⟨r', ps', b1, b2, b3, b4, b5, b6⟩ := h'
  have er := rt_uni hE f0 a1 b1
  rw [← er] at b2
  have ep := fp_uni hE a3 b2
  rw [← ep] at b3 b4 b5 b6
  exact ⟨r, ps, a1, a2, a3, ⟨a4, a5, a6⟩, b3, b5, b6⟩
theorem S_find {K R : Type} [Lean.Grind.CommRing K] [Lean.Grind.CommRing R] {cd : K → Int32} {E : Nat → Int32} {kk : Int32} {md : Nat → Int32} {mn : Int64} {q k : Nat} {T : K} {cf : R → Nat → K} {deg : R → Nat} {mon : R → Prop} {X : R} {Cc : K → R} {Kl : List R} {D F : R → R} {M : Fin 20 → Nat → Int32} {P : Nat → Fin 20} {C N : Nat → Int32} {rw dg : Nat → Int32} {kn fc : Int32} {oft : Nat → Int32} {f : R} (h : IN cd E kk md mn q k T cf deg mon X Cc Kl D F M P C N rw dg kn fc oft f) (f0 : ¬ f = 0) {fu : Nat} (hfu : 20000000 ≤ fu) : ∃ M' P' C' N', f_X3_find fu M E P C N 0 = some (M', P', C', N') ∧ FD cd cf deg mon D M' P' C' N' f ∧ IN cd E kk md mn q k T cf deg mon X Cc Kl D F M' P' C' N' rw dg kn fc oft f := by
  have h0 := h
  obtain ⟨⟨hL, hR, hD, hM⟩, hmd, hP, hf, hr, hs, hN, hkn⟩ := h
  rcases hN with q | ⟨q, q2, q3⟩
  · obtain ⟨M', P', C', N', a1, a2, a3, a4, a5⟩ := P_find hL hR hD hP C hf f0 hs q (show 1030400 ≤ fu by omega)
    exact ⟨M', P', C', N', a1, a5, ⟨hL, hR, hD, hM⟩, hmd, a3, by rw [a2]; exact hf, hr, hs, Or.inr ⟨a4, f0, a5⟩, hkn⟩
  · refine ⟨M, P, C, N, ?_, q3, h0⟩
    unfold f_X3_find
    rw [if_neg (by rw [q]; decide)]
theorem S_rfac {K R : Type} [Lean.Grind.CommRing K] [Lean.Grind.CommRing R] {cd : K → Int32} {E : Nat → Int32} {kk : Int32} {md : Nat → Int32} {mn : Int64} {q k : Nat} {T : K} {cf : R → Nat → K} {deg : R → Nat} {mon : R → Prop} {X : R} {Cc : K → R} {Kl : List R} {D F : R → R} {M : Fin 20 → Nat → Int32} {P : Nat → Fin 20} {C N : Nat → Int32} {rw dg : Nat → Int32} {kn fc : Int32} {oft : Nat → Int32} {f : R} (h : IN cd E kk md mn q k T cf deg mon X Cc Kl D F M P C N rw dg kn fc oft f) (f0 : ¬ f = 0) {fu : Nat} (hfu : 20000000 ≤ fu) : ∃ rw' dg' fc' oft', f_X5_factorise fu kk mn md rw dg kn fc oft = some (rw', dg', 1, fc', oft') ∧ FDR cd cf deg mon D rw' dg' fc' oft' f ∧ IN cd E kk md mn q k T cf deg mon X Cc Kl D F M P C N rw' dg' 1 fc' oft' f := by
  have h0 := h
  obtain ⟨⟨hL, hR, hD, hM⟩, hmd, hP, hf, hr, hs, hN, hkn⟩ := h
  rcases hkn with q | ⟨q, q2, q3⟩
  · obtain ⟨rw', dg', fc', oft', a1, a2, a3⟩ := P_rfact hL hR hD fc oft hr f0 hs hfu
    rw [q]
    exact ⟨rw', dg', fc', oft', a1, a2, ⟨hL, hR, hD, hM⟩, hmd, hP, hf, RX_fr a3 (by decide) hr, hs, hN, Or.inr ⟨rfl, f0, a2⟩⟩
  · refine ⟨rw, dg, fc, oft, ?_, q3, ?_⟩
    · unfold f_X5_factorise
      rw [if_neg (by rw [q]; decide), q]
    · rw [q] at h0
      exact h0
theorem S_both {K R : Type} [Lean.Grind.CommRing K] [Lean.Grind.CommRing R] {cd : K → Int32} {E : Nat → Int32} {kk : Int32} {md : Nat → Int32} {mn : Int64} {q k : Nat} {T : K} {cf : R → Nat → K} {deg : R → Nat} {mon : R → Prop} {X : R} {Cc : K → R} {Kl : List R} {D F : R → R} {M : Fin 20 → Nat → Int32} {P : Nat → Fin 20} {C N : Nat → Int32} {rw dg : Nat → Int32} {kn fc : Int32} {oft : Nat → Int32} {f : R} (h : IN cd E kk md mn q k T cf deg mon X Cc Kl D F M P C N rw dg kn fc oft f) (f0 : ¬ f = 0) {fu : Nat} (hfu : 20000000 ≤ fu) : ∃ M' P' C' N' rw' dg' fc' oft' r ps, f_X3_find fu M E P C N 0 = some (M', P', C', N') ∧ f_X5_factorise fu kk mn md rw dg kn fc oft = some (rw', dg', 1, fc', oft') ∧ IN cd E kk md mn q k T cf deg mon X Cc Kl D F M' P' C' N' rw' dg' 1 fc' oft' f ∧ IN cd E kk md mn q k T cf deg mon X Cc Kl D F M P C N rw' dg' 1 fc' oft' f ∧ BO cd cf deg mon D M' P' C' N' rw' dg' fc' oft' f r ps := by
  obtain ⟨rw', dg', fc', oft', b1, b2, b3⟩ := S_rfac h f0 hfu
  obtain ⟨M', P', C', N', a1, a2, a3⟩ := S_find b3 f0 hfu
  obtain ⟨r, ps, e⟩ := bo_of h.1.2.1 f0 a2 b2
  exact ⟨M', P', C', N', rw', dg', fc', oft', r, ps, a1, b1, a3, b3, e⟩
theorem S_factors {K R : Type} [Lean.Grind.CommRing K] [Lean.Grind.CommRing R] {cd : K → Int32} {E : Nat → Int32} {kk : Int32} {md : Nat → Int32} {mn : Int64} {q k : Nat} {T : K} {cf : R → Nat → K} {deg : R → Nat} {mon : R → Prop} {X : R} {Cc : K → R} {Kl : List R} {D F : R → R} {M : Fin 20 → Nat → Int32} {P : Nat → Fin 20} {C N : Nat → Int32} {rw dg : Nat → Int32} {kn fc : Int32} {oft : Nat → Int32} {f : R} (h : IN cd E kk md mn q k T cf deg mon X Cc Kl D F M P C N rw dg kn fc oft f) (th : Int32) {fu : Nat} (hfu : 20000000 ≤ fu) : (∃ w M' P' C' N' rw' dg' kn' fc' oft', f_X4_factors fu M E P C N = some (.inr (w, M', P', C', N')) ∧ f_X5_factors fu th kk mn md rw dg kn fc oft = some (w, 0, rw', dg', kn', fc', oft') ∧ IN cd E kk md mn q k T cf deg mon X Cc Kl D F M' P' C' N' rw' dg' kn' fc' oft' f) ∨ (f_X4_factors fu M E P C N = some (.inl ("java/lang/IllegalStateException", M, P, C, N)) ∧ f_X5_factors fu th kk mn md rw dg kn fc oft = some (0, 1, rw, dg, kn, fc, oft)) := by
  unfold f_X4_factors f_X5_factors
  rcases so_cases h (show 17 ≤ fu by omega) with ⟨f0, e1, e2⟩ | ⟨f0, e1, e2⟩
  · obtain ⟨M', P', C', N', rw', dg', fc', oft', r, ps, a1, a2, a3, _, a4⟩ := S_both h f0 hfu
    refine Or.inl ⟨nI ps.length, M', P', C', N', rw', dg', 1, fc', oft', ?_, ?_, a3⟩
    · rw [e1, tb_r, a1, Option.bind_some]
      show some (Sum.inr (N' 0, M', P', C', N')) = _
      rw [a4.2.2.2.1.2.1]
    · rw [e2, Option.bind_some, fa_00, Option.bind_some, if_pos rfl, a2, Option.bind_some]
      show some (fc', (0 : Int32), rw', dg', (1 : Int32), fc', oft') = _
      rw [a4.2.2.2.2.2.1]
  · rw [e1, e2, tb_l, Option.bind_some, fa_1, Option.bind_some, if_neg n1_0]
    exact Or.inr ⟨rfl, rfl⟩
theorem S_splitting {K R : Type} [Lean.Grind.CommRing K] [Lean.Grind.CommRing R] {cd : K → Int32} {E : Nat → Int32} {kk : Int32} {md : Nat → Int32} {mn : Int64} {q k : Nat} {T : K} {cf : R → Nat → K} {deg : R → Nat} {mon : R → Prop} {X : R} {Cc : K → R} {Kl : List R} {D F : R → R} {M : Fin 20 → Nat → Int32} {P : Nat → Fin 20} {C N : Nat → Int32} {rw dg : Nat → Int32} {kn fc : Int32} {oft : Nat → Int32} {f : R} (h : IN cd E kk md mn q k T cf deg mon X Cc Kl D F M P C N rw dg kn fc oft f) (th : Int32) {fu : Nat} (hfu : 20000000 ≤ fu) : (∃ w M' P' C' N' rw' dg' kn' fc' oft', f_X4_splitting fu M E P C N = some (.inr (w, M', P', C', N')) ∧ f_X5_splitting fu th kk mn md rw dg kn fc oft = some (w, 0, rw', dg', kn', fc', oft') ∧ IN cd E kk md mn q k T cf deg mon X Cc Kl D F M' P' C' N' rw' dg' kn' fc' oft' f) ∨ (f_X4_splitting fu M E P C N = some (.inl ("java/lang/IllegalStateException", M, P, C, N)) ∧ f_X5_splitting fu th kk mn md rw dg kn fc oft = some (0, 1, rw, dg, kn, fc, oft)) := by
  have hR := h.1.2.1
  have hE := pr_eu hR
  have hC := h.1.1.1
  unfold f_X4_splitting f_X5_splitting
  rcases so_cases h (show 17 ≤ fu by omega) with ⟨f0, e1, e2⟩ | ⟨f0, e1, e2⟩
  · obtain ⟨M', P', C', N', rw', dg', fc', oft', r, ps, a1, a2, a3, _, a4⟩ := S_both h f0 hfu
    have dps : ∀ p ∈ ps, irr deg mon p ∧ deg p ≤ 5 := fun p hp => by
      refine ⟨a4.2.2.1.1 p hp, ?_⟩
      obtain ⟨L, l1, l2, l3, l4⟩ := rt_list hE hR.1.2.1 (pr_lei hR h.1.2.2.1) f0 a4.1
      have hd := dv_deg hE (hE.2.2.2.2.2.2.1 _ (lp_monI hE a4.2.2.1.1)) (lp_mem ps hp)
      rw [a4.2.2.1.2.1] at hd
      have := pr_sq hR f0
      have := h.2.2.2.2.2.1
      omega
    obtain ⟨n, n1, n2⟩ := P_comd hC hR dps a4.2.2.2.1.1 a4.2.2.2.1.2.1 (show 62 ≤ fu by omega)
    obtain ⟨n', y, m1, m2⟩ := P_rcom_o hR dps a4.2.2.2.1.1.1 a4.2.2.2.2.1 (fun y21 y22 => some (y21, (0 : Int32), rw', dg', (1 : Int32), fc', oft')) fu (by omega) 0 kk mn md 1 oft' 59 1 fu 1 n1_0 (by omega) (by omega) (fun j h1 h2 => by omega) (by omega)
    have en := cdg_uni n1 m1
    refine Or.inl ⟨nI n, M', P', C', N', rw', dg', 1, fc', oft', ?_, ?_, a3⟩
    · rw [e1, tb_r, a1, Option.bind_some]
      show (f_X3_commonDegree fu M' P' N').bind _ = _
      rw [n2, Option.bind_some]
    · rw [e2, Option.bind_some, fa_00, Option.bind_some, if_pos rfl, a2, Option.bind_some]
      rw [← a4.2.2.2.2.2.1] at m2
      rw [en]
      exact m2
  · rw [e1, e2, tb_l, Option.bind_some, fa_1, Option.bind_some, if_neg n1_0]
    exact Or.inr ⟨rfl, rfl⟩
theorem fc_cases (N : (Nat → Int32)) {fc : Int32} {n : Nat} (hn : n ≤ 5) (h1 : N 0 = nI n) (h2 : fc = nI n) (p : Int32) : (∃ i, i < n ∧ p = nI i ∧ f_X4_requireFactor N p = some (.inr ()) ∧ ¬ p < 0 ∧ p < fc) ∨ (f_X4_requireFactor N p = some (.inl "java/lang/IndexOutOfBoundsException") ∧ (p < 0 ∨ (¬ p < 0 ∧ ¬ p < fc))) := by
  unfold f_X4_requireFactor
  by_cases c : p < 0
  · rw [if_pos c]; exact Or.inr ⟨rfl, Or.inl c⟩
  · rw [if_neg c, h1, h2]
    obtain ⟨j, hj, rfl⟩ := nI_of c
    by_cases c2 : j < n
    · have e := nI_lt c2 (show n < 2 ^ 31 by omega)
      rw [if_pos e]
      exact Or.inl ⟨j, c2, rfl, rfl, c, e⟩
    · have e : ¬ nI j < nI n := nI_nlt (by omega) hj
      rw [if_neg e]
      exact Or.inr ⟨rfl, Or.inr ⟨c, e⟩⟩
/-- what the reference finds lacking -/
theorem S_lacks {kk : Int32} {mn : Int64} {md : (Nat → Int32)} {rw dg : (Nat → Int32)} {kn fc : Int32} {oft : (Nat → Int32)} {fu : Nat} {rw' dg' : (Nat → Int32)} {fc' : Int32} {oft' : (Nat → Int32)} (e2 : f_X5_isNothing dg = some 0) (h : f_X5_factorise fu kk mn md rw dg kn fc oft = some (rw', dg', 1, fc', oft')) (p : Int32) : f_X5_lacks fu kk mn md rw dg kn fc oft p = some (if p < 0 then 1 else if p < fc' then 0 else 1, rw', dg', 1, fc', oft') := by
  unfold f_X5_lacks
  rw [e2, Option.bind_some, if_pos rfl, h, Option.bind_some]
  show (if p < 0 then some ((1 : Int32), rw', dg', (1 : Int32), fc', oft') else (if p < fc' then some (0, rw', dg', 1, fc', oft') else some (1, rw', dg', 1, fc', oft'))) = _
  by_cases c : p < 0
  · rw [if_pos c, if_pos c]
  · rw [if_neg c, if_neg c]
    by_cases c2 : p < fc'
    · rw [if_pos c2, if_pos c2]
    · rw [if_neg c2, if_neg c2]
theorem S_lack1 {rw dg : (Nat → Int32)} {kk : Int32} {mn : Int64} {md : (Nat → Int32)} {kn fc : Int32} {oft : (Nat → Int32)} {fu : Nat} (e2 : f_X5_isNothing dg = some 1) (p : Int32) : f_X5_lacks fu kk mn md rw dg kn fc oft p = some (0, rw, dg, kn, fc, oft) := by
  unfold f_X5_lacks
  rw [e2, Option.bind_some, if_neg n1_0]
theorem S_often {K R : Type} [Lean.Grind.CommRing K] [Lean.Grind.CommRing R] {cd : K → Int32} {E : Nat → Int32} {kk : Int32} {md : Nat → Int32} {mn : Int64} {q k : Nat} {T : K} {cf : R → Nat → K} {deg : R → Nat} {mon : R → Prop} {X : R} {Cc : K → R} {Kl : List R} {D F : R → R} {M : Fin 20 → Nat → Int32} {P : Nat → Fin 20} {C N : Nat → Int32} {rw dg : Nat → Int32} {kn fc : Int32} {oft : Nat → Int32} {f : R} (h : IN cd E kk md mn q k T cf deg mon X Cc Kl D F M P C N rw dg kn fc oft f) (th p : Int32) {fu : Nat} (hfu : 20000000 ≤ fu) : ∃ M' P' C' N' rw' dg' kn' fc' oft', IN cd E kk md mn q k T cf deg mon X Cc Kl D F M' P' C' N' rw' dg' kn' fc' oft' f ∧ ((∃ w, f_X4_often fu M E P C N p = some (.inr (w, M', P', C', N')) ∧ f_X5_often fu th kk mn md rw dg kn fc oft p = some (w, 0, rw', dg', kn', fc', oft')) ∨ (f_X4_often fu M E P C N p = some (.inl ("java/lang/IllegalStateException", M', P', C', N')) ∧ f_X5_often fu th kk mn md rw dg kn fc oft p = some (0, 1, rw', dg', kn', fc', oft')) ∨ (f_X4_often fu M E P C N p = some (.inl ("java/lang/IndexOutOfBoundsException", M', P', C', N')) ∧ f_X5_often fu th kk mn md rw dg kn fc oft p = some (0, 2, rw', dg', kn', fc', oft'))) := by
  have hE := pr_eu h.1.2.1
  unfold f_X4_often f_X5_often
  rcases so_cases h (show 17 ≤ fu by omega) with ⟨f0, e1, e2⟩ | ⟨f0, e1, e2⟩
  · obtain ⟨M', P', C', N', rw', dg', fc', oft', r, ps, a1, a2, a3, _, a4⟩ := S_both h f0 hfu
    have h5 := a4.2.2.2.1.1.1
    refine ⟨M', P', C', N', rw', dg', 1, fc', oft', a3, ?_⟩
    rw [e1, tb_r, a1, Option.bind_some, e2, Option.bind_some, S_lacks e2 a2 p, Option.bind_some]
    rcases fc_cases N' h5 a4.2.2.2.1.2.1 a4.2.2.2.2.2.1 p with ⟨i, hi, rfl, g1, g2, g3⟩ | ⟨g1, g2⟩
    · obtain ⟨pi, hpi⟩ : ∃ x, ps[i]? = some x := ⟨ps[i]'hi, List.getElem?_eq_getElem hi⟩
      obtain ⟨m, m1, m2⟩ := a4.2.2.2.1.2.2 i pi hpi
      obtain ⟨m', m3, m4⟩ := a4.2.2.2.2.2.2 i pi hpi
      have em := mlt_uni hE (a4.2.2.1.1 pi (List.mem_of_getElem? hpi)) m1 m3
      refine Or.inl ⟨nI m, ?_, ?_⟩
      · show tb (f_X4_requireFactor N' (nI i)) _ _ = _
        rw [g1, tb_r]
        show (f_X3_timesOf C' (nI i)).bind _ = _
        unfold f_X3_timesOf
        rw [if_neg g2, if_neg (show ¬ (5 : Int32) ≤ nI i from nI_ge (b := 5) (by omega) (by decide)), if_neg (nI_in (by omega) (by decide)), Option.bind_some, nI_clamp (by omega), m2]
      · rw [if_neg g2, if_pos g3, fa_00, Option.bind_some, if_pos rfl, if_neg (nI_in (by omega) (by decide)), nI_clamp (by omega)]
        show some (oft' i, (0 : Int32), rw', dg', (1 : Int32), fc', oft') = _
        rw [m4, em]
    · refine Or.inr (Or.inr ⟨?_, ?_⟩)
      · show tb (f_X4_requireFactor N' p) _ _ = _
        rw [g1, tb_l]
      · have ec : (if p < 0 then (1 : Int32) else if p < fc' then 0 else 1) = 1 := by
          rcases g2 with g | ⟨g, g'⟩
          · rw [if_pos g]
          · rw [if_neg g, if_neg g']
        rw [ec, fa_01, Option.bind_some, if_neg n1_0]
  · rw [e1, e2, tb_l, Option.bind_some, S_lack1 e2 p, Option.bind_some, fa_1, Option.bind_some, if_neg n1_0]
    exact ⟨M, P, C, N, rw, dg, kn, fc, oft, h, Or.inr (Or.inl ⟨rfl, rfl⟩)⟩
theorem S_factor {K R : Type} [Lean.Grind.CommRing K] [Lean.Grind.CommRing R] {cd : K → Int32} {E : Nat → Int32} {kk : Int32} {md : Nat → Int32} {mn : Int64} {q k : Nat} {T : K} {cf : R → Nat → K} {deg : R → Nat} {mon : R → Prop} {X : R} {Cc : K → R} {Kl : List R} {D F : R → R} {M : Fin 20 → Nat → Int32} {P : Nat → Fin 20} {C N : Nat → Int32} {rw dg : Nat → Int32} {kn fc : Int32} {oft : Nat → Int32} {f : R} (h : IN cd E kk md mn q k T cf deg mon X Cc Kl D F M P C N rw dg kn fc oft f) (th p s : Int32) {fu : Nat} (hfu : 20000000 ≤ fu) : ∃ M' P' C' N' rw' dg' kn' fc' oft', IN cd E kk md mn q k T cf deg mon X Cc Kl D F M' P' C' N' rw' dg' kn' fc' oft' f ∧ ((∃ w, f_X4_factor fu M E P C N p s = some (.inr (w, M', P', C', N')) ∧ f_X5_factor fu th kk mn md rw dg kn fc oft p s = some (w, 0, rw', dg', kn', fc', oft')) ∨ (f_X4_factor fu M E P C N p s = some (.inl ("java/lang/IllegalStateException", M', P', C', N')) ∧ f_X5_factor fu th kk mn md rw dg kn fc oft p s = some (0, 1, rw', dg', kn', fc', oft')) ∨ (f_X4_factor fu M E P C N p s = some (.inl ("java/lang/IndexOutOfBoundsException", M', P', C', N')) ∧ f_X5_factor fu th kk mn md rw dg kn fc oft p s = some (0, 2, rw', dg', kn', fc', oft'))) := by
  have hE := pr_eu h.1.2.1
  have hC := h.1.1.1
  unfold f_X4_factor f_X5_factor
  rcases so_cases h (show 17 ≤ fu by omega) with ⟨f0, e1, e2⟩ | ⟨f0, e1, e2⟩
  · obtain ⟨M', P', C', N', rw', dg', fc', oft', r, ps, a1, a2, a3, a3', a4⟩ := S_both h f0 hfu
    have h5 := a4.2.2.2.1.1.1
    rw [e1, tb_r, e2, Option.bind_some, S_lacks e2 a2 p, Option.bind_some]
    rcases pw_cases s with ⟨j, hj, rfl, b1, b2⟩ | ⟨b1, b2⟩
    · refine ⟨M', P', C', N', rw', dg', 1, fc', oft', a3, ?_⟩
      rw [b1, tb_r, a1, Option.bind_some]
      rcases fc_cases N' h5 a4.2.2.2.1.2.1 a4.2.2.2.2.2.1 p with ⟨i, hi, rfl, g1, g2, g3⟩ | ⟨g1, g2⟩
      · obtain ⟨pi, hpi⟩ : ∃ x, ps[i]? = some x := ⟨ps[i]'hi, List.getElem?_eq_getElem hi⟩
        refine Or.inl ⟨cd (cf pi j), ?_, ?_⟩
        · show tb (f_X4_requireFactor N' (nI i)) _ _ = _
          rw [g1, tb_r]
          show (f_X3_part P' (nI i)).bind _ = _
          rw [P_part (by omega), Option.bind_some]
          show (f_X2_get M' (P' i) (nI j)).bind _ = _
          rw [P_get hC (a4.2.2.2.1.1.2 i pi hpi) (by omega), Option.bind_some]
        · rw [if_neg g2, if_pos g3, if_pos rfl, b2, Option.bind_some, if_neg n1_0, Option.bind_some, Option.bind_some, fa_00, Option.bind_some, if_pos rfl]
          show (f_X5_cell rw' (20 + nI i) (nI j)).bind _ = _
          rw [P_rget (r := 20 + i) (by rw [show (20 : Int32) = nI 20 from rfl, nI_add]) rfl (by omega) (by omega) (a4.2.2.2.2.1 i pi hpi).1, Option.bind_some]
      · refine Or.inr (Or.inr ⟨?_, ?_⟩)
        · show tb (f_X4_requireFactor N' p) _ _ = _
          rw [g1, tb_l]
        · have ec : (if p < 0 then (1 : Int32) else if p < fc' then 0 else 1) = 1 := by
            rcases g2 with g | ⟨g, g'⟩
            · rw [if_pos g]
            · rw [if_neg g, if_neg g']
          rw [ec, if_neg n1_0, Option.bind_some, fa_01, Option.bind_some, if_neg n1_0]
    · refine ⟨M, P, C, N, rw', dg', 1, fc', oft', a3', Or.inr (Or.inr ⟨?_, ?_⟩)⟩
      · rw [b1, tb_l]
      · rw [b2, Option.bind_some, if_pos rfl, Option.bind_some]
        have ew : (if (if p < 0 then (1 : Int32) else if p < fc' then 0 else 1) = 0 then some (1 : Int32) else some 1) = some 1 := by
          by_cases z : (if p < 0 then (1 : Int32) else if p < fc' then 0 else 1) = 0
          · rw [if_pos z]
          · rw [if_neg z]
        show (if (if p < 0 then (1 : Int32) else if p < fc' then 0 else 1) = 0 then some (1 : Int32) else some 1).bind _ = _
        rw [ew, Option.bind_some, fa_01, Option.bind_some, if_neg n1_0]
  · rw [e1, e2, tb_l, Option.bind_some, S_lack1 e2 p, Option.bind_some, if_pos rfl]
    refine ⟨M, P, C, N, rw, dg, kn, fc, oft, h, Or.inr (Or.inl ⟨rfl, ?_⟩)⟩
    rcases pw_cases s with ⟨j, hj, _, _, b2⟩ | ⟨_, b2⟩
    · rw [b2, Option.bind_some, if_neg n1_0, Option.bind_some, Option.bind_some, fa_1, Option.bind_some, if_neg n1_0]
    · rw [b2, Option.bind_some, if_pos rfl, Option.bind_some, Option.bind_some, fa_1, Option.bind_some, if_neg n1_0]
