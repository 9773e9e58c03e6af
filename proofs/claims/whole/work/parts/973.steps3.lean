/-! Take and shift. -/
theorem S_take {K R : Type} [Lean.Grind.CommRing K] [Lean.Grind.CommRing R] {cd : K → Int32} {E : Nat → Int32} {kk : Int32} {md : Nat → Int32} {mn : Int64} {q k : Nat} {T : K} {cf : R → Nat → K} {deg : R → Nat} {mon : R → Prop} {X : R} {Cc : K → R} {Kl : List R} {D F : R → R} {M : Fin 20 → Nat → Int32} {P : Nat → Fin 20} {C N : Nat → Int32} {rw dg : Nat → Int32} {kn fc : Int32} {oft : Nat → Int32} {f : R} (h : IN cd E kk md mn q k T cf deg mon X Cc Kl D F M P C N rw dg kn fc oft f) (th p : Int32) {fu : Nat} (hfu : 20000000 ≤ fu) : ∃ M' P' C' N' rw' dg' kn' fc' oft' f', IN cd E kk md mn q k T cf deg mon X Cc Kl D F M' P' C' N' rw' dg' kn' fc' oft' f' ∧ ((f_X4_take fu M E P C N p = some (.inr (M', P', C', N')) ∧ f_X5_take fu th kk mn md rw dg kn fc oft p = some (0, rw', dg', kn', fc', oft')) ∨ (f_X4_take fu M E P C N p = some (.inl ("java/lang/IllegalStateException", M', P', C', N')) ∧ f_X5_take fu th kk mn md rw dg kn fc oft p = some (1, rw', dg', kn', fc', oft')) ∨ (f_X4_take fu M E P C N p = some (.inl ("java/lang/IndexOutOfBoundsException", M', P', C', N')) ∧ f_X5_take fu th kk mn md rw dg kn fc oft p = some (2, rw', dg', kn', fc', oft'))) := by
  have hR := h.1.2.1
  have hE := pr_eu hR
  have hC := h.1.1.1
  unfold f_X4_take f_X5_take
  rcases so_cases h (show 17 ≤ fu by omega) with ⟨f0, e1, e2⟩ | ⟨f0, e1, e2⟩
  · obtain ⟨M', P', C', N', rw', dg', fc', oft', r, ps, a1, a2, a3, _, a4⟩ := S_both h f0 hfu
    have h5 := a4.2.2.2.1.1.1
    have hP' := a3.2.2.1
    rw [e1, tb_r, a1, Option.bind_some, e2, Option.bind_some, S_lacks e2 a2 p, Option.bind_some]
    rcases fc_cases N' h5 a4.2.2.2.1.2.1 a4.2.2.2.2.2.1 p with ⟨i, hi, rfl, g1, g2, g3⟩ | ⟨g1, g2⟩
    · obtain ⟨pi, hpi⟩ : ∃ x, ps[i]? = some x := ⟨ps[i]'hi, List.getElem?_eq_getElem hi⟩
      obtain ⟨M2, b1, b2, b3⟩ := P_copy hC (M := M') (r := 0) (b := P' i) (PI_nf hP' (by omega) (by decide)) (a4.2.2.2.1.1.2 i pi hpi) (show 17 ≤ fu by omega)
      have i20 : (20 : Int32) + nI i = nI (20 + i) := by rw [show (20 : Int32) = nI 20 from rfl, nI_add]
      obtain ⟨rw2, dg2, d1, d2, d3⟩ := P_rcopy (y := 0) (b := 0) i20 rfl (by omega) (by omega) (by omega) (a4.2.2.2.2.1 i pi hpi) (show 17 ≤ fu by omega)
      have hpm := List.mem_of_getElem? hpi
      have d5 : sq (cf pi) ≤ 6 := by
        obtain ⟨L, l1, l2, l3, l4⟩ := rt_list hE hR.1.2.1 (pr_lei hR h.1.2.2.1) f0 a4.1
        have hd := dv_deg hE (hE.2.2.2.2.2.2.1 _ (lp_monI hE a4.2.2.1.1)) (lp_mem ps hpm)
        rw [a4.2.2.1.2.1] at hd
        have := pr_sq hR f0
        have := h.2.2.2.2.2.1
        rw [(pr_mo hR (a4.2.2.1.1 pi hpm).1).2]
        omega
      refine ⟨M2, P', C', va_up N' 1 0, rw2, dg2, 0, fc', oft', pi, ⟨a3.1, a3.2.1, hP', b3, d3, d5, Or.inl (N_0 N'), Or.inl rfl⟩, Or.inl ⟨?_, ?_⟩⟩
      · show tb (f_X4_requireFactor N' (nI i)) _ _ = _
        rw [g1, tb_r]
        show (f_X3_part P' (nI i)).bind _ = _
        rw [P_part (by omega), Option.bind_some]
        show (f_X2_copy fu M' 0 (P' i)).bind _ = _
        rw [b1, Option.bind_some]
        rfl
      · rw [if_neg g2, if_pos g3, fa_00, Option.bind_some, if_pos rfl]
        show (f_X5_copy fu rw' dg' (20 + nI i) 0).bind _ = _
        rw [d1, Option.bind_some]
    · refine ⟨M', P', C', N', rw', dg', 1, fc', oft', f, a3, Or.inr (Or.inr ⟨?_, ?_⟩)⟩
      · show tb (f_X4_requireFactor N' p) _ _ = _
        rw [g1, tb_l]
      · have ec : (if p < 0 then (1 : Int32) else if p < fc' then 0 else 1) = 1 := by
          rcases g2 with g | ⟨g, g'⟩
          · rw [if_pos g]
          · rw [if_neg g, if_neg g']
        rw [ec, fa_01, Option.bind_some, if_neg n1_0]
  · rw [e1, e2, tb_l, Option.bind_some, S_lack1 e2 p, Option.bind_some, fa_1, Option.bind_some, if_neg n1_0]
    exact ⟨M, P, C, N, rw, dg, kn, fc, oft, f, h, Or.inr (Or.inl ⟨rfl, rfl⟩)⟩
theorem S_shift {K R : Type} [Lean.Grind.CommRing K] [Lean.Grind.CommRing R] {cd : K → Int32} {E : Nat → Int32} {kk : Int32} {md : Nat → Int32} {mn : Int64} {q k : Nat} {T : K} {cf : R → Nat → K} {deg : R → Nat} {mon : R → Prop} {X : R} {Cc : K → R} {Kl : List R} {D F : R → R} {M : Fin 20 → Nat → Int32} {P : Nat → Fin 20} {C N : Nat → Int32} {rw dg : Nat → Int32} {kn fc : Int32} {oft : Nat → Int32} {f : R} (h : IN cd E kk md mn q k T cf deg mon X Cc Kl D F M P C N rw dg kn fc oft f) (th : Int32) {fu : Nat} (hfu : 20000000 ≤ fu) : (∃ w M' P' C' N' rw' dg', f_X4_shift fu M E P C N = some (.inr (w, M', P', C', N')) ∧ f_X5_shift fu th kk mn md rw dg = some (w, 0, rw', dg') ∧ IN cd E kk md mn q k T cf deg mon X Cc Kl D F M' P' C' N' rw' dg' kn fc oft f) ∨ (f_X4_shift fu M E P C N = some (.inl ("java/lang/IllegalStateException", M, P, C, N)) ∧ f_X5_shift fu th kk mn md rw dg = some (0, 1, rw, dg)) := by
  have hR := h.1.2.1
  have hE := pr_eu hR
  have hL := h.1.1
  have hC := hL.1
  have hD := h.1.2.2.1
  have hM := h.1.2.2.2
  have hk := hL.2.2.2.1
  unfold f_X4_shift f_X5_shift
  rcases so_cases h (show 17 ≤ fu by omega) with ⟨f0, e1, e2⟩ | ⟨f0, e1, e2⟩
  · obtain ⟨M1, P1, C1, N1, a1, a2, a3⟩ := S_find h f0 hfu
    have a2' := a2
    obtain ⟨r, ps, b1, b2, _, _, _, _⟩ := a2'
    obtain ⟨rw1, dg1, r', c1, c2, c3, c4⟩ := P_rroot hC hR hL.2.1 hD h.2.2.2.2.1 f0 (show 64 ≤ fu by omega)
    have er := rt_uni hE f0 b1 c4
    rw [← er] at c3
    obtain ⟨x1, x2⟩ := sh_ex hL hR hD hM f0 h.2.2.2.2.2.1 b1
    have co := co_rt hR hL.2.2.1 hD f0 h.2.2.2.2.2.1 b1
    have sr : sq (cf r) ≤ 6 := by rw [(pr_mo hR co.2.1).2]; have := co.2.2; omega
    have hex : ∃ s, s < 101 ∧ ¬ SB cf deg mon D F k T r s := by
      by_cases k1 : k = 1
      · exact ⟨0, by omega, x1 k1 T⟩
      · exact x2 (by omega)
    obtain ⟨s, M2, s1, s2, s3, s4, s5⟩ := P_shift hL hR hD hM sr b2 hex (show 102 ≤ fu by omega)
    have key : ∃ TR : K, (if kk = 1 then some 0 else some 101 : Option Int32) = some (cd TR) ∧ ∀ s', s' < 101 → ¬ SB cf deg mon D F k TR r s' → (∀ j, j < s' → SB cf deg mon D F k TR r j) → s' = s := by
      by_cases k1 : k = 1
      · refine ⟨0, by rw [hk.2.1, k1, if_pos (by decide), hC.2.1.1], fun s' _ h2 h3 => ?_⟩
        have z1 : s' = 0 := by
          by_cases z : s' = 0
          · exact z
          · exact absurd (h3 0 (by omega)) (x1 k1 0)
        have z2 : s = 0 := by
          by_cases z : s = 0
          · exact z
          · exact absurd (s3 0 (by omega)) (x1 k1 T)
        omega
      · refine ⟨T, ?_, fun s' h1 h2 h3 => ?_⟩
        · have e5 := h.2.1.2.resolve_left k1
          rw [if_neg (by
            rw [hk.2.1]
            intro z
            have := (nI_eq (a := k) (b := 1) (by omega) (by decide)).mp z
            omega), ← hL.2.2.2.2.1.1, e5]
        · rcases Nat.lt_trichotomy s' s with z | z | z
          · exact absurd (s3 s' z) h2
          · exact z
          · exact absurd (h3 s z) s2
    obtain ⟨TR, t1, t2⟩ := key
    have rr := P_rshift_l hL hR hD hM sr (TR := TR) fu (by omega) (fun y32 y33 rw34 dg35 => some (y32, (0 : Int32), rw34, dg35)) 0 101 0 fu rw1 dg1 (by omega) c3 (by omega)
    rcases rr with ⟨s', rw2, dg2, r1, r2, r3, r4, r5, r6⟩ | r1
    · have es := t2 s' r2 r3 (fun j hj => r4 j (by omega) hj)
      have frr : FR [1, 2, 3, 4, 5, 8, 10] rw dg rw2 dg2 := FR_mo (FR_tr c2 r6) (fun r hr => by simp at hr ⊢; omega)
      refine Or.inl ⟨nI s, M2, P1, C1, N1, rw2, dg2, ?_, ?_, ?_⟩
      · rw [e1, tb_r, a1, Option.bind_some]
        show (f_X1_leastShift fu M1 E 11).bind _ = _
        rw [s4, Option.bind_some]
      · rw [e2, Option.bind_some, fa_00, Option.bind_some, if_pos rfl, c1, Option.bind_some, t1, Option.bind_some]
        rw [es] at r5
        exact r5
      · obtain ⟨y1, y2, y3, y4, y5, y6, y7, y8⟩ := a3
        refine ⟨y1, y2, y3, by rw [s5 0 (by decide)]; exact y4, RX_fr frr (by decide) y5, y6, ?_, ?_⟩
        · rcases y7 with q | ⟨q, q2, q3⟩
          · exact Or.inl q
          · exact Or.inr ⟨q, q2, FD_fr y3 (fun x hx => s5 x (by omega)) q3⟩
        · rcases y8 with q | ⟨q, q2, q3⟩
          · exact Or.inl q
          · exact Or.inr ⟨q, q2, FDR_fr frr (fun r hr => by simp at hr; omega) q3⟩
    · exfalso
      by_cases k1 : k = 1
      · exact x1 k1 TR (r1 0 (by omega) (by omega))
      · have hall := r1
        have e5 := h.2.1.2.resolve_left k1
        have hTR : TR = T := by
          rw [if_neg (by
            rw [hk.2.1]
            intro z
            have := (nI_eq (a := k) (b := 1) (by omega) (by decide)).mp z
            omega)] at t1
          have : cd TR = cd T := by rw [← Option.some.inj t1, ← hL.2.2.2.2.1.1, e5]
          exact hC.1 _ _ this
        rw [hTR] at hall
        exact s2 (hall s (by omega) s1)
  · rw [e1, e2, tb_l, Option.bind_some, fa_1, Option.bind_some, if_neg n1_0]
    exact Or.inr ⟨rfl, rfl⟩
