/-! Put, known, minimal, value, norm, move. -/
theorem FDR_fr {K R : Type} [Lean.Grind.CommRing K] [Lean.Grind.CommRing R] {cd : K → Int32} {cf : R → Nat → K} {deg : R → Nat} {mon : R → Prop} {D : R → R} {l : List Nat} {rw dg rw' dg' : (Nat → Int32)} (h : FR l rw dg rw' dg') (hl : ∀ r ∈ l, r < 20) {fc : Int32} {oft : (Nat → Int32)} {f : R} (hf : FDR cd cf deg mon D rw dg fc oft f) : FDR cd cf deg mon D rw' dg' fc oft f := by
  obtain ⟨r, ps, a1, a2, a3, a4, a5, a6⟩ := hf
  exact ⟨r, ps, a1, a2, PF_fr h (fun i hi q => by have := hl _ q; omega) a3, a4, a5, a6⟩
theorem FD_fr {K R : Type} [Lean.Grind.CommRing K] [Lean.Grind.CommRing R] {cd : K → Int32} {cf : R → Nat → K} {deg : R → Nat} {mon : R → Prop} {D : R → R} {M M' : (Fin 20 → Nat → Int32)} {P : Nat → Fin 20} (hP : PI P) {C N : (Nat → Int32)} {f : R} (h : ∀ x : Fin 20, 11 ≤ x.val → M' x = M x) (hf : FD cd cf deg mon D M P C N f) : FD cd cf deg mon D M' P C N f := by
  obtain ⟨r, ps, a1, a2, a3, a4, a5, a6⟩ := hf
  exact ⟨r, ps, a1, by rw [h 11 (by decide)]; exact a2, a3, PL_fr hP a4 (fun x hx => h x (by omega)), a5, a6⟩
theorem N_0 (N : (Nat → Int32)) : va_up N 1 0 1 = (0 : Int32) := va_up_self _ _ _
set_option maxHeartbeats 1000000 in
theorem S_put {K R : Type} [Lean.Grind.CommRing K] [Lean.Grind.CommRing R] {cd : K → Int32} {E : Nat → Int32} {kk : Int32} {md : Nat → Int32} {mn : Int64} {q k : Nat} {T : K} {cf : R → Nat → K} {deg : R → Nat} {mon : R → Prop} {X : R} {Cc : K → R} {Kl : List R} {D F : R → R} {M : Fin 20 → Nat → Int32} {P : Nat → Fin 20} {C N : Nat → Int32} {rw dg : Nat → Int32} {kn fc : Int32} {oft : Nat → Int32} {f : R} (h : IN cd E kk md mn q k T cf deg mon X Cc Kl D F M P C N rw dg kn fc oft f) (th p v : Int32) {fu : Nat} (hfu : 64 ≤ fu) : (∃ w M' N' rw' dg' kn' f', f_X4_put M E N p v = some (.inr (w, M', N')) ∧ f_X5_put fu th mn rw dg kn p v = some (w, 0, rw', dg', kn') ∧ IN cd E kk md mn q k T cf deg mon X Cc Kl D F M' P C N' rw' dg' kn' fc oft f') ∨ (f_X4_put M E N p v = some (.inl ("java/lang/IndexOutOfBoundsException", M, N)) ∧ f_X5_put fu th mn rw dg kn p v = some (0, 1, rw, dg, kn)) ∨ (f_X4_put M E N p v = some (.inl ("java/lang/IllegalArgumentException", M, N)) ∧ f_X5_put fu th mn rw dg kn p v = some (0, 2, rw, dg, kn)) := by
  have h0 := h
  obtain ⟨⟨hL, hR, hD, hM⟩, hmd, hP, hf, hr, hs, hN, hkn⟩ := h
  have hC := hL.1
  unfold f_X4_put f_X5_put
  rcases pw_cases p with ⟨i, hi, rfl, e1, e2⟩ | ⟨e1, e2⟩
  · rw [e1, e2, tb_r, Option.bind_some, if_neg n1_0]
    rcases el_cases hL v with ⟨a, rfl, g1, g2⟩ | ⟨g1, g2⟩
    · rw [g1, g2, tb_r, Option.bind_some, if_neg n1_0, fa_00, Option.bind_some, if_pos rfl, P_get hC hf (by omega), Option.bind_some, P_rget (x := 0) (r := 0) rfl rfl (by omega) (by omega) hr.1, Option.bind_some]
      refine Or.inl ?_
      by_cases c : cd (cf f i) = cd a
      · have ea := hC.1 _ _ c
        obtain ⟨rw1, dg1, k1, k2, k3⟩ := P_rset hC dg (x := 0) (y := nI i) (z := cd a) (r := 0) (i := i) (a := a) (g := cf f) rfl rfl (by omega) (by omega) rfl hr.1 ea (fun _ _ => rfl) (show 17 ≤ fu by omega)
        rw [if_pos c, if_pos c, k1, Option.bind_some]
        refine ⟨0, M, N, rw1, dg1, kn, f, rfl, ?_, ⟨hL, hR, hD, hM⟩, hmd, hP, hf, k3, hs, hN, ?_⟩
        · rcases hkn with q | ⟨q, _⟩
          · rw [if_pos q, q]
          · rw [if_neg (by rw [q]; decide), if_pos rfl, q]
        · rcases hkn with q | ⟨q, q2, q3⟩
          · exact Or.inl q
          · exact Or.inr ⟨q, q2, FDR_fr k2 (fun r hr => by simp at hr; omega) q3⟩
      · have hdl := pr_dl hR f
        obtain ⟨f', ef⟩ := pr_ex hR (f := fun j => if j = i then a else cf f j) (n := 6) (fun j hj => by
          show (if j = i then a else cf f j) = 0
          rw [if_neg (by omega), hdl j (by omega)])
        have g1' : cf f' i = a := by rw [ef]; exact if_pos rfl
        have g2' : ∀ j, j ≠ i → cf f' j = cf f j := fun j hj => by rw [ef]; exact if_neg hj
        obtain ⟨rw1, dg1, k1, k2, k3⟩ := P_rset hC dg (x := 0) (y := nI i) (z := cd a) (r := 0) (i := i) (a := a) (g := cf f') rfl rfl (by omega) (by omega) rfl hr.1 g1' g2' (show 17 ≤ fu by omega)
        rw [if_neg c, if_neg c, k1, Option.bind_some, P_set M 0 (by omega), Option.bind_some]
        refine ⟨1, fup M 0 (upd (M 0) i (cd a)), va_up N 1 0, rw1, dg1, 0, f', rfl, ?_, ⟨hL, hR, hD, hM⟩, hmd, hP, ?_, k3, ?_, Or.inl (N_0 N), Or.inl rfl⟩
        · by_cases q : kn = 0
          · rw [if_pos q]
          · rw [if_neg q, if_neg n1_0]
        · rw [fup_s]
          exact RW_upd hf (by omega) g1' g2'
        · exact sq_le (n := 6) (fun j hj => by rw [g2' j (by omega), hdl j (by omega)])
    · rw [g1, g2, tb_l, Option.bind_some, if_pos rfl, fa_01, Option.bind_some, if_neg n1_0]
      exact Or.inr (Or.inr ⟨rfl, rfl⟩)
  · rw [e1, e2, tb_l, Option.bind_some, if_pos rfl]
    refine Or.inr (Or.inl ⟨rfl, ?_⟩)
    rcases el_cases hL v with ⟨a, _, _, g2⟩ | ⟨_, g2⟩
    · rw [g2, Option.bind_some, if_neg n1_0, fa_1, Option.bind_some, if_neg n1_0]
    · rw [g2, Option.bind_some, if_pos rfl, fa_1, Option.bind_some, if_neg n1_0]
theorem P_rkn_l {K : Type} [Lean.Grind.CommRing K] {cd : K → Int32} {E : Nat → Int32} {kk : Int32} {md : Nat → Int32} {mn : Int64} {q k : Nat} {T : K} (hL : FL cd E kk md mn q k T) (a : K) (x1 th : Int32) (kc : Int32 → Int32 → Int32 → Option (Int32 × Int32)) (fu : Nat) (hfu : 64 ≤ fu) : ∀ (d i n : Nat), d + i + 1 = k → d < n → ∃ y, f_X5_known_l40 kc fu th kk mn md x1 (cd a) n (cd (mpr a i)) (cd (mps a i)) (nI (i + 1)) = kc (cd (mpr a (k - 1))) (cd (mps a (k - 1))) y := by
  have hC := hL.1
  have hk := hL.2.2.2.1
  intro d
  induction d with
  | zero =>
    intro i n hd hn
    obtain ⟨n, rfl⟩ : ∃ n', n = n' + 1 := ⟨n - 1, by omega⟩
    refine ⟨nI (i + 1), ?_⟩
    rw [f_X5_known_l40, hk.2.1, if_pos (nI_le (by omega) (by omega)), show k - 1 = i by omega]
  | succ d ih =>
    intro i n hd hn
    obtain ⟨n, rfl⟩ : ∃ n', n = n' + 1 := ⟨n - 1, by omega⟩
    obtain ⟨y, hy⟩ := ih (i + 1) n (by omega) (by omega)
    refine ⟨y, ?_⟩
    have hkk := hk.2.1
    rw [f_X5_known_l40]
    rw [if_neg (by rw [hkk]; exact nI_ge (by omega) (by omega)), P_rmate hC hfu a (by omega), Option.bind_some, hC.2.2.2.2.2.2.2 fu _ _ (by omega), Option.bind_some, Option.bind_some, P_add, hC.2.2.1, Option.bind_some, nI_1]
    exact hy
theorem S_known {K R : Type} [Lean.Grind.CommRing K] [Lean.Grind.CommRing R] {cd : K → Int32} {E : Nat → Int32} {kk : Int32} {md : Nat → Int32} {mn : Int64} {q k : Nat} {T : K} {cf : R → Nat → K} {deg : R → Nat} {mon : R → Prop} {X : R} {Cc : K → R} {Kl : List R} {D F : R → R} {M : Fin 20 → Nat → Int32} {P : Nat → Fin 20} {C N : Nat → Int32} {rw dg : Nat → Int32} {kn fc : Int32} {oft : Nat → Int32} {f : R} (h : IN cd E kk md mn q k T cf deg mon X Cc Kl D F M P C N rw dg kn fc oft f) (th p v : Int32) {fu : Nat} (hfu : 64 ≤ fu) : (∃ w, f_X4_known fu E p v = some (.inr w) ∧ f_X5_known fu th kk mn md p v = some (w, 0)) ∨ (f_X4_known fu E p v = some (.inl "java/lang/IllegalArgumentException") ∧ f_X5_known fu th kk mn md p v = some (0, 1)) := by
  obtain ⟨⟨hL, hR, hD, hM⟩, hmd, hP, hf, hr, hs, hN, hkn⟩ := h
  have hC := hL.1
  have hk := hL.2.2.2.1
  unfold f_X4_known f_X5_known
  rcases el_cases hL v with ⟨a, rfl, e1, e2⟩ | ⟨e1, e2⟩
  · rw [e1, e2, tb_r, Option.bind_some, if_neg n1_0]
    by_cases c : p < 0
    · rw [if_pos c, if_pos c]
      exact Or.inr ⟨rfl, rfl⟩
    · rw [if_neg c, if_neg c]
      obtain ⟨j, hj, rfl⟩ := nI_of c
      by_cases c2 : j ≤ 4
      · have e4 : nI j ≤ 4 := nI_le (b := 4) c2 (by decide)
        rw [if_pos e4, if_pos e4, Option.bind_some, Option.bind_some, Option.bind_some, fa_00, Option.bind_some, if_pos rfl]
        obtain ⟨y, hy⟩ := P_rkn_l hL a (nI j) 0 (fun y21 y22 y23 =>
          if nI j = 0 then
            if cd a = 0 then some (1, 0)
            else (f_X5_power fu kk md (cd a) ((mn - 1) / 2)).bind (fun u26 => if u26 = 1 then some (1, 0) else some (0, 0))
          else if nI j = 1 then some (y21, 0)
          else if nI j = 2 then some (y22, 0)
          else if nI j = 3 then (f_X5_mate fu kk md (cd a) 1).bind (fun u32 => some (u32, 0))
          else (f_X5_mates fu kk md (cd a)).bind (fun u34 => some (u34, 0))) fu hfu (k - 1) 0 fu (by omega) (by omega)
        have hy' : f_X5_known_l40 _ fu 0 kk mn md (nI j) (cd a) fu (cd a) (cd a) 1 = _ := hy
        have hj5 : j = 0 ∨ j = 1 ∨ j = 2 ∨ j = 3 ∨ j = 4 := by omega
        refine Or.inl ?_
        rcases hj5 with e | e | e | e | e <;> subst e
        · have h0 : nI 0 = 0 := by decide
          rw [if_pos h0]
          unfold f_X0_isSquare
          by_cases a0 : cd a = 0
          · rw [if_pos a0, Option.bind_some, if_neg n1_0]
            refine ⟨1, rfl, hy'.trans ?_⟩
            show (if nI 0 = 0 then _ else _ : Option (Int32 × Int32)) = _
            rw [if_pos h0, if_pos a0]
          · rw [if_neg a0]
            have hq := q_lt hL
            have i2 : E 1 / 2 = nI (q / 2) := by rw [hL.2.1.2.2.2.1, show (2 : Int32) = nI 2 from rfl, pk_div (by omega) (by decide) (by decide)]
            have pw := P_isq hL a hfu
            rw [i2, P_pow hC (by omega) a (by omega)] at pw
            rw [i2, P_pow hC (by omega) a (by omega), Option.bind_some]
            by_cases c1 : cd (a ^ (q / 2)) = 1
            · rw [if_pos c1, Option.bind_some, if_neg n1_0]
              refine ⟨1, rfl, hy'.trans ?_⟩
              show (if nI 0 = 0 then _ else _ : Option (Int32 × Int32)) = _
              rw [if_pos h0, if_neg a0, ← pw, Option.bind_some, if_pos c1]
            · rw [if_neg c1, Option.bind_some, if_pos rfl]
              refine ⟨0, rfl, hy'.trans ?_⟩
              show (if nI 0 = 0 then _ else _ : Option (Int32 × Int32)) = _
              rw [if_pos h0, if_neg a0, ← pw, Option.bind_some, if_neg c1]
        · have h0 : ¬ nI 1 = 0 := by decide
          have h1 : nI 1 = 1 := by decide
          rw [if_neg h0, if_pos h1, P_mpr hL a (by omega), Option.bind_some]
          exact ⟨_, rfl, hy'⟩
        · have h0 : ¬ nI 2 = 0 := by decide
          have h1 : ¬ nI 2 = 1 := by decide
          have h2 : nI 2 = 2 := by decide
          rw [if_neg h0, if_neg h1, if_pos h2, P_mps hL a (by omega), Option.bind_some]
          exact ⟨_, rfl, hy'⟩
        · have h0 : ¬ nI 3 = 0 := by decide
          have h1 : ¬ nI 3 = 1 := by decide
          have h2 : ¬ nI 3 = 2 := by decide
          have h3 : nI 3 = 3 := by decide
          rw [if_neg h0, if_neg h1, if_neg h2, if_pos h3, P_mate hL a, Option.bind_some]
          refine ⟨_, rfl, hy'.trans ?_⟩
          show (if nI 3 = 0 then _ else _ : Option (Int32 × Int32)) = _
          rw [if_neg h0, if_neg h1, if_neg h2, if_pos h3, show (1 : Int32) = nI 1 from rfl, P_rmate hC hfu a (by omega), Option.bind_some, mt_s, mt_0]
        · have h0 : ¬ nI 4 = 0 := by decide
          have h1 : ¬ nI 4 = 1 := by decide
          have h2 : ¬ nI 4 = 2 := by decide
          have h3 : ¬ nI 4 = 3 := by decide
          obtain ⟨m, _, _, m1, m2⟩ := P_dmt hL a hfu
          rw [if_neg h0, if_neg h1, if_neg h2, if_neg h3, m1, Option.bind_some]
          refine ⟨_, rfl, hy'.trans ?_⟩
          show (if nI 4 = 0 then _ else _ : Option (Int32 × Int32)) = _
          rw [if_neg h0, if_neg h1, if_neg h2, if_neg h3, m2, Option.bind_some]
      · have e4 : ¬ nI j ≤ 4 := nI_ge (a := 4) (by omega) hj
        rw [if_neg e4, if_neg e4]
        exact Or.inr ⟨rfl, rfl⟩
  · rw [e1, e2, tb_l, Option.bind_some, if_pos rfl]
    exact Or.inr ⟨rfl, rfl⟩
theorem S_value {K R : Type} [Lean.Grind.CommRing K] [Lean.Grind.CommRing R] {cd : K → Int32} {E : Nat → Int32} {kk : Int32} {md : Nat → Int32} {mn : Int64} {q k : Nat} {T : K} {cf : R → Nat → K} {deg : R → Nat} {mon : R → Prop} {X : R} {Cc : K → R} {Kl : List R} {D F : R → R} {M : Fin 20 → Nat → Int32} {P : Nat → Fin 20} {C N : Nat → Int32} {rw dg : Nat → Int32} {kn fc : Int32} {oft : Nat → Int32} {f : R} (h : IN cd E kk md mn q k T cf deg mon X Cc Kl D F M P C N rw dg kn fc oft f) (th v : Int32) {fu : Nat} (hfu : 64 ≤ fu) : (∃ w, f_X4_value fu M E v = some (.inr w) ∧ f_X5_value fu th kk mn md rw v = some (w, 0)) ∨ (f_X4_value fu M E v = some (.inl "java/lang/IllegalArgumentException") ∧ f_X5_value fu th kk mn md rw v = some (0, 1)) := by
  obtain ⟨⟨hL, hR, hD, hM⟩, hmd, hP, hf, hr, hs, hN, hkn⟩ := h
  have hC := hL.1
  unfold f_X4_value f_X5_value
  rcases el_cases hL v with ⟨a, rfl, e1, e2⟩ | ⟨e1, e2⟩
  · rw [e1, e2, tb_r, Option.bind_some, if_neg n1_0, Option.bind_some, fa_00, Option.bind_some, if_pos rfl, P_val hC hf a (by omega), Option.bind_some]
    have hd6 : dl (cf f) 6 := dl_mono (pr_dl hR f) hs
    obtain ⟨y, hy⟩ := P_rval_l hC hr.1 a (fun y15 y16 => some (y15, 0)) fu (by omega) 0 mn 6 fu (by omega) (by omega)
    have hy' : f_X5_value_l27 (fun y15 y16 => some (y15, 0)) fu 0 kk mn md rw (cd a) fu (cd 0) 5 = _ := hy
    rw [hC.2.1.1] at hy'
    refine Or.inl ⟨_, rfl, hy'.trans ?_⟩
    rw [hv_all a hd6 (show 6 ≤ 16 by omega)]
  · rw [e1, e2, tb_l, Option.bind_some, if_pos rfl]
    exact Or.inr ⟨rfl, rfl⟩
theorem S_minimal {K R : Type} [Lean.Grind.CommRing K] [Lean.Grind.CommRing R] {cd : K → Int32} {E : Nat → Int32} {kk : Int32} {md : Nat → Int32} {mn : Int64} {q k : Nat} {T : K} {cf : R → Nat → K} {deg : R → Nat} {mon : R → Prop} {X : R} {Cc : K → R} {Kl : List R} {D F : R → R} {M : Fin 20 → Nat → Int32} {P : Nat → Fin 20} {C N : Nat → Int32} {rw dg : Nat → Int32} {kn fc : Int32} {oft : Nat → Int32} {f : R} (h : IN cd E kk md mn q k T cf deg mon X Cc Kl D F M P C N rw dg kn fc oft f) (th v p : Int32) {fu : Nat} (hfu : 64 ≤ fu) : (∃ w M' rw' dg', f_X4_minimal fu M E v p = some (.inr (w, M')) ∧ f_X5_minimal fu th kk mn md rw dg v p = some (w, 0, rw', dg') ∧ IN cd E kk md mn q k T cf deg mon X Cc Kl D F M' P C N rw' dg' kn fc oft f) ∨ (f_X4_minimal fu M E v p = some (.inl ("java/lang/IndexOutOfBoundsException", M)) ∧ f_X5_minimal fu th kk mn md rw dg v p = some (0, 1, rw, dg)) ∨ (f_X4_minimal fu M E v p = some (.inl ("java/lang/IllegalArgumentException", M)) ∧ f_X5_minimal fu th kk mn md rw dg v p = some (0, 2, rw, dg)) := by
  obtain ⟨⟨hL, hR, hD, hM⟩, hmd, hP, hf, hr, hs, hN, hkn⟩ := h
  have hC := hL.1
  have hk := hL.2.2.2.1
  unfold f_X4_minimal f_X5_minimal
  have bad : ∀ w7 : Option Int32, (∃ v, w7 = some v) → ∀ kx : Int32 → Int32 × Int32 → Option (Int32 × Int32 × (Nat → Int32) × (Nat → Int32)), (w7.bind (fun w7 => (f_X5_fails th 1 w7).bind (fun u9 => if u9.1 = 0 then kx w7 u9 else some (0, u9.2, rw, dg)))) = some (0, 1, rw, dg) := fun w7 ⟨v, e⟩ kx => by
    rw [e, Option.bind_some, fa_1, Option.bind_some, if_neg n1_0]
  have el : ∃ u, f_X5_isElement mn v = some u ∧ ∃ z, (if u = 0 then some 1 else some 0 : Option Int32) = some z := by
    rcases el_cases hL v with ⟨a, _, _, e2⟩ | ⟨_, e2⟩
    · exact ⟨1, e2, 0, rfl⟩
    · exact ⟨0, e2, 1, rfl⟩
  by_cases c : p < 0
  · rw [if_pos c, if_pos c, Option.bind_some]
    obtain ⟨u, u1, u2⟩ := el
    rw [u1, Option.bind_some]
    exact Or.inr (Or.inl ⟨rfl, bad _ u2 _⟩)
  · rw [if_neg c, if_neg c]
    obtain ⟨j, hj, rfl⟩ := nI_of c
    by_cases c2 : j ≤ 3
    · have e3 : nI j ≤ 3 := nI_le (b := 3) c2 (by decide)
      rw [if_pos e3, if_pos e3, Option.bind_some, Option.bind_some]
      rcases el_cases hL v with ⟨a, rfl, e1, e2⟩ | ⟨e1, e2⟩
      · obtain ⟨m, m1, m2, m3, m4⟩ := P_dmt hL a hfu
        obtain ⟨M1, a1, a2, a3⟩ := P_least hL hR M (a := a) (N := m) (by omega) m3 (show 18 ≤ fu by omega)
        obtain ⟨rw1, dg1, b1, b2, b3⟩ := P_rclear hC rw dg (x := 2) (r := 2) rfl (by omega) (show 17 ≤ fu by omega)
        obtain ⟨rw2, dg2, d1, d2, d3⟩ := P_rset hC dg1 (x := 2) (y := 0) (z := 1) (r := 2) (i := 0) (a := 1) (g := cf (mpol X Cc a 0)) rfl rfl (by omega) (by omega) hC.2.1.2.symm b3.1 (by
          show cf 1 0 = 1
          rw [pr_1 hR]; rfl) (fun j hj => by
          show cf 1 j = 0
          rw [pr_1 hR]
          show (if j = 0 then 1 else 0) = 0
          rw [if_neg hj]) (show 17 ≤ fu by omega)
        obtain ⟨y, rw3, dg3, f1, f2, f3⟩ := P_rmin hL hR (a := a) (N := m) (by omega) (fun y33 rw34 dg35 => (f_X5_cell rw34 2 (nI j)).bind (fun u36 => some (u36, 0, rw34, dg35))) fu hfu 0 (nI j) m 0 fu rw2 dg2 (by omega) d3 (by omega)
        rw [e1, e2, tb_r, Option.bind_some, if_neg n1_0, Option.bind_some, fa_00, Option.bind_some, if_pos rfl, a1, Option.bind_some, P_get hC a3 (by omega), Option.bind_some, m4, Option.bind_some, b1, Option.bind_some]
        have frr : FR [2, 3, 4] rw dg rw3 dg3 := FR_mo (FR_tr b2 (FR_tr d2 f2)) (fun r hr => by simp at hr ⊢; omega)
        refine Or.inl ⟨_, M1, rw3, dg3, rfl, ?_, ⟨hL, hR, hD, hM⟩, hmd, hP, by rw [a2 0 (by decide)]; exact hf, RX_fr frr (by decide) hr, hs, ?_, ?_⟩
        · show (f_X5_set fu rw1 dg1 2 0 1).bind _ = _
          rw [d1, Option.bind_some]
          refine f1.trans ?_
          show (f_X5_cell rw3 2 (nI j)).bind (fun u36 => some (u36, 0, rw3, dg3)) = _
          rw [P_rget (x := 2) (r := 2) rfl rfl (by omega) (by omega) f3.1, Option.bind_some]
        · rcases hN with q | ⟨q, q2, q3⟩
          · exact Or.inl q
          · exact Or.inr ⟨q, q2, FD_fr hP (fun x hx => a2 x (fun e => by rw [e] at hx; exact absurd hx (by decide))) q3⟩
        · rcases hkn with q | ⟨q, q2, q3⟩
          · exact Or.inl q
          · exact Or.inr ⟨q, q2, FDR_fr frr (fun r hr => by simp at hr; omega) q3⟩
      · rw [e1, e2, tb_l, Option.bind_some, if_pos rfl, Option.bind_some, fa_01, Option.bind_some, if_neg n1_0]
        exact Or.inr (Or.inr ⟨rfl, rfl⟩)
    · have e3 : ¬ nI j ≤ 3 := nI_ge (a := 3) (by omega) hj
      rw [if_neg e3, if_neg e3, Option.bind_some, Option.bind_some]
      obtain ⟨u, u1, u2⟩ := el
      rw [u1, Option.bind_some]
      exact Or.inr (Or.inl ⟨rfl, bad _ u2 _⟩)
theorem S_norm {K R : Type} [Lean.Grind.CommRing K] [Lean.Grind.CommRing R] {cd : K → Int32} {E : Nat → Int32} {kk : Int32} {md : Nat → Int32} {mn : Int64} {q k : Nat} {T : K} {cf : R → Nat → K} {deg : R → Nat} {mon : R → Prop} {X : R} {Cc : K → R} {Kl : List R} {D F : R → R} {M : Fin 20 → Nat → Int32} {P : Nat → Fin 20} {C N : Nat → Int32} {rw dg : Nat → Int32} {kn fc : Int32} {oft : Nat → Int32} {f : R} (h : IN cd E kk md mn q k T cf deg mon X Cc Kl D F M P C N rw dg kn fc oft f) (th p : Int32) {fu : Nat} (hfu : 64 ≤ fu) : ∃ w M' rw' dg', f_X4_norm fu M E p = some (w, M') ∧ f_X5_norm fu th kk md rw dg p = some (w, 0, rw', dg') ∧ IN cd E kk md mn q k T cf deg mon X Cc Kl D F M' P C N rw' dg' kn fc oft f := by
  obtain ⟨⟨hL, hR, hD, hM⟩, hmd, hP, hf, hr, hs, hN, hkn⟩ := h
  have hC := hL.1
  obtain ⟨M1, a1, a2, a3⟩ := P_norm hL hR hM (x := 0) (by decide) hf hs (show 18 ≤ fu by omega)
  obtain ⟨rw1, dg1, b1, b2, b3⟩ := P_rnorm hL hR hM (x := 0) (z := 9) (r := 0) (c := 9) rfl rfl (by omega) (by omega) (by omega) (by omega) hr hs hfu
  unfold f_X4_norm f_X5_norm
  rw [a1, Option.bind_some, b1, Option.bind_some]
  have inv : IN cd E kk md mn q k T cf deg mon X Cc Kl D F M1 P C N rw1 dg1 kn fc oft f := by
    refine ⟨⟨hL, hR, hD, hM⟩, hmd, hP, by rw [a2 0 (by decide) (by decide) (by decide)]; exact hf, RX_fr b2 (by decide) hr, hs, ?_, ?_⟩
    · rcases hN with q | ⟨q, q2, q3⟩
      · exact Or.inl q
      · exact Or.inr ⟨q, q2, FD_fr hP (fun x hx => a2 x (fun e => by rw [e] at hx; exact absurd hx (by decide)) (fun e => by rw [e] at hx; exact absurd hx (by decide)) (fun e => by rw [e] at hx; exact absurd hx (by decide))) q3⟩
    · rcases hkn with q | ⟨q, q2, q3⟩
      · exact Or.inl q
      · exact Or.inr ⟨q, q2, FDR_fr b2 (fun r hr => by simp at hr; omega) q3⟩
  by_cases c : p < 0
  · refine ⟨0, M1, rw1, dg1, ?_, by rw [if_pos c], inv⟩
    unfold f_X2_get
    rw [if_pos c, Option.bind_some]
  · obtain ⟨j, hj, rfl⟩ := nI_of c
    by_cases c2 : j < 16
    · refine ⟨_, M1, rw1, dg1, by rw [P_get hC a3 hj, Option.bind_some], ?_, inv⟩
      rw [if_neg c, if_pos (show nI j < 16 from nI_lt (b := 16) c2 (by decide))]
      show (f_X5_cell rw1 9 (nI j)).bind _ = _
      rw [P_rget (x := 9) (r := 9) rfl rfl (by omega) c2 b3.1, Option.bind_some]
    · refine ⟨0, M1, rw1, dg1, ?_, by rw [if_neg c, if_neg (show ¬ nI j < 16 from nI_nlt (b := 16) (by omega) hj)], inv⟩
      unfold f_X2_get
      rw [if_neg c, if_pos (show (16 : Int32) ≤ nI j from nI_le (a := 16) (by omega) hj), Option.bind_some]
theorem S_move {K R : Type} [Lean.Grind.CommRing K] [Lean.Grind.CommRing R] {cd : K → Int32} {E : Nat → Int32} {kk : Int32} {md : Nat → Int32} {mn : Int64} {q k : Nat} {T : K} {cf : R → Nat → K} {deg : R → Nat} {mon : R → Prop} {X : R} {Cc : K → R} {Kl : List R} {D F : R → R} {M : Fin 20 → Nat → Int32} {P : Nat → Fin 20} {C N : Nat → Int32} {rw dg : Nat → Int32} {kn fc : Int32} {oft : Nat → Int32} {f : R} (h : IN cd E kk md mn q k T cf deg mon X Cc Kl D F M P C N rw dg kn fc oft f) (th v : Int32) {fu : Nat} (hfu : 64 ≤ fu) : (∃ M' N' rw' dg' kn' f', f_X4_move fu M E N v = some (.inr (M', N')) ∧ f_X5_move fu th kk mn md rw dg kn v = some (0, rw', dg', kn') ∧ IN cd E kk md mn q k T cf deg mon X Cc Kl D F M' P C N' rw' dg' kn' fc oft f') ∨ (f_X4_move fu M E N v = some (.inl ("java/lang/IllegalArgumentException", M, N)) ∧ f_X5_move fu th kk mn md rw dg kn v = some (1, rw, dg, kn)) := by
  obtain ⟨⟨hL, hR, hD, hM⟩, hmd, hP, hf, hr, hs, hN, hkn⟩ := h
  have hC := hL.1
  unfold f_X4_move f_X5_move
  rcases el_cases hL v with ⟨a, rfl, e1, e2⟩ | ⟨e1, e2⟩
  · obtain ⟨M1, a1, a2, a3⟩ := P_disp hC hf a (show 18 ≤ fu by omega)
    obtain ⟨rw1, dg1, b1, b2, b3⟩ := P_rmov hC (x := 0) (z := 2) (a := 0) (b := 2) rfl rfl (by omega) (by omega) (by omega) hr a (show 20 ≤ fu by omega)
    obtain ⟨rw2, dg2, d1, d2, d3⟩ := P_rcopy (x := 2) (y := 0) (a := 2) (b := 0) rfl rfl (by omega) (by omega) (by omega) b3 (show 17 ≤ fu by omega)
    have hd6 : dl (cf f) 6 := dl_mono (pr_dl hR f) hs
    have t6 : tau a 16 (cf f) = tau a 6 (cf f) := tau_all a hd6 (by omega)
    obtain ⟨f', ef⟩ := pr_ex hR (f := tau a 16 (cf f)) (n := 16) (tau_dl a 16 _)
    rw [← ef] at a3 d3
    refine Or.inl ⟨M1, va_up N 1 0, rw2, dg2, 0, f', ?_, ?_, ⟨hL, hR, hD, hM⟩, hmd, hP, a3, d3, ?_, Or.inl (N_0 N), Or.inl rfl⟩
    · rw [e1, tb_r, a1]; rfl
    · rw [e2, Option.bind_some, if_neg n1_0, Option.bind_some, fa_00, Option.bind_some, if_pos rfl, b1, Option.bind_some]
      show (f_X5_copy fu rw1 dg1 2 0).bind _ = _
      rw [d1, Option.bind_some]
    · rw [ef, t6]
      exact sq_le (tau_dl a 6 _)
  · rw [e1, e2, tb_l, Option.bind_some, if_pos rfl]
    exact Or.inr ⟨rfl, rfl⟩
