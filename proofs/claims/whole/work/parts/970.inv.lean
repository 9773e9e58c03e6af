/-! What holds between the class and the reference from call to call; the calls that leave both as they are. -/
def MDX (E md : (Nat → Int32)) : Prop := ∀ i, i ≤ 3 → f_X0_modulusAt E (nI i) = some (md i)
def IN {K R : Type} [Lean.Grind.CommRing K] [Lean.Grind.CommRing R] (cd : K → Int32) (E : (Nat → Int32)) (kk : Int32) (md : (Nat → Int32)) (mn : Int64) (q k : Nat) (T : K) (cf : R → Nat → K) (deg : R → Nat) (mon : R → Prop) (X : R) (Cc : K → R) (Kl : List R) (D F : R → R) (M : (Fin 20 → Nat → Int32)) (P : Nat → Fin 20) (C N : (Nat → Int32)) (rw dg : (Nat → Int32)) (kn fc : Int32) (oft : (Nat → Int32)) (f : R) : Prop :=
  SY cd E kk md mn q k T cf deg mon X Cc Kl D F ∧ (MDX E md ∧ (k = 1 ∨ E 5 = 101)) ∧ PI P ∧ RW cd (M 0) (cf f) ∧ RX cd rw dg 0 (cf f) ∧ sq (cf f) ≤ 6 ∧ (N 1 = 0 ∨ (N 1 = 1 ∧ ¬ f = 0 ∧ FD cd cf deg mon D M P C N f)) ∧ (kn = 0 ∨ (kn = 1 ∧ ¬ f = 0 ∧ FDR cd cf deg mon D rw dg fc oft f))
theorem q_lt {K : Type} [Lean.Grind.CommRing K] {cd : K → Int32} {E : Nat → Int32} {kk : Int32} {md : Nat → Int32} {mn : Int64} {q k : Nat} {T : K} (hL : FL cd E kk md mn q k T) : q < 2 ^ 30 ∧ 101 ≤ q := by rcases hL.2.1.2.2.1 with h | h | h <;> omega
theorem el_cases {K : Type} [Lean.Grind.CommRing K] {cd : K → Int32} {E : Nat → Int32} {kk : Int32} {md : Nat → Int32} {mn : Int64} {q k : Nat} {T : K} (hL : FL cd E kk md mn q k T) (p : Int32) : (∃ a : K, p = cd a ∧ f_X4_requireElement E p = some (.inr ()) ∧ f_X5_isElement mn p = some 1) ∨ (f_X4_requireElement E p = some (.inl "java/lang/IllegalArgumentException") ∧ f_X5_isElement mn p = some 0) := by
  have hq := (q_lt hL).1
  unfold f_X4_requireElement f_X5_isElement
  by_cases c : p < 0
  · rw [if_pos c, if_pos c]; exact Or.inr ⟨rfl, rfl⟩
  · rw [if_neg c, if_neg c, hL.2.1.2.2.2.1, hL.2.1.2.2.2.2]
    obtain ⟨j, hj, rfl⟩ := nI_of c
    rw [nI_l hj]
    by_cases c2 : j < q
    · obtain ⟨a, ha⟩ := hL.2.2.2.2.2.2.2 j c2
      exact Or.inl ⟨a, ha.symm, by rw [if_pos (nI_lt c2 (by omega))], by rw [if_neg (fun z => by have := (lN_cge (by omega) (by omega)).mp z; omega)]⟩
    · exact Or.inr ⟨by rw [if_neg (nI_nlt (by omega) hj)], by rw [if_pos ((lN_cge (by omega) (by omega)).mpr (by omega))]⟩
theorem pw_cases (p : Int32) : (∃ i, i ≤ 5 ∧ p = nI i ∧ f_X4_requirePower p = some (.inr ()) ∧ f_X5_isPower p = some 1) ∨ (f_X4_requirePower p = some (.inl "java/lang/IndexOutOfBoundsException") ∧ f_X5_isPower p = some 0) := by
  unfold f_X4_requirePower f_X5_isPower
  by_cases c : p < 0
  · rw [if_pos c, if_pos c]; exact Or.inr ⟨rfl, rfl⟩
  · rw [if_neg c, if_neg c]
    obtain ⟨j, hj, rfl⟩ := nI_of c
    by_cases c2 : j ≤ 5
    · exact Or.inl ⟨j, c2, rfl, by rw [if_pos (show nI j ≤ 5 from nI_le (b := 5) c2 (by decide))], by rw [if_neg (show ¬ (5 : Int32) < nI j from nI_nlt (a := 5) c2 (by decide))]⟩
    · exact Or.inr ⟨by rw [if_neg (show ¬ nI j ≤ 5 from nI_ge (a := 5) (by omega) hj)], by rw [if_pos (show (5 : Int32) < nI j from nI_lt (a := 5) (by omega) hj)]⟩
theorem so_cases {K R : Type} [Lean.Grind.CommRing K] [Lean.Grind.CommRing R] {cd : K → Int32} {E : Nat → Int32} {kk : Int32} {md : Nat → Int32} {mn : Int64} {q k : Nat} {T : K} {cf : R → Nat → K} {deg : R → Nat} {mon : R → Prop} {X : R} {Cc : K → R} {Kl : List R} {D F : R → R} {M : Fin 20 → Nat → Int32} {P : Nat → Fin 20} {C N : Nat → Int32} {rw dg : Nat → Int32} {kn fc : Int32} {oft : Nat → Int32} {f : R} (h : IN cd E kk md mn q k T cf deg mon X Cc Kl D F M P C N rw dg kn fc oft f) {fu : Nat} (hfu : 17 ≤ fu) : (¬ f = 0 ∧ f_X4_requireSome fu M = some (.inr ()) ∧ f_X5_isNothing dg = some 0) ∨ (f = 0 ∧ f_X4_requireSome fu M = some (.inl "java/lang/IllegalStateException") ∧ f_X5_isNothing dg = some 1) := by
  obtain ⟨⟨hL, hR, hD, hM⟩, hmd, hP, hf, hr, hs, hN, hkn⟩ := h
  have c0 : (0 : Int32).toNatClampNeg = 0 := by decide
  have a1 : f_X4_requireSome fu M = if 0 ≤ dI (sq (cf f)) then some (.inr ()) else some (.inl "java/lang/IllegalStateException") := by
    unfold f_X4_requireSome
    rw [P_deg hL.1 hf hfu, Option.bind_some]
  have a2 : f_X5_isNothing dg = if 0 ≤ dI (sq (cf f)) then some 0 else some 1 := by
    unfold f_X5_isNothing
    rw [if_neg (by decide), c0, hr.2]
  rw [a1, a2]
  by_cases z : f = 0
  · rw [(pr_sq0 hR f).mpr z]
    exact Or.inr ⟨z, rfl, rfl⟩
  · have g : 0 ≤ dI (sq (cf f)) := by
      rw [pr_sq hR z, dI_s]
      exact nI_pos' (by have := pr_sq hR z; omega)
    rw [if_pos g, if_pos g]
    exact Or.inl ⟨z, rfl, rfl⟩
theorem fa_00 (th : Int32) : f_X5_fails th 0 0 = some (0, 0) := rfl
theorem fa_1 (th x : Int32) : f_X5_fails th 1 x = some (1, 1) := rfl
theorem fa_01 (th : Int32) : f_X5_fails th 0 1 = some (1, 2) := rfl
theorem tb_r {α β γ : Type} (v : β) (kx : α → Option γ) (k : β → Option γ) : tb (some (.inr v)) kx k = k v := rfl
theorem tb_l {α β γ : Type} (v : α) (kx : α → Option γ) (k : β → Option γ) : tb (some (.inl v)) kx k = kx v := rfl
theorem n1_0 : ¬ (1 : Int32) = 0 := by decide
theorem S_modulus {K R : Type} [Lean.Grind.CommRing K] [Lean.Grind.CommRing R] {cd : K → Int32} {E : Nat → Int32} {kk : Int32} {md : Nat → Int32} {mn : Int64} {q k : Nat} {T : K} {cf : R → Nat → K} {deg : R → Nat} {mon : R → Prop} {X : R} {Cc : K → R} {Kl : List R} {D F : R → R} {M : Fin 20 → Nat → Int32} {P : Nat → Fin 20} {C N : Nat → Int32} {rw dg : Nat → Int32} {kn fc : Int32} {oft : Nat → Int32} {f : R} (h : IN cd E kk md mn q k T cf deg mon X Cc Kl D F M P C N rw dg kn fc oft f) (th p : Int32) : (∃ v, f_X4_modulus E p = some (.inr v) ∧ f_X5_modulus th md p = some (v, 0)) ∨ (f_X4_modulus E p = some (.inl "java/lang/IndexOutOfBoundsException") ∧ f_X5_modulus th md p = some (0, 1)) := by
  unfold f_X4_modulus f_X5_modulus
  by_cases c : p < 0
  · rw [if_pos c, if_pos c]; exact Or.inr ⟨rfl, rfl⟩
  · rw [if_neg c, if_neg c]
    obtain ⟨j, hj, rfl⟩ := nI_of c
    by_cases c2 : j ≤ 3
    · have e3 : nI j ≤ 3 := nI_le (b := 3) c2 (by decide)
      rw [if_pos e3, if_pos e3, h.2.1.1 j c2, Option.bind_some, Option.bind_some, Option.bind_some, fa_00, Option.bind_some, if_pos rfl, if_neg (nI_in (by omega) (by decide)), nI_clamp (by omega)]
      exact Or.inl ⟨_, rfl, rfl⟩
    · have e3 : ¬ nI j ≤ 3 := nI_ge (a := 3) (by omega) hj
      rw [if_neg e3, if_neg e3]
      exact Or.inr ⟨rfl, rfl⟩
theorem S_at {K R : Type} [Lean.Grind.CommRing K] [Lean.Grind.CommRing R] {cd : K → Int32} {E : Nat → Int32} {kk : Int32} {md : Nat → Int32} {mn : Int64} {q k : Nat} {T : K} {cf : R → Nat → K} {deg : R → Nat} {mon : R → Prop} {X : R} {Cc : K → R} {Kl : List R} {D F : R → R} {M : Fin 20 → Nat → Int32} {P : Nat → Fin 20} {C N : Nat → Int32} {rw dg : Nat → Int32} {kn fc : Int32} {oft : Nat → Int32} {f : R} (h : IN cd E kk md mn q k T cf deg mon X Cc Kl D F M P C N rw dg kn fc oft f) (th p : Int32) : (∃ v, f_X4_at M p = some (.inr v) ∧ f_X5_at th rw p = some (v, 0)) ∨ (f_X4_at M p = some (.inl "java/lang/IndexOutOfBoundsException") ∧ f_X5_at th rw p = some (0, 1)) := by
  obtain ⟨⟨hL, hR, hD, hM⟩, hmd, hP, hf, hr, hs, hN, hkn⟩ := h
  unfold f_X4_at f_X5_at
  rcases pw_cases p with ⟨i, hi, rfl, e1, e2⟩ | ⟨e1, e2⟩
  · rw [e1, e2, tb_r, Option.bind_some, if_neg n1_0, Option.bind_some, fa_00, Option.bind_some, if_pos rfl, P_get hL.1 hf (by omega), Option.bind_some, P_rget (x := 0) (r := 0) rfl rfl (by omega) (by omega) hr.1, Option.bind_some]
    exact Or.inl ⟨_, rfl, rfl⟩
  · rw [e1, e2, tb_l, Option.bind_some, if_pos rfl, Option.bind_some, fa_1, Option.bind_some, if_neg n1_0]
    exact Or.inr ⟨rfl, rfl⟩
theorem S_reckon {K R : Type} [Lean.Grind.CommRing K] [Lean.Grind.CommRing R] {cd : K → Int32} {E : Nat → Int32} {kk : Int32} {md : Nat → Int32} {mn : Int64} {q k : Nat} {T : K} {cf : R → Nat → K} {deg : R → Nat} {mon : R → Prop} {X : R} {Cc : K → R} {Kl : List R} {D F : R → R} {M : Fin 20 → Nat → Int32} {P : Nat → Fin 20} {C N : Nat → Int32} {rw dg : Nat → Int32} {kn fc : Int32} {oft : Nat → Int32} {f : R} (h : IN cd E kk md mn q k T cf deg mon X Cc Kl D F M P C N rw dg kn fc oft f) (th p a b : Int32) {fu : Nat} (hfu : 64 ≤ fu) : (∃ v, f_X4_reckon fu E p a b = some (.inr v) ∧ f_X5_reckon fu th kk mn md p a b = some (v, 0)) ∨ (f_X4_reckon fu E p a b = some (.inl "java/lang/IllegalArgumentException") ∧ f_X5_reckon fu th kk mn md p a b = some (0, 1)) ∨ (f_X4_reckon fu E p a b = some (.inl "java/lang/ArithmeticException") ∧ f_X5_reckon fu th kk mn md p a b = some (0, 2)) := by
  obtain ⟨⟨hL, hR, hD, hM⟩, hmd, hP, hf, hr, hs, hN, hkn⟩ := h
  have hC := hL.1
  have hF := hL.2.1
  have hq := q_lt hL
  have no : ∀ w15 : Option Int32, (∃ v, w15 = some v) → ∀ kx : Int32 → Option (Int32 × Int32), (w15.bind (fun w15 => (f_X5_fails th 1 w15).bind (fun u19 => if u19.1 = 0 then kx w15 else some (0, u19.2)))) = some (0, 1) := fun w15 ⟨v, e⟩ kx => by
    rw [e, Option.bind_some, fa_1, Option.bind_some, if_neg n1_0]
  have w15e : ∃ v, (if p = 3 then ((if b = 0 then some 1 else some 0 : Option (Int32))).bind (fun w17 => some w17) else some 0 : Option (Int32)) = some v := by
    by_cases c : p = 3
    · rw [if_pos c]
      by_cases c2 : b = 0
      · rw [if_pos c2]; exact ⟨_, rfl⟩
      · rw [if_neg c2]; exact ⟨_, rfl⟩
    · rw [if_neg c]; exact ⟨_, rfl⟩
  unfold f_X4_reckon f_X5_reckon
  rcases el_cases hL a with ⟨x, rfl, e1, e2⟩ | ⟨e1, e2⟩
  · rcases el_cases hL b with ⟨y, rfl, g1, g2⟩ | ⟨g1, g2⟩
    · rw [e1, e2, tb_r, Option.bind_some, if_neg n1_0, g1, g2, tb_r, Option.bind_some, if_neg n1_0]
      by_cases c : p < 0
      · rw [if_pos c, if_pos c]
        exact Or.inr (Or.inl ⟨rfl, no _ w15e _⟩)
      · rw [if_neg c, if_neg c]
        obtain ⟨j, hj, rfl⟩ := nI_of c
        by_cases c2 : j ≤ 3
        · rw [if_pos (show nI j ≤ 3 from nI_le (b := 3) c2 (by decide)), if_neg (show ¬ (3 : Int32) < nI j from nI_nlt (a := 3) c2 (by decide)), Option.bind_some, Option.bind_some, Option.bind_some, Option.bind_some, if_neg n1_0, Option.bind_some]
          have hj4 : j = 0 ∨ j = 1 ∨ j = 2 ∨ j = 3 := by omega
          rcases hj4 with e | e | e | e <;> subst e
          · have h3 : ¬ nI 0 = 3 := by decide
            have h0 : nI 0 = 0 := by decide
            rw [if_neg h3, if_pos h0, if_neg h3, Option.bind_some, fa_00, Option.bind_some, if_pos rfl, if_pos h0, hC.2.2.1, Option.bind_some, P_add, hC.2.2.1, Option.bind_some]
            exact Or.inl ⟨_, rfl, rfl⟩
          · have h3 : ¬ nI 1 = 3 := by decide
            have h0 : ¬ nI 1 = 0 := by decide
            have h1 : nI 1 = 1 := by decide
            rw [if_neg h3, if_neg h0, if_pos h1, if_neg h3, Option.bind_some, fa_00, Option.bind_some, if_pos rfl, if_neg h0, if_pos h1, hC.2.2.2.1, Option.bind_some, hC.2.2.2.2.2.1, Option.bind_some]
            exact Or.inl ⟨_, rfl, rfl⟩
          · have h3 : ¬ nI 2 = 3 := by decide
            have h0 : ¬ nI 2 = 0 := by decide
            have h1 : ¬ nI 2 = 1 := by decide
            have h2 : nI 2 = 2 := by decide
            rw [if_neg h3, if_neg h0, if_neg h1, if_pos h2, if_neg h3, Option.bind_some, fa_00, Option.bind_some, if_pos rfl, if_neg h0, if_neg h1, if_pos h2, Option.bind_some, hC.2.2.2.2.1, Option.bind_some, hC.2.2.2.2.2.2.2 fu x y (by omega), Option.bind_some]
            exact Or.inl ⟨_, rfl, rfl⟩
          · have h3 : nI 3 = 3 := by decide
            have h0 : ¬ nI 3 = 0 := by decide
            have h1 : ¬ nI 3 = 1 := by decide
            have h2 : ¬ nI 3 = 2 := by decide
            rw [if_pos h3, if_pos h3]
            by_cases y0 : cd y = 0
            · rw [if_pos y0, if_pos y0]
              exact Or.inr (Or.inr ⟨rfl, rfl⟩)
            · have i2 : E 1 - 2 = nI (q - 2) := by rw [hF.2.2.2.1, show (2 : Int32) = nI 2 from rfl, pk_sub (by omega)]
              rw [if_neg y0, if_neg y0, Option.bind_some, Option.bind_some, fa_00, Option.bind_some, if_pos rfl, if_neg h0, if_neg h1, if_neg h2, if_neg h0, if_neg h1, if_neg h2, i2, P_pow hC (by omega) y (by omega), Option.bind_some, hC.2.2.2.2.1, Option.bind_some, P_rinv hC hF hfu, Option.bind_some, Option.bind_some, hC.2.2.2.2.2.2.2 fu x _ (by omega), Option.bind_some]
              exact Or.inl ⟨_, rfl, rfl⟩
        · rw [if_neg (show ¬ nI j ≤ 3 from nI_ge (a := 3) (by omega) hj), if_pos (show (3 : Int32) < nI j from nI_lt (a := 3) (by omega) hj)]
          exact Or.inr (Or.inl ⟨rfl, no _ w15e _⟩)
    · rw [e1, e2, tb_r, Option.bind_some, if_neg n1_0, g1, g2, tb_l, Option.bind_some, if_pos rfl]
      exact Or.inr (Or.inl ⟨rfl, no _ w15e _⟩)
  · rw [e1, e2, tb_l, Option.bind_some, if_pos rfl]
    exact Or.inr (Or.inl ⟨rfl, no _ w15e _⟩)
