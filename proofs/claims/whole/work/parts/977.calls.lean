/-! All sixteen calls, over what holds. -/
theorem rj2 : (2 : Int32).toNatClampNeg = 2 ∧ (3 : Int32).toNatClampNeg = 3 ∧ (1 : Int32).toNatClampNeg = 1 ∧ (0 : Int32).toNatClampNeg = 0 := by decide
theorem T_field {M : (Fin 20 → Nat → Int32)} {E : (Nat → Int32)} {P : Nat → Fin 20} {C N : (Nat → Int32)} {kk : Int32} {mn : Int64} {md rw dg : (Nat → Int32)} {kn fc : Int32} {oft : (Nat → Int32)} (h : INV M E P C N kk mn md rw dg kn fc oft) (th p : Int32) (a b c : Int64) {fu : Nat} (hfu : 20000000 ≤ fu) : ∃ M' E' N' kk' mn' md' rw' dg' kn', INV M' E' P C N' kk' mn' md' rw' dg' kn' fc oft ∧ ((∃ w, f_X4_field fu M E N p a b c = some (.inr (w, M', E', N')) ∧ f_X5_field fu th kk mn md rw dg kn p a b c = some (w, 0, kk', mn', md', rw', dg', kn')) ∨ (f_X4_field fu M E N p a b c = some (.inl ("java/lang/IllegalArgumentException", M', E', N')) ∧ f_X5_field fu th kk mn md rw dg kn p a b c = some (0, 1, kk', mn', md', rw', dg', kn'))) := by
  have hP : PI P := by
    obtain ⟨_, _, _, _, _, _, _, _, _, _, _, _, _, _, _, _, _, h⟩ := h
    exact h.2.2.1
  unfold f_X4_field f_X5_field
  by_cases c1 : p < 1
  · rw [if_pos c1, if_pos c1]
    exact ⟨M, E, N, kk, mn, md, rw, dg, kn, h, Or.inr ⟨rfl, rfl⟩⟩
  rw [if_neg c1, if_neg c1]
  by_cases c3 : p ≤ 3
  · obtain ⟨m0, x1, y1⟩ := num_ex a
    obtain ⟨m1, x2, y2⟩ := num_ex b
    obtain ⟨m2, x3, y3⟩ := num_ex c
    rw [if_pos c3, if_pos c3, x1, x2, x3, y1, y2, y3, Option.bind_some, Option.bind_some, Option.bind_some, Option.bind_some, Option.bind_some, Option.bind_some, fa_00, Option.bind_some, if_pos rfl, Option.bind_some]
    have hp : p = 1 ∨ p = 2 ∨ p = 3 := by
      obtain ⟨j, hj, rfl⟩ := nI_of (x := p) (fun z => c1 (Int32.lt_trans z (by decide)))
      have h1 : ¬ j < 1 := fun z => c1 (nI_lt (b := 1) z (by decide))
      have h3 : j ≤ 3 := Classical.byContradiction (fun z => nI_ge (a := 3) (by omega) hj c3)
      have : j = 1 ∨ j = 2 ∨ j = 3 := by omega
      rcases this with e | e | e <;> subst e
      · exact Or.inl rfl
      · exact Or.inr (Or.inl rfl)
      · exact Or.inr (Or.inr rfl)
    rcases hp with e | e | e <;> subst e
    · obtain ⟨M', E', rw', dg', a1, a2, a3, a4⟩ := fld1 (fu := fu) (by omega) M E hP C N md rw dg fc oft m0 (nI m1.val) (nI m2.val)
      refine ⟨M', E', va_up N 1 0, nI 1, 101, MB md (nI m0.val) 1 0 0, rw', dg', 0, a4, Or.inl ⟨1, ?_, ?_⟩⟩
      · rw [a1, Option.bind_some, if_neg n1_0, a2]; rfl
      · rw [if_pos (by decide), Option.bind_some, if_pos (by decide), Option.bind_some]
        obtain ⟨fu', rfl⟩ : ∃ n, fu = n + 1 := ⟨fu - 1, by omega⟩
        rw [f_X5_field_l66, if_neg (by decide), if_pos (by decide), if_pos rfl, Option.bind_some, if_neg (by decide), if_pos rfl, Option.bind_some, if_neg (by decide), if_neg (by decide), Option.bind_some, if_neg (by decide), if_neg (by decide), Option.bind_some, if_neg (by decide), a3, Option.bind_some, rj2.1, rj2.2.1, rj2.2.2.1, rj2.2.2.2]
        rfl
    · have hz : nI (0 : Z1).val = 0 := rfl
      rw [if_neg (by decide), Option.bind_some, Option.bind_some, if_pos (by decide), Option.bind_some]
      rcases hr_r (k := 2) (Or.inl rfl) m0 m1 0 (fun y23 =>
      ((
        if (2 : Int32) = 1 then
          some 101
        else
          ((
            if (2 : Int32) = 2 then
              some 10201
            else
              some 1030301 : Option (Int64))).bind (fun w26 =>
          some w26) : Option (Int64))).bind (fun w24 =>
      if (0 : Int32) < 0 ∨ 4 ≤ (0 : Int32).toNatClampNeg then none else
      ((
        if (2 : Int32) = 1 then
          some 1
        else
          some (nI m1.val) : Option (Int32))).bind (fun w29 =>
      if (1 : Int32) < 0 ∨ 4 ≤ (1 : Int32).toNatClampNeg then none else
      ((
        if (2 : Int32) = 2 then
          some 1
        else
          some 0 : Option (Int32))).bind (fun w32 =>
      if (2 : Int32) < 0 ∨ 4 ≤ (2 : Int32).toNatClampNeg then none else
      ((
        if (2 : Int32) = 3 then
          some 1
        else
          some 0 : Option (Int32))).bind (fun w35 =>
      if (3 : Int32) < 0 ∨ 4 ≤ (3 : Int32).toNatClampNeg then none else
      (f_X5_clear fu rw dg 0).bind (fun u38 =>
      some ((1 : Int32), (0 : Int32), (2 : Int32), w24, upd (upd (upd (upd md (0 : Int32).toNatClampNeg (nI m0.val)) (1 : Int32).toNatClampNeg w29) (2 : Int32).toNatClampNeg w32) (3 : Int32).toNatClampNeg w35, u38.1, u38.2, (0 : Int32)))))))) fu 0 kk mn md rw dg kn a b c 101 0 fu (by omega) (by omega) with ⟨hn, y, hy⟩ | ⟨hx, hy⟩
      · obtain ⟨M', E', rw', dg', a1, a2, a3, a4⟩ := fld2 (fu := fu) (by omega) M E hP C N md rw dg fc oft m0 m1 (nI m2.val) (fun x => hn x (Nat.zero_le _))
        refine ⟨M', E', va_up N 1 0, nI 2, 10201, MB md (nI m0.val) (nI m1.val) 1 0, rw', dg', 0, a4, Or.inl ⟨1, ?_, ?_⟩⟩
        · rw [a1, Option.bind_some, if_neg n1_0, a2]; rfl
        · refine (show _ = _ from hy).trans ?_
          rw [if_neg (by decide), if_pos rfl, Option.bind_some, Option.bind_some, if_neg (by decide), if_neg (by decide), Option.bind_some, if_neg (by decide), if_pos rfl, Option.bind_some, if_neg (by decide), if_neg (by decide), Option.bind_some, if_neg (by decide), a3, Option.bind_some, rj2.1, rj2.2.1, rj2.2.2.1, rj2.2.2.2]
          rfl
      · refine ⟨M, E, N, kk, mn, md, rw, dg, kn, h, Or.inl ⟨0, ?_, hy⟩⟩
        have hrt : f_X0_hasRoot fu 2 (nI m0.val) (nI m1.val) 0 = some 1 := by
          obtain ⟨v, v1, v2⟩ := hr_c (k := 2) (Or.inl rfl) m0 m1 0 fu 101 0 fu (by omega) (by omega)
          have : v = 1 := by
            rcases v2 with ⟨_, v2⟩ | ⟨v2, _⟩
            · obtain ⟨x, hx⟩ := hx
              exact absurd hx (v2 x (Nat.zero_le _))
            · exact v2
          rw [this] at v1
          exact v1
        unfold f_X0_become
        rw [if_neg (by decide), Option.bind_some, if_pos (by decide), Option.bind_some, if_neg (by decide), hrt, Option.bind_some, if_neg n1_0, Option.bind_some, if_pos rfl]
    · rw [if_neg (by decide), Option.bind_some, Option.bind_some, if_neg (by decide), Option.bind_some]
      rcases hr_r (k := 3) (Or.inr rfl) m0 m1 m2 (fun y23 =>
      ((
        if (3 : Int32) = 1 then
          some 101
        else
          ((
            if (3 : Int32) = 2 then
              some 10201
            else
              some 1030301 : Option (Int64))).bind (fun w26 =>
          some w26) : Option (Int64))).bind (fun w24 =>
      if (0 : Int32) < 0 ∨ 4 ≤ (0 : Int32).toNatClampNeg then none else
      ((
        if (3 : Int32) = 1 then
          some 1
        else
          some (nI m1.val) : Option (Int32))).bind (fun w29 =>
      if (1 : Int32) < 0 ∨ 4 ≤ (1 : Int32).toNatClampNeg then none else
      ((
        if (3 : Int32) = 2 then
          some 1
        else
          some (nI m2.val) : Option (Int32))).bind (fun w32 =>
      if (2 : Int32) < 0 ∨ 4 ≤ (2 : Int32).toNatClampNeg then none else
      ((
        if (3 : Int32) = 3 then
          some 1
        else
          some 0 : Option (Int32))).bind (fun w35 =>
      if (3 : Int32) < 0 ∨ 4 ≤ (3 : Int32).toNatClampNeg then none else
      (f_X5_clear fu rw dg 0).bind (fun u38 =>
      some ((1 : Int32), (0 : Int32), (3 : Int32), w24, upd (upd (upd (upd md (0 : Int32).toNatClampNeg (nI m0.val)) (1 : Int32).toNatClampNeg w29) (2 : Int32).toNatClampNeg w32) (3 : Int32).toNatClampNeg w35, u38.1, u38.2, (0 : Int32)))))))) fu 0 kk mn md rw dg kn a b c 101 0 fu (by omega) (by omega) with ⟨hn, y, hy⟩ | ⟨hx, hy⟩
      · obtain ⟨M', E', rw', dg', a1, a2, a3, a4⟩ := fld3 (fu := fu) (by omega) M E hP C N md rw dg fc oft m0 m1 m2 (fun x => hn x (Nat.zero_le _))
        refine ⟨M', E', va_up N 1 0, nI 3, 1030301, MB md (nI m0.val) (nI m1.val) (nI m2.val) 1, rw', dg', 0, a4, Or.inl ⟨1, ?_, ?_⟩⟩
        · rw [a1, Option.bind_some, if_neg n1_0, a2]; rfl
        · refine (show _ = _ from hy).trans ?_
          rw [if_neg (by decide), if_neg (by decide), Option.bind_some, Option.bind_some, if_neg (by decide), if_neg (by decide), Option.bind_some, if_neg (by decide), if_neg (by decide), Option.bind_some, if_neg (by decide), if_pos rfl, Option.bind_some, if_neg (by decide), a3, Option.bind_some, rj2.1, rj2.2.1, rj2.2.2.1, rj2.2.2.2]
          rfl
      · refine ⟨M, E, N, kk, mn, md, rw, dg, kn, h, Or.inl ⟨0, ?_, hy⟩⟩
        have hrt : f_X0_hasRoot fu 3 (nI m0.val) (nI m1.val) (nI m2.val) = some 1 := by
          obtain ⟨v, v1, v2⟩ := hr_c (k := 3) (Or.inr rfl) m0 m1 m2 fu 101 0 fu (by omega) (by omega)
          have : v = 1 := by
            rcases v2 with ⟨_, v2⟩ | ⟨v2, _⟩
            · obtain ⟨x, hx⟩ := hx
              exact absurd hx (v2 x (Nat.zero_le _))
            · exact v2
          rw [this] at v1
          exact v1
        unfold f_X0_become
        rw [if_neg (by decide), Option.bind_some, if_neg (by decide), Option.bind_some, if_neg (by decide), hrt, Option.bind_some, if_neg n1_0, Option.bind_some, if_pos rfl]
  · rw [if_neg c3, if_neg c3]
    exact ⟨M, E, N, kk, mn, md, rw, dg, kn, h, Or.inr ⟨rfl, rfl⟩⟩
