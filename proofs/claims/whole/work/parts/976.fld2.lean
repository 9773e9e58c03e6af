/-! A field is taken: the three degrees. -/
theorem fld1 {fu : Nat} (hfu : 64 ≤ fu) (M : (Fin 20 → Nat → Int32)) (E : (Nat → Int32)) {P : Nat → Fin 20} (hP : PI P) (C N md rw dg : (Nat → Int32)) (fc : Int32) (oft : (Nat → Int32)) (m0 : Z1) (b c : Int32) : ∃ M' E' rw' dg', f_X0_become fu E 1 (nI m0.val) b c = some (1, E') ∧ f_X2_clear fu M 0 = some M' ∧ f_X5_clear fu rw dg 0 = some (rw', dg') ∧ INV M' E' P C (va_up N 1 0) (nI 1) 101 (MB md (nI m0.val) 1 0 0) rw' dg' 0 fc oft := by
  let cd : Z1 → Int32 := fun x => e3 x 0 0
  have g0 : MB md (nI m0.val) 1 0 0 0 = nI m0.val := rfl
  have hC : ∀ E, CX cd E 1 (MB md (nI m0.val) 1 0 0) := fun E => cx1 g0
  obtain ⟨M', a1, a2, a3⟩ := P_clear (hC E) M 0 (show 17 ≤ fu by omega)
  obtain ⟨rw', dg', b1, b2, b3⟩ := P_rclear (hC E) rw dg (x := 0) (r := 0) rfl (by omega) (show 17 ≤ fu by omega)
  have bo := become_ok (E := E) (a := 1) (b := 101) (c := nI m0.val) (d := 0) (e := 0) (T := -m0) (hC _) (fun x => hC _) hfu
  obtain ⟨t0, t1, t2, t3, t4, t5, t6, t7⟩ := EB_at E 1 101 (nI m0.val) 0 0 (cd (-m0)) (cd ((-m0) ^ 101)) (cd ((-m0) ^ 101 * (-m0) ^ 101))
  refine ⟨M', va_up (va_up (EB E 1 101 (nI m0.val) 0 0 (cd (-m0))) 6 (cd ((-m0) ^ 101))) 7 (cd ((-m0) ^ 101 * (-m0) ^ 101)), rw', dg', ?_, a1, b1, ?_⟩
  · unfold f_X0_become
    rw [if_pos (by decide), Option.bind_some, if_pos (by decide), Option.bind_some, if_pos (by decide), if_pos rfl, Option.bind_some, if_pos rfl, Option.bind_some, neg_e]
    exact bo
  · letI := pkRing Z1
    refine INV_of (K := Z1) (R := PK Z1) (q := 101) (k := 1) (T := -m0) (fl1 (m0 := m0) t0 t1 rfl g0 t5 t6 t7) (pk_pr z_fld ax1) (mdx_of (k := 1) (by omega) t0 (fun i hi => ?_)) (Or.inl rfl) hP a3 b3 (N_0 N)
    have : i = 0 ∨ i = 1 ∨ i = 2 ∨ i = 3 := by omega
    rcases this with e | e | e | e <;> subst e
    · exact t2.symm
    · rfl
    · exact t4.symm
    · rfl
theorem fld2 {fu : Nat} (hfu : 200 ≤ fu) (M : (Fin 20 → Nat → Int32)) (E : (Nat → Int32)) {P : Nat → Fin 20} (hP : PI P) (C N md rw dg : (Nat → Int32)) (fc : Int32) (oft : (Nat → Int32)) (m0 m1 : Z1) (c : Int32) (hn : ∀ x : Z1, ¬ PQ 2 m0 m1 0 x = 0) : ∃ M' E' rw' dg', f_X0_become fu E 2 (nI m0.val) (nI m1.val) c = some (1, E') ∧ f_X2_clear fu M 0 = some M' ∧ f_X5_clear fu rw dg 0 = some (rw', dg') ∧ INV M' E' P C (va_up N 1 0) (nI 2) 10201 (MB md (nI m0.val) (nI m1.val) 1 0) rw' dg' 0 fc oft := by
  have hn' : ∀ x : Z1, ¬ x * x + m1 * x + m0 = 0 := fun x => by
    have := hn x
    unfold PQ at this
    rw [if_pos rfl] at this
    exact this
  letI := k2Ring m0 m1
  let cd : K2 m0 m1 → Int32 := fun p => e3 p.1 p.2 0
  let T : K2 m0 m1 := ((0, 1) : Z1 × Z1)
  have cT : cd T = 101 := by decide
  have g0 : MB md (nI m0.val) (nI m1.val) 1 0 0 = nI m0.val := rfl
  have g1 : MB md (nI m0.val) (nI m1.val) 1 0 1 = nI m1.val := rfl
  have hC : ∀ E : (Nat → Int32), E 0 = 2 → E 2 = nI m0.val → E 3 = nI m1.val → CX cd E 2 (MB md (nI m0.val) (nI m1.val) 1 0) := fun E h0 h2 h3 => cx2 h0 h2 h3 g0 g1
  obtain ⟨t0, t1, t2, t3, t4, t5, t6, t7⟩ := EB_at E 2 10201 (nI m0.val) (nI m1.val) 0 (cd T) (cd (T ^ 101)) (cd (T ^ 101 * T ^ 101))
  have hCf := hC _ t0 t2 t3
  obtain ⟨M', a1, a2, a3⟩ := P_clear hCf M 0 (show 17 ≤ fu by omega)
  obtain ⟨rw', dg', b1, b2, b3⟩ := P_rclear hCf rw dg (x := 0) (r := 0) rfl (by omega) (show 17 ≤ fu by omega)
  have bo := become_ok (E := E) (a := 2) (b := 10201) (c := nI m0.val) (d := nI m1.val) (e := 0) (T := T) (hC _ rfl rfl rfl) (fun x => hC _ rfl rfl rfl) (show 64 ≤ fu by omega)
  refine ⟨M', va_up (va_up (EB E 2 10201 (nI m0.val) (nI m1.val) 0 (cd T)) 6 (cd (T ^ 101))) 7 (cd (T ^ 101 * T ^ 101)), rw', dg', ?_, a1, b1, ?_⟩
  · have hrt : f_X0_hasRoot fu 2 (nI m0.val) (nI m1.val) 0 = some 0 := by
      obtain ⟨v, v1, v2⟩ := hr_c (k := 2) (Or.inl rfl) m0 m1 0 fu 101 0 fu (by omega) (by omega)
      have : v = 0 := by
        rcases v2 with ⟨v2, _⟩ | ⟨_, x, hx⟩
        · exact v2
        · exact absurd hx (hn x)
      rw [this] at v1
      exact v1
    unfold f_X0_become
    rw [if_neg (by decide), Option.bind_some, if_pos (by decide), Option.bind_some, if_neg (by decide), hrt, Option.bind_some, if_pos rfl, if_neg (by decide), if_pos rfl, Option.bind_some, Option.bind_some, if_neg (by decide), Option.bind_some]
    rw [cT] at bo ⊢
    exact bo
  · letI := pkRing (K2 m0 m1)
    refine INV_of (K := K2 m0 m1) (R := PK (K2 m0 m1)) (q := 10201) (k := 2) (T := T) (fl2 hn' t0 t1 t2 t3 rfl g0 g1 T rfl t5 t6 t7) (pk_pr (k2_fld hn') (ax2 hn')) (mdx_of (k := 2) (by omega) t0 (fun i hi => ?_)) (Or.inr (by rw [t5]; exact cT)) hP a3 b3 (N_0 N)
    have : i = 0 ∨ i = 1 ∨ i = 2 ∨ i = 3 := by omega
    rcases this with e | e | e | e <;> subst e
    · exact t2.symm
    · exact t3.symm
    · rfl
    · rfl
theorem fld3 {fu : Nat} (hfu : 200 ≤ fu) (M : (Fin 20 → Nat → Int32)) (E : (Nat → Int32)) {P : Nat → Fin 20} (hP : PI P) (C N md rw dg : (Nat → Int32)) (fc : Int32) (oft : (Nat → Int32)) (m0 m1 m2 : Z1) (hn : ∀ x : Z1, ¬ PQ 3 m0 m1 m2 x = 0) : ∃ M' E' rw' dg', f_X0_become fu E 3 (nI m0.val) (nI m1.val) (nI m2.val) = some (1, E') ∧ f_X2_clear fu M 0 = some M' ∧ f_X5_clear fu rw dg 0 = some (rw', dg') ∧ INV M' E' P C (va_up N 1 0) (nI 3) 1030301 (MB md (nI m0.val) (nI m1.val) (nI m2.val) 1) rw' dg' 0 fc oft := by
  have hn' : ∀ x : Z1, ¬ x * x * x + m2 * x * x + m1 * x + m0 = 0 := fun x => by
    have := hn x
    unfold PQ at this
    rw [if_neg (by decide)] at this
    exact this
  letI := k3Ring m0 m1 m2
  let cd : K3 m0 m1 m2 → Int32 := fun p => e3 p.1 p.2.1 p.2.2
  let T : K3 m0 m1 m2 := ((0, 1, 0) : Z1 × Z1 × Z1)
  have cT : cd T = 101 := by decide
  have g0 : MB md (nI m0.val) (nI m1.val) (nI m2.val) 1 0 = nI m0.val := rfl
  have g1 : MB md (nI m0.val) (nI m1.val) (nI m2.val) 1 1 = nI m1.val := rfl
  have g2 : MB md (nI m0.val) (nI m1.val) (nI m2.val) 1 2 = nI m2.val := rfl
  have hC : ∀ E : (Nat → Int32), E 0 = 3 → E 2 = nI m0.val → E 3 = nI m1.val → E 4 = nI m2.val → CX cd E 3 (MB md (nI m0.val) (nI m1.val) (nI m2.val) 1) := fun E h0 h2 h3 h4 => cx3 h0 h2 h3 h4 g0 g1 g2
  obtain ⟨t0, t1, t2, t3, t4, t5, t6, t7⟩ := EB_at E 3 1030301 (nI m0.val) (nI m1.val) (nI m2.val) (cd T) (cd (T ^ 101)) (cd (T ^ 101 * T ^ 101))
  have hCf := hC _ t0 t2 t3 t4
  obtain ⟨M', a1, a2, a3⟩ := P_clear hCf M 0 (show 17 ≤ fu by omega)
  obtain ⟨rw', dg', b1, b2, b3⟩ := P_rclear hCf rw dg (x := 0) (r := 0) rfl (by omega) (show 17 ≤ fu by omega)
  have bo := become_ok (E := E) (a := 3) (b := 1030301) (c := nI m0.val) (d := nI m1.val) (e := nI m2.val) (T := T) (hC _ rfl rfl rfl rfl) (fun x => hC _ rfl rfl rfl rfl) (show 64 ≤ fu by omega)
  refine ⟨M', va_up (va_up (EB E 3 1030301 (nI m0.val) (nI m1.val) (nI m2.val) (cd T)) 6 (cd (T ^ 101))) 7 (cd (T ^ 101 * T ^ 101)), rw', dg', ?_, a1, b1, ?_⟩
  · have hrt : f_X0_hasRoot fu 3 (nI m0.val) (nI m1.val) (nI m2.val) = some 0 := by
      obtain ⟨v, v1, v2⟩ := hr_c (k := 3) (Or.inr rfl) m0 m1 m2 fu 101 0 fu (by omega) (by omega)
      have : v = 0 := by
        rcases v2 with ⟨v2, _⟩ | ⟨_, x, hx⟩
        · exact v2
        · exact absurd hx (hn x)
      rw [this] at v1
      exact v1
    unfold f_X0_become
    rw [if_neg (by decide), Option.bind_some, if_neg (by decide), Option.bind_some, if_neg (by decide), hrt, Option.bind_some, if_pos rfl, if_neg (by decide), if_neg (by decide), Option.bind_some, Option.bind_some, if_neg (by decide), Option.bind_some]
    rw [cT] at bo ⊢
    exact bo
  · letI := pkRing (K3 m0 m1 m2)
    refine INV_of (K := K3 m0 m1 m2) (R := PK (K3 m0 m1 m2)) (q := 1030301) (k := 3) (T := T) (fl3 hn' t0 t1 t2 t3 t4 rfl g0 g1 g2 T rfl t5 t6 t7) (pk_pr (k3_fld hn') (ax3 hn')) (mdx_of (k := 3) (by omega) t0 (fun i hi => ?_)) (Or.inr (by rw [t5]; exact cT)) hP a3 b3 (N_0 N)
    have : i = 0 ∨ i = 1 ∨ i = 2 ∨ i = 3 := by omega
    rcases this with e | e | e | e <;> subst e
    · exact t2.symm
    · exact t3.symm
    · exact t4.symm
    · rfl
