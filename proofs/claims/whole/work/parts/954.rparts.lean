/-! The reference takes the product of factors of one degree apart. -/
def PF {K R : Type} [Lean.Grind.CommRing K] (cd : K → Int32) (cf : R → Nat → K) (rw dg : (Nat → Int32)) (fs : List R) : Prop := ∀ i p, fs[i]? = some p → RX cd rw dg (20 + i) (cf p)
def PW {K R : Type} [Lean.Grind.CommRing K] [Lean.Grind.CommRing R] (cd : K → Int32) (cf : R → Nat → K) (rw dg : (Nat → Int32)) (W : List (List R)) : Prop := ∀ i l, W[i]? = some l → RX cd rw dg (10 + i) (cf (lp l))
theorem PF_fr {K R : Type} [Lean.Grind.CommRing K] {cd : K → Int32} {cf : R → Nat → K} {l : List Nat} {rw dg rw' dg' : (Nat → Int32)} (h : FR l rw dg rw' dg') {fs : List R} (hl : ∀ i, i < fs.length → ¬ 20 + i ∈ l) (hp : PF cd cf rw dg fs) : PF cd cf rw' dg' fs := fun i p hi => RX_fr h (hl i (List.getElem?_eq_some_iff.mp hi).1) (hp i p hi)
theorem PW_fr {K R : Type} [Lean.Grind.CommRing K] [Lean.Grind.CommRing R] {cd : K → Int32} {cf : R → Nat → K} {l : List Nat} {rw dg rw' dg' : (Nat → Int32)} (h : FR l rw dg rw' dg') {W : List (List R)} (hl : ∀ i, i < W.length → ¬ 10 + i ∈ l) (hp : PW cd cf rw dg W) : PW cd cf rw' dg' W := fun i p hi => RX_fr h (hl i (List.getElem?_eq_some_iff.mp hi).1) (hp i p hi)
theorem app_get {α : Type} {l : List α} {x y : α} {i : Nat} (h : (l ++ [x])[i]? = some y) : (i < l.length ∧ l[i]? = some y) ∨ (i = l.length ∧ y = x) := by
  by_cases c : i < l.length
  · rw [List.getElem?_append_left c] at h
    exact Or.inl ⟨c, h⟩
  · have h1 := (List.getElem?_eq_some_iff.mp h).1
    rw [List.length_append] at h1
    have e : i = l.length := by
      have : [x].length = 1 := rfl
      omega
    rw [e, List.getElem?_append_right (Nat.le_refl _), Nat.sub_self] at h
    exact Or.inr ⟨e, by simpa using h.symm⟩
theorem lN_cge {a b : Nat} (ha : a < 2 ^ 62) (hb : b < 2 ^ 62) : 0 ≤ lg_cmp (lN a) (lN b) ↔ b ≤ a := by
  unfold lg_cmp
  by_cases c : b < a
  · have : lN a > lN b := (pk_lLT (by omega) (by omega)).mpr c
    rw [if_pos this]
    exact ⟨fun _ => by omega, fun _ => by decide⟩
  · have n1 : ¬ lN a > lN b := fun q => c ((pk_lLT (by omega) (by omega)).mp q)
    rw [if_neg n1]
    by_cases e : a = b
    · rw [if_pos (by rw [e])]
      exact ⟨fun _ => by omega, fun _ => by decide⟩
    · rw [if_neg (fun q => e ((pk_lEQ (by omega) (by omega)).mp q))]
      exact ⟨fun q => absurd q (by decide), fun q => by omega⟩
def LP0 : List Nat := [2, 3, 5, 6, 7, 9, 10, 11, 12, 13, 14, 20, 21, 22, 23, 24]
set_option maxHeartbeats 4000000 in
theorem P_rparts_l {K R : Type} [Lean.Grind.CommRing K] [Lean.Grind.CommRing R] {cd : K → Int32} {E : Nat → Int32} {kk : Int32} {md : Nat → Int32} {mn : Int64} {q k : Nat} {T : K} (hL : FL cd E kk md mn q k T) {cf : R → Nat → K} {deg : R → Nat} {mon : R → Prop} {X : R} {Cc : K → R} {Kl : List R} (hR : PR cf deg mon X Cc Kl q) {d : Nat} (hd : d = 1 ∨ d = 2) (kc : Int32 → Int32 → (Nat → Int32) → (Nat → Int32) → Int32 → Option ((Nat → Int32) × (Nat → Int32) × Int32)) (fu : Nat) (hfu : 64 ≤ fu) : ∀ (n : Nat) (rw dg : (Nat → Int32)) (W : List (List R)) (fs : List R) (c : Nat), (∀ l ∈ W, ¬ l = []) → (∀ p ∈ W.flatten, irr deg mon p ∧ deg p = d) → W.flatten.Nodup → fs.length + W.flatten.length ≤ 5 → deg (lp W.flatten) ≤ 5 → PW cd cf rw dg W → PF cd cf rw dg fs → c ≤ q → (∀ l, W[W.length - 1]? = some l → (c = 0 ∨ 2 ≤ l.length) ∧ ∀ u, u < c → ∀ a : K, cd a = nI u → AG ((X + Cc a) ^ ((q ^ d - 1) / 2) - 1) l) → (2 * W.flatten.length - W.length) * (q + 1) + (q - c) < n → ∃ y1 y2 rw' dg' fs', f_X5_parts_l47 kc fu kk mn md (nI d) (lN ((q ^ d - 1) / 2)) n (nI W.length) (nI c) rw dg (nI fs.length) = kc y1 y2 rw' dg' (nI fs'.length) ∧ fs'.Perm (fs ++ W.flatten) ∧ PF cd cf rw' dg' fs' ∧ FR LP0 rw dg rw' dg' := by
  have hC := hL.1
  have hE := pr_eu hR
  have hF := hL.2.1
  have hq := q_d hL hd
  intro n
  induction n with
  | zero => intro rw dg W fs c _ _ _ _ _ _ _ _ _ hn; omega
  | succ n ih =>
    intro rw dg W fs c hne hir hnd h5 hd5 hPW hPF hcq htop hn
    rcases List.eq_nil_or_concat W with e0 | ⟨W0, l, e0⟩
    · subst e0
      refine ⟨nI 0, nI c, rw, dg, fs, ?_, by simp, hPF, FR_rf _ _ _⟩
      rw [f_X5_parts_l47, if_pos (show nI ([] : List (List R)).length ≤ 0 from (by decide : nI 0 ≤ 0))]
      rfl
    · rw [List.concat_eq_append] at e0
      subst e0
      have wl : (W0 ++ [l]).length = W0.length + 1 := by rw [List.length_append]; rfl
      have fl : (W0 ++ [l]).flatten = W0.flatten ++ l := by rw [List.flatten_append]; simp
      have hlast : (W0 ++ [l])[W0.length]? = some l := by rw [List.getElem?_append_right (Nat.le_refl _), Nat.sub_self]; rfl
      have hwf := fl_len (W0 ++ [l]) hne
      rw [wl] at hwf
      obtain ⟨ht1, ht2⟩ := htop l (by rw [wl, Nat.add_sub_cancel]; exact hlast)
      have l0 : 0 < l.length := List.length_pos_iff.mpr (hne l (List.mem_append.mpr (Or.inr List.mem_cons_self)))
      have li : ∀ p ∈ l, irr deg mon p ∧ deg p = d := fun p hp => hir p (by rw [fl]; exact List.mem_append.mpr (Or.inr hp))
      have lnd : l.Nodup := fl_nd hnd hlast
      have ml : mon (lp l) := lp_monI hE (fun p hp => (li p hp).1)
      have dl' : deg (lp l) = d * l.length := lp_deg1 hE l (fun p hp => ⟨(li p hp).1.1, (li p hp).2⟩)
      have hdl : deg (lp l) ≤ 5 := by
        have h1 := (lp_deg5 hE (fun p hp => (hir p hp).1) (l := (W0 ++ [l]).flatten) (l1 := W0.flatten) (l2 := l) (by rw [fl])).1
        omega
      have sql := (pr_mo hR ml).2
      have hRl : RX cd rw dg (10 + W0.length) (cf (lp l)) := hPW W0.length l hlast
      have hw5 : W0.length + 1 ≤ 5 := by omega
      have c5 : c < q := by
        by_cases q' : c < q
        · exact q'
        · exfalso
          have h2 : 2 ≤ l.length := ht1.resolve_left (by omega)
          match l, h2, li, lnd, ht2 with
          | x :: y :: l, _, li, lnd, ht2 =>
            have hx := li x List.mem_cons_self
            have hy := li y (List.mem_cons_of_mem _ List.mem_cons_self)
            have hxy : ¬ x = y := fun e => by
              rw [List.nodup_cons] at lnd
              exact lnd.1 (e ▸ List.mem_cons_self)
            obtain ⟨a, ha⟩ := sepd hR hd hx.1 hy.1 hx.2 hy.2 hxy
            obtain ⟨m, hm, em⟩ := hL.2.2.2.2.2.2.1 a
            exact ha (ht2 m (by omega) a em x List.mem_cons_self y (List.mem_cons_of_mem _ List.mem_cons_self))
      have hv : (10 : Int32) + nI (W0.length + 1) - 1 = nI (10 + W0.length) := by rw [show (10 : Int32) = nI 10 from rfl, nI_add, show 10 + (W0.length + 1) = 10 + W0.length + 1 by omega, nI_pred]
      have hcm : ¬ 0 ≤ lg_cmp (nI c).toInt64 mn := by
        rw [nI_l (by omega), hF.2.2.2.2]
        exact fun z => by have := (lN_cge (by omega) (by omega)).mp z; omega
      rw [f_X5_parts_l47, wl, if_neg (nI_nle (by omega) (by omega)), if_neg hcm]
      simp only [nm]
      rw [hv, if_neg (in25 (by omega)), nI_clamp (by omega), hRl.2, sql, dI_s, dl']
      by_cases c1 : l.length = 1
      · obtain ⟨p, ep⟩ := List.length_eq_one_iff.mp c1
        subst ep
        have hRp : RX cd rw dg (10 + W0.length) (cf p) := by rw [lp_1] at hRl; exact hRl
        have i20 : (20 : Int32) + nI fs.length = nI (20 + fs.length) := by rw [show (20 : Int32) = nI 20 from rfl, nI_add]
        rw [fl, List.length_append] at h5
        have l1 : [p].length = 1 := rfl
        obtain ⟨rw1, dg1, k1, k2, k3⟩ := P_rcopy (x := nI (10 + W0.length)) (y := 20 + nI fs.length) (a := 10 + W0.length) (b := 20 + fs.length) rfl i20 (by omega) (by omega) (by omega) hRp (show 17 ≤ fu by omega)
        have pf1 : PF cd cf rw1 dg1 (fs ++ [p]) := fun i p' hi => by
          rcases app_get hi with ⟨a1, a2⟩ | ⟨a1, a2⟩
          · exact RX_fr k2 (by simp; omega) (hPF i p' a2)
          · rw [a1, a2]; exact k3
        have pw1 : PW cd cf rw1 dg1 W0 := fun i l' hi => RX_fr k2 (by have := (List.getElem?_eq_some_iff.mp hi).1; simp; omega) (hPW i l' (by rw [List.getElem?_append_left (List.getElem?_eq_some_iff.mp hi).1]; exact hi))
        obtain ⟨y1, y2, rw2, dg2, fs2, t1, t2, t3, t4⟩ := ih rw1 dg1 W0 (fs ++ [p]) 0 (fun l hl => hne l (List.mem_append.mpr (Or.inl hl))) (fun p' hp' => hir p' (by rw [fl]; exact List.mem_append.mpr (Or.inl hp'))) (by rw [fl, List.nodup_append] at hnd; exact hnd.1) (by rw [List.length_append]; omega) (by
          have h1 := (lp_deg5 hE (fun p hp => (hir p hp).1) (l := (W0 ++ [[p]]).flatten) (l1 := W0.flatten) (l2 := [p]) (by rw [fl])).1
          omega) pw1 pf1 (Nat.zero_le _) (fun l' hl' => ⟨Or.inl rfl, fun u hu => absurd hu (Nat.not_lt_zero _)⟩) (by
          have e1 : 2 * (W0 ++ [[p]]).flatten.length - (W0.length + 1) = (2 * W0.flatten.length - W0.length) + 1 := by
            have := fl_len W0 (fun l hl => hne l (List.mem_append.mpr (Or.inl hl)))
            rw [fl, List.length_append, l1]; omega
          rw [wl, e1, Nat.add_mul] at hn
          omega)
        refine ⟨y1, y2, rw2, dg2, fs2, ?_, ?_, t3, FR_mo (FR_tr k2 t4) (fun r hr => ?_)⟩
        · rw [if_pos (by rw [c1, Nat.mul_one])]
          unfold f_X5_found
          rw [k1, Option.bind_some, Option.bind_some]
          show f_X5_parts_l47 kc fu kk mn md (nI d) (lN ((q ^ d - 1) / 2)) n (nI (W0.length + 1) + -1) 0 rw1 dg1 (nI fs.length + 1) = _
          rw [pk_m1, nI_1]
          rw [List.length_append, l1] at t1
          exact t1
        · refine t2.trans ?_
          rw [fl, List.append_assoc]
          exact List.Perm.append_left _ List.perm_append_comm
        · rcases List.mem_append.mp hr with h | h
          · rw [List.mem_singleton.mp h]
            have : fs.length = 0 ∨ fs.length = 1 ∨ fs.length = 2 ∨ fs.length = 3 ∨ fs.length = 4 := by omega
            rcases this with e | e | e | e | e <;> rw [e] <;> decide
          · exact h
      · have hl2 : 2 ≤ l.length := by omega
        have g2 : d * 2 ≤ d * l.length := Nat.mul_le_mul_left _ hl2
        rw [if_neg (fun z => by have := (nI_eq (by omega) (by rcases hd with e | e <;> omega)).mp z; rcases hd with e | e <;> omega)]
        obtain ⟨a, ha⟩ := hL.2.2.2.2.2.2.2 c c5
        have T := W0.length
        obtain ⟨rw1, dg1, a1, a2, a3⟩ := P_rclear hC rw dg (x := 2) (r := 2) rfl (by omega) (show 17 ≤ fu by omega)
        obtain ⟨rw2, dg2, b1, b2, b3⟩ := P_rset hC dg1 (x := 2) (y := 0) (z := nI c) (r := 2) (i := 0) (a := a) (g := fun t => if t = 0 then a else 0) rfl rfl (by omega) (by omega) ha.symm a3.1 rfl (fun j hj => if_neg hj) (show 17 ≤ fu by omega)
        obtain ⟨rw3, dg3, d1, d2, d3⟩ := P_rset hC dg2 (x := 2) (y := 1) (z := 1) (r := 2) (i := 1) (a := 1) (g := cf (X + Cc a)) rfl rfl (by omega) (by omega) hC.2.1.2.symm b3.1 (by
          rw [pr_add hR, pr_X hR, pr_C hR]
          show (1 : K) + 0 = 1
          grind) (fun j hj => by
          rw [pr_add hR, pr_X hR, pr_C hR]
          show (if j = 1 then 1 else 0) + (if j = 0 then a else 0) = if j = 0 then a else 0
          rw [if_neg hj]; grind) (show 17 ≤ fu by omega)
        have f3 := FR_tr a2 (FR_tr b2 d2)
        have hR3 := RX_fr f3 (r := 10 + W0.length) (by simp; omega) hRl
        obtain ⟨rw4, dg4, r, cc, e1, e2, e3, e4, e5⟩ := P_rpows hC hR hF (x := 2) (y := nI (10 + W0.length)) (z := 9) (a := 2) (b := 10 + W0.length) (c := 9) rfl rfl rfl (by omega) (by omega) (by omega) (by omega) (by omega) (by omega) d3 hR3 (by rcases hd with e | e <;> omega) (by omega) (e := (q ^ d - 1) / 2) (by omega) hfu
        have min1 : f_X5_less (cd (cf r 0)) 1 = some (cd (cf r 0 - 1)) := by
          have := hC.2.2.2.2.2.1 (cf r 0) 1
          rw [hC.2.1.2] at this
          exact this
        obtain ⟨rw5, dg5, g1, g2', g3⟩ := P_rset hC dg4 (x := 9) (y := 0) (z := cd (cf r 0 - 1)) (r := 9) (i := 0) (a := cf r 0 - 1) (g := cf (r - 1)) rfl rfl (by omega) (by omega) rfl e3.1 (by rw [pr_sub hR, pr_1 hR]; rfl) (fun j hj => by
          rw [pr_sub hR, pr_1 hR]
          show cf r j - (if j = 0 then 1 else 0) = cf r j
          rw [if_neg hj]; grind) (show 17 ≤ fu by omega)
        have f5 := FR_tr f3 (FR_tr e2 g2')
        have hR5 := RX_fr f5 (r := 10 + W0.length) (by simp; omega) hRl
        obtain ⟨rw6, dg6, h1, h2, h3⟩ := P_rcopy (x := nI (10 + W0.length)) (y := 2) (a := 10 + W0.length) (b := 2) rfl rfl (by omega) (by omega) (by omega) hR5 (show 17 ≤ fu by omega)
        obtain ⟨rw7, dg7, i1, i2, i3⟩ := P_rcopy (x := 9) (y := 3) (a := 9) (b := 3) rfl rfl (by omega) (by omega) (by omega) (RX_fr h2 (by decide) g3) (show 17 ≤ fu by omega)
        obtain ⟨rw8, dg8, g, j1, j2, j3, j4⟩ := P_rgcd hC hR hF (x1 := 2) (x2 := 3) (a := 2) (b := 3) rfl rfl (by omega) (by omega) (by omega) (by omega) (by omega) (RX_fr i2 (by decide) h3) i3 hfu
        have f8 := FR_tr f5 (FR_tr h2 (FR_tr i2 j2))
        have f8' : FR [2, 3, 5, 6, 7, 9] rw dg rw8 dg8 := FR_mo f8 (fun r hr => by simp at hr ⊢; omega)
        have hR8 := RX_fr f8' (r := 10 + W0.length) (by simp; omega) hRl
        have pf8 : PF cd cf rw8 dg8 fs := PF_fr f8' (fun i hi => by simp; omega) hPF
        have pw8 : PW cd cf rw8 dg8 (W0 ++ [l]) := PW_fr f8' (fun i hi => by simp; omega) hPW
        obtain ⟨l1, l2, p1, p2, p3, p4, p5⟩ := gc_split hE hR.1.2.1 (fun p hp => (li p hp).1) lnd (gc_cong (b' := (X + Cc a) ^ ((q ^ d - 1) / 2) - 1) (c := cc) (by rw [e4]; grind) j4)
        obtain ⟨ds, ir1, ir2⟩ := lp_deg5 hE (fun p hp => (li p hp).1) p1
        have sqg := (pr_mo hR p3).2
        have c2 : (2 : Int32).toNatClampNeg = 2 := by decide
        -- one more c
        have more : AG ((X + Cc a) ^ ((q ^ d - 1) / 2) - 1) l → ∃ y1 y2 rw' dg' fs', f_X5_parts_l47 kc fu kk mn md (nI d) (lN ((q ^ d - 1) / 2)) n (nI (W0.length + 1)) (nI c + 1) rw8 dg8 (nI fs.length) = kc y1 y2 rw' dg' (nI fs'.length) ∧ fs'.Perm (fs ++ (W0 ++ [l]).flatten) ∧ PF cd cf rw' dg' fs' ∧ FR LP0 rw dg rw' dg' := fun ag => by
          obtain ⟨y1, y2, rw9, dg9, fs9, t1, t2, t3, t4⟩ := ih rw8 dg8 (W0 ++ [l]) fs (c + 1) hne hir hnd h5 hd5 pw8 pf8 (by omega) (fun l' hl' => by
            rw [wl, Nat.add_sub_cancel, hlast] at hl'
            rw [← Option.some.inj hl']
            refine ⟨Or.inr hl2, fun u hu a' ha' => ?_⟩
            by_cases z : u = c
            · have : a' = a := hC.1 _ _ (by rw [ha', ha, z])
              rw [this]; exact ag
            · exact ht2 u (by omega) a' ha') (by omega)
          rw [wl] at t1
          rw [nI_1]
          exact ⟨y1, y2, rw9, dg9, fs9, t1, t2, t3, FR_mo (FR_tr f8' t4) (fun r hr => by
            rcases List.mem_append.mp hr with h | h
            · revert h; simp [LP0]; omega
            · exact h)⟩
        rw [a1, Option.bind_some]
        show ∃ y1 y2 rw' dg' fs', (f_X5_set fu rw1 dg1 2 0 (nI c)).bind _ = _ ∧ _
        rw [b1, Option.bind_some]
        show ∃ y1 y2 rw' dg' fs', (f_X5_set fu rw2 dg2 2 1 1).bind _ = _ ∧ _
        rw [d1, Option.bind_some]
        show ∃ y1 y2 rw' dg' fs', (f_X5_powers fu kk mn md rw3 dg3 2 (lN ((q ^ d - 1) / 2)) (nI (10 + W0.length)) 9).bind _ = _ ∧ _
        rw [e1, Option.bind_some]
        show ∃ y1 y2 rw' dg' fs', (f_X5_cell rw4 9 0).bind _ = _ ∧ _
        rw [P_rget (x := 9) (y := 0) (r := 9) (i := 0) rfl rfl (by omega) (by omega) e3.1, Option.bind_some, min1, Option.bind_some]
        show ∃ y1 y2 rw' dg' fs', (f_X5_set fu rw4 dg4 9 0 (cd (cf r 0 - 1))).bind _ = _ ∧ _
        rw [g1, Option.bind_some]
        show ∃ y1 y2 rw' dg' fs', (f_X5_copy fu rw5 dg5 (nI (10 + W0.length)) 2).bind _ = _ ∧ _
        rw [h1, Option.bind_some]
        show ∃ y1 y2 rw' dg' fs', (f_X5_copy fu rw6 dg6 9 3).bind _ = _ ∧ _
        rw [i1, Option.bind_some]
        show ∃ y1 y2 rw' dg' fs', (f_X5_divisor fu kk mn md rw7 dg7 2 3).bind _ = _ ∧ _
        rw [j1, Option.bind_some, if_neg (by decide), c2]
        show ∃ y1 y2 rw' dg' fs', (if dg8 2 ≤ 0 then _ else _ : Option (Int32 × Int32 × (Nat → Int32) × (Nat → Int32))).bind _ = _ ∧ _
        rw [j3.2]
        by_cases z1 : 0 < deg g
        · rw [if_neg (fun q => (dI_le0 hR j3.1.1).mp q z1), if_neg (by decide), if_neg (show ¬ (nI (10 + W0.length) < 0 ∨ 25 ≤ 10 + W0.length) from fun q => q.elim (nI_pos (by omega)) (by omega))]
          show ∃ y1 y2 rw' dg' fs', ((if dg8 (10 + W0.length) ≤ dg8 2 then _ else _ : Option (Int32 × Int32 × (Nat → Int32) × (Nat → Int32))).bind _).bind _ = _ ∧ _
          rw [hR8.2, j3.2, sql, sqg, dI_s, dI_s]
          by_cases z2 : deg (lp l) ≤ deg g
          · rw [if_pos (nI_le z2 (by rw [p2]; omega)), Option.bind_some, Option.bind_some]
            have en2 : l2 = [] := lp_one hE ir2 (by rw [p2] at z2; omega)
            exact more (AG_y (fun p hp => p4 p (by
              have := p1.mem_iff.mp hp
              rw [en2, List.append_nil] at this
              exact this)))
          · rw [if_neg (nI_ge (by omega) (by omega))]
            have en1 : ¬ l1 = [] := fun q => by
              rw [p2, q, lp_nil, hE.2.2.2.2.1.2.2] at z1
              omega
            have en2 : ¬ l2 = [] := fun q => by
              rw [q, lp_nil, hE.2.2.2.2.1.2.2, ← p2] at ds
              omega
            have g0 : ¬ g = 0 := hE.2.2.2.2.2.2.1 g p3
            have ll := p1.length_eq
            rw [List.length_append] at ll
            have w5 : W0.length + 2 ≤ 5 := by
              have a1 := fl_len W0 (fun l hl => hne l (List.mem_append.mpr (Or.inl hl)))
              rw [fl, List.length_append] at h5
              omega
            obtain ⟨rw9, dg9, k1, k2, k3⟩ := P_rcopy (x := nI (10 + W0.length)) (y := 3) (a := 10 + W0.length) (b := 3) rfl rfl (by omega) (by omega) (by omega) hR8 (show 17 ≤ fu by omega)
            have hg9 := RX_fr k2 (r := 2) (by decide) j3
            obtain ⟨rw10, dg10, qq, rr, m1, m2, m3, m4, m5, m6⟩ := P_rdiv hC hR hF (x := 3) (y := 2) (z := nI (10 + W0.length)) (a := 3) (b := 2) (c := 10 + W0.length) rfl rfl rfl (by omega) (by omega) (by omega) (by omega) (by omega) (by omega) k3 hg9 g0 hfu
            have hun := pr_dun2 hR g0 (q1 := qq) (r1 := rr) (q2 := lp l2) (r2 := 0) (by rw [← m5, lp_perm p1, lp_app, p2]; grind) m6 (by rw [(pr_sq0 hR 0).mpr rfl, pr_sq hR g0]; omega)
            rw [hun.1] at m3
            have hg10 := RX_fr m2 (r := 2) (by simp; omega) hg9
            have iv : nI (10 + W0.length) + 1 = nI (11 + W0.length) := by rw [nI_1, show 10 + W0.length + 1 = 11 + W0.length by omega]
            obtain ⟨rw11, dg11, n1, n2, n3⟩ := P_rcopy (x := 2) (y := nI (10 + W0.length) + 1) (a := 2) (b := 11 + W0.length) rfl iv (by omega) (by omega) (by omega) hg10 (show 17 ≤ fu by omega)
            have f11 := FR_tr k2 (FR_tr m2 n2)
            have hq2 := RX_fr n2 (r := 10 + W0.length) (by simp <;> omega) m3
            have fl2 : (W0 ++ [l2] ++ [l1]).flatten.Perm (W0 ++ [l]).flatten := by
              rw [List.flatten_append, List.flatten_append, fl]
              simp
              exact List.Perm.append_left _ (List.perm_append_comm.trans p1.symm)
            have wl2 : (W0 ++ [l2] ++ [l1]).length = W0.length + 2 := by rw [List.length_append, List.length_append]; rfl
            have pf11 : PF cd cf rw11 dg11 fs := PF_fr f11 (fun i hi => by simp; omega) pf8
            have pw11 : PW cd cf rw11 dg11 (W0 ++ [l2] ++ [l1]) := fun i l' hi => by
              rcases app_get hi with ⟨a1, a2⟩ | ⟨a1, a2⟩
              · rcases app_get a2 with ⟨b1, b2⟩ | ⟨b1, b2⟩
                · exact RX_fr f11 (by simp; omega) (pw8 i l' (by rw [List.getElem?_append_left b1]; exact b2))
                · rw [b1, b2]; exact hq2
              · rw [a1, a2, List.length_append, ← p2]
                show RX cd rw11 dg11 (10 + (W0.length + 1)) (cf g)
                rw [show 10 + (W0.length + 1) = 11 + W0.length by omega]
                exact n3
            obtain ⟨y1, y2, rw12, dg12, fs12, t1, t2, t3, t4⟩ := ih rw11 dg11 (W0 ++ [l2] ++ [l1]) fs 0 (fun l' hl' => by
              rcases List.mem_append.mp hl' with h | h
              · rcases List.mem_append.mp h with h | h
                · exact hne l' (List.mem_append.mpr (Or.inl h))
                · rw [List.mem_singleton.mp h]; exact en2
              · rw [List.mem_singleton.mp h]; exact en1) (fun p hp => hir p (fl2.mem_iff.mp hp)) (fl2.symm.nodup hnd) (by rw [fl2.length_eq]; exact h5) (by rw [lp_perm fl2]; exact hd5) pw11 pf11 (Nat.zero_le _) (fun l' hl' => ⟨Or.inl rfl, fun u hu => absurd hu (Nat.not_lt_zero _)⟩) (by
              rw [wl2, fl2.length_eq]
              have fg : W0.length + 2 ≤ (W0 ++ [l]).flatten.length := by
                have a1 := fl_len W0 (fun l hl => hne l (List.mem_append.mpr (Or.inl hl)))
                rw [fl, List.length_append]
                omega
              have e1 : 2 * (W0 ++ [l]).flatten.length - (W0.length + 1) = (2 * (W0 ++ [l]).flatten.length - (W0.length + 2)) + 1 := by omega
              rw [wl, e1, Nat.add_mul] at hn
              omega)
            rw [wl2] at t1
            refine ⟨y1, y2, rw12, dg12, fs12, ?_, t2.trans (List.Perm.append_left _ fl2), t3, FR_mo (FR_tr f8' (FR_tr f11 t4)) (fun r hr => ?_)⟩
            · show (((f_X5_copy fu rw8 dg8 (nI (10 + W0.length)) 3).bind _).bind _).bind _ = _
              rw [k1, Option.bind_some]
              show (((f_X5_divide fu kk mn md rw9 dg9 3 2 (nI (10 + W0.length))).bind _).bind _).bind _ = _
              rw [m1, Option.bind_some]
              show (((f_X5_copy fu rw10 dg10 2 (nI (10 + W0.length) + 1)).bind _).bind _).bind _ = _
              rw [n1, Option.bind_some, Option.bind_some, Option.bind_some]
              show f_X5_parts_l47 kc fu kk mn md (nI d) (lN ((q ^ d - 1) / 2)) n (nI (W0.length + 1) + 1) 0 rw11 dg11 (nI fs.length) = _
              rw [nI_1]
              exact t1
            · have hr' : (r = 2 ∨ r = 3 ∨ r = 5 ∨ r = 6 ∨ r = 7 ∨ r = 9 ∨ r = 10 + W0.length ∨ r = 11 + W0.length) ∨ r ∈ LP0 := by
                by_cases hL0 : r ∈ LP0
                · exact Or.inr hL0
                · refine Or.inl ?_
                  simp [hL0] at hr
                  omega
              rcases hr' with h | h
              · simp [LP0]
                omega
              · exact h
        · rw [if_pos ((dI_le0 hR j3.1.1).mpr z1), Option.bind_some]
          have en1 : l1 = [] := lp_one hE ir1 (by rw [← p2]; omega)
          exact more (AG_n (fun p hp => p5 p (by
            have := p1.mem_iff.mp hp
            rw [en1, List.nil_append] at this
            exact this)))
