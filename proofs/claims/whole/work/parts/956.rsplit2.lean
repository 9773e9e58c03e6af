/-! The reference splits the root: one degree. -/
set_option maxHeartbeats 1000000 in
theorem P_rsstep {K R : Type} [Lean.Grind.CommRing K] [Lean.Grind.CommRing R] {cd : K → Int32} {E : Nat → Int32} {kk : Int32} {md : Nat → Int32} {mn : Int64} {q k : Nat} {T : K} (hL : FL cd E kk md mn q k T) {cf : R → Nat → K} {deg : R → Nat} {mon : R → Prop} {X : R} {Cc : K → R} {Kl : List R} (hR : PR cf deg mon X Cc Kl q) {d : Nat} (hd : d = 1 ∨ d = 2) {L : List R} (hL1 : ∀ p ∈ L, irr deg mon p) (hL2 : L.Nodup) (hdu : deg (lp L) ≤ 5) {rw dg : (Nat → Int32)} {fs Lr : List R} (h : RI cd cf deg X q L d rw dg fs Lr) (hr : 2 * d ≤ deg (lp Lr)) {fu : Nat} (hfu : 20000000 ≤ fu) (kc : Int32 → (Nat → Int32) → (Nat → Int32) → Int32 → Option ((Nat → Int32) × (Nat → Int32) × Int32)) (n : Nat) : ∃ rw' dg' fs' Lr', f_X5_split_l26 kc fu kk mn md (n + 1) (nI d) rw dg (nI fs.length) = f_X5_split_l26 kc fu kk mn md n (nI (d + 1)) rw' dg' (nI fs'.length) ∧ RI cd cf deg X q L (d + 1) rw' dg' fs' Lr' ∧ FR LS0 rw dg rw' dg' := by
  have hC := hL.1
  have hE := pr_eu hR
  have hF := hL.2.1
  have hq := q_d hL hd
  obtain ⟨g1, g2, g3, g4, C, c, g5, g6⟩ := h
  have hLr : ∀ p ∈ Lr, irr deg mon p := fun p hp => hL1 p (g2.mem_iff.mp (List.mem_append.mpr (Or.inr hp)))
  have mr := lp_monI hE hLr
  have hnd := g2.symm.nodup hL2
  rw [List.nodup_append] at hnd
  have hlen := lp_len hE hL1
  have hl4 := g2.length_eq
  rw [List.length_append] at hl4
  have hdr : deg (lp Lr) ≤ 5 := by
    have := (lp_deg5 hE hL1 g2.symm).1
    omega
  have sql := (pr_mo hR mr).2
  have c8 : (8 : Int32).toNatClampNeg = 8 := by decide
  have c2 : (2 : Int32).toNatClampNeg = 2 := by decide
  obtain ⟨rw1, dg1, r, cc, a1, a2, a3, a4, a5⟩ := P_rpows hC hR hF (x := 4) (y := 8) (z := 9) (a := 4) (b := 8) (c := 9) rfl rfl rfl (by omega) (by omega) (by omega) (by omega) (by omega) (by omega) g5 g4 (by omega) (by omega) (e := q) (by omega) (show 64 ≤ fu by omega)
  rw [← hF.2.2.2.2] at a1
  have hcg : ∃ c', X ^ (q ^ d) = c' * lp Lr + r := by
    have h1 : dv (lp Lr) (X ^ (q ^ (d - 1)) - C) := ⟨c, by rw [g6]; grind⟩
    obtain ⟨w, hw⟩ := cong_pow h1 q
    rw [← pow_mul', ← Nat.pow_succ, show (d - 1).succ = d by omega] at hw
    exact ⟨w + cc, by grind⟩
  obtain ⟨c', e4⟩ := hcg
  obtain ⟨rw2, dg2, b1, b2, b3⟩ := P_rcopy (x := 9) (y := 4) (a := 9) (b := 4) rfl rfl (by omega) (by omega) (by omega) a3 (show 17 ≤ fu by omega)
  obtain ⟨rw3, dg3, d1, d2, d3⟩ := P_rcopy (x := 4) (y := 3) (a := 4) (b := 3) rfl rfl (by omega) (by omega) (by omega) b3 (show 17 ≤ fu by omega)
  have min1 : f_X5_less (cd (cf r 1)) 1 = some (cd (cf r 1 - 1)) := by
    have := hC.2.2.2.2.2.1 (cf r 1) 1
    rw [hC.2.1.2] at this
    exact this
  obtain ⟨rw4, dg4, e1, e2, e3⟩ := P_rset hC dg3 (x := 3) (y := 1) (z := cd (cf r 1 - 1)) (r := 3) (i := 1) (a := cf r 1 - 1) (g := cf (r - X)) rfl rfl (by omega) (by omega) rfl d3.1 (by rw [pr_sub hR, pr_X hR]; rfl) (fun j hj => by
    rw [pr_sub hR, pr_X hR]
    show cf r j - (if j = 1 then 1 else 0) = cf r j
    rw [if_neg hj]; grind) (show 17 ≤ fu by omega)
  have f4 : FR [5, 6, 7, 9, 4, 3] rw dg rw4 dg4 := FR_mo (FR_tr a2 (FR_tr b2 (FR_tr d2 e2))) (fun r hr => by simp at hr ⊢; omega)
  have h84 := RX_fr f4 (r := 8) (by decide) g4
  obtain ⟨rw5, dg5, i1, i2, i3⟩ := P_rcopy (x := 8) (y := 2) (a := 8) (b := 2) rfl rfl (by omega) (by omega) (by omega) h84 (show 17 ≤ fu by omega)
  obtain ⟨rw6, dg6, g, j1, j2, j3, j4⟩ := P_rgcd hC hR hF (x1 := 2) (x2 := 3) (a := 2) (b := 3) rfl rfl (by omega) (by omega) (by omega) (by omega) (by omega) i3 (RX_fr i2 (by decide) e3) (show 64 ≤ fu by omega)
  obtain ⟨rw7, dg7, k1, k2, k3⟩ := P_rcopy (x := 2) (y := 7) (a := 2) (b := 7) rfl rfl (by omega) (by omega) (by omega) j3 (show 17 ≤ fu by omega)
  have j37 := RX_fr k2 (r := 2) (by decide) j3
  have f7' := FR_tr i2 (FR_tr j2 k2)
  have f7 : FR [2, 3, 4, 5, 6, 7, 9] rw dg rw7 dg7 := FR_mo (FR_tr f4 f7') (fun r hr => by simp at hr ⊢; omega)
  have h87 := RX_fr f7 (r := 8) (by decide) g4
  have h47 : RX cd rw7 dg7 4 (cf r) := RX_fr (FR_tr d2 (FR_tr e2 f7')) (by decide) b3
  have pf7 : PF cd cf rw7 dg7 fs := PF_fr f7 (fun i hi => by simp; omega) g1
  obtain ⟨l1, l2, p1, p2, p3, p4, p5⟩ := gc_split hE hR.1.2.1 hLr hnd.2.1 (gc_cong (b' := X ^ (q ^ d) - X) (c := c') (by rw [e4]; grind) j4)
  obtain ⟨ds, ir1, ir2⟩ := lp_deg5 hE hLr p1
  have sqg := (pr_mo hR p3).2
  have deg1 : ∀ p ∈ l1, irr deg mon p ∧ deg p = d := fun p hp => by
    have hpL : p ∈ Lr := p1.mem_iff.mpr (List.mem_append.mpr (Or.inl hp))
    have a := dd_1 hR hd (hLr p hpL) (p4 p hp)
    have b := g3 p hpL
    exact ⟨hLr p hpL, by omega⟩
  have deg2 : ∀ p ∈ l2, d + 1 ≤ deg p := fun p hp => by
    have hpL : p ∈ Lr := p1.mem_iff.mpr (List.mem_append.mpr (Or.inr hp))
    have a := g3 p hpL
    have b : ¬ deg p = d := fun q => p5 p hp (dd_2 hR hd (hLr p hpL) q)
    omega
  have nd12 := p1.nodup hnd.2.1
  rw [List.nodup_append] at nd12
  have start : f_X5_split_l26 kc fu kk mn md (n + 1) (nI d) rw dg (nI fs.length) = ((((
              if 1 ≤ (dg7 2) then
                (f_X5_copy fu rw7 dg7 8 3).bind (fun u34 =>
                (f_X5_divide fu kk mn md u34.1 u34.2 3 2 8).bind (fun u36 =>
                (f_X5_copy fu u36.1 u36.2 2 7).bind (fun u38 =>
                (f_X5_parts fu kk mn md u38.1 u38.2 (nI fs.length) (nI d)).bind (fun u40 =>
                if (8 : Int32) < 0 ∨ 25 ≤ (8 : Int32).toNatClampNeg then none else
                ((
                  if (u40.2.1 (8 : Int32).toNatClampNeg) ≤ 0 then
                    some (u40.1, u40.2.1)
                  else
                    (f_X5_divide fu kk mn md u40.1 u40.2.1 4 8 5).bind (fun u45 =>
                    some (u45.1, u45.2)) : Option ((Nat → Int32) × (Nat → Int32)))).bind (fun w43 =>
                some (w43.1, w43.2, u40.2.2))))))
              else
                some (rw7, dg7, nI fs.length) : Option ((Nat → Int32) × (Nat → Int32) × (Int32)))).bind (fun w32 =>
            some (w32.1, w32.2.1, w32.2.2))).bind (fun w11 =>
        f_X5_split_l26 kc fu kk mn md n (nI d + 1) w11.1 w11.2.1 w11.2.2)) := by
    rw [f_X5_split_l26, if_neg (show ¬ (5 : Int32) < nI d from nI_nlt (a := 5) (by omega) (by decide)), if_neg (by decide), c8, g4.2, if_neg (fun z => (dI_le0 hR g4.1.1).mp z (by omega)), if_neg (by decide), sql, dI_s, show (2 : Int32) * nI d = nI (2 * d) by rw [show (2 : Int32) = nI 2 from rfl, pk_mul], if_pos (nI_le hr (by omega))]
    rw [a1, Option.bind_some]
    show ((f_X5_copy fu rw1 dg1 9 4).bind _).bind _ = _
    rw [b1, Option.bind_some]
    show ((f_X5_copy fu rw2 dg2 4 3).bind _).bind _ = _
    rw [d1, Option.bind_some]
    show ((f_X5_cell rw3 3 1).bind _).bind _ = _
    rw [P_rget (x := 3) (y := 1) (r := 3) (i := 1) rfl rfl (by omega) (by omega) d3.1, Option.bind_some, min1, Option.bind_some]
    show ((f_X5_set fu rw3 dg3 3 1 (cd (cf r 1 - 1))).bind _).bind _ = _
    rw [e1, Option.bind_some]
    show ((f_X5_copy fu rw4 dg4 8 2).bind _).bind _ = _
    rw [i1, Option.bind_some]
    show ((f_X5_divisor fu kk mn md rw5 dg5 2 3).bind _).bind _ = _
    rw [j1, Option.bind_some]
    show ((f_X5_copy fu rw6 dg6 2 7).bind _).bind _ = _
    rw [k1, Option.bind_some, if_neg (by decide), c2]
  rw [start, j37.2]
  by_cases z : 0 < deg g
  · have z' : (1 : Int32) ≤ dI (sq (cf g)) := by
      rw [sqg, dI_s]
      exact nI_le (a := 1) z (by rw [p2]; omega)
    have en1 : ¬ l1 = [] := fun q => by
      rw [p2, q, lp_nil, hE.2.2.2.2.1.2.2] at z
      omega
    have gz : ¬ g = 0 := hE.2.2.2.2.2.2.1 g p3
    have ll := p1.length_eq
    rw [List.length_append] at ll
    rw [if_pos z']
    obtain ⟨rw8, dg8, m1, m2, m3⟩ := P_rcopy (x := 8) (y := 3) (a := 8) (b := 3) rfl rfl (by omega) (by omega) (by omega) h87 (show 17 ≤ fu by omega)
    have j38 := RX_fr m2 (r := 2) (by decide) j37
    obtain ⟨rw9, dg9, qq, rr, n1, n2, n3, n4, n5, n6⟩ := P_rdiv hC hR hF (x := 3) (y := 2) (z := 8) (a := 3) (b := 2) (c := 8) rfl rfl rfl (by omega) (by omega) (by omega) (by omega) (by omega) (by omega) m3 j38 gz (show 64 ≤ fu by omega)
    have hun := pr_dun2 hR gz (q1 := qq) (r1 := rr) (q2 := lp l2) (r2 := 0) (by rw [← n5, lp_perm p1, lp_app, p2]; grind) n6 (by rw [(pr_sq0 hR 0).mpr rfl, pr_sq hR gz]; omega)
    rw [hun.1] at n3
    obtain ⟨rw10, dg10, o1, o2, o3⟩ := P_rcopy (x := 2) (y := 7) (a := 2) (b := 7) rfl rfl (by omega) (by omega) (by omega) (RX_fr n2 (by decide) j38) (show 17 ≤ fu by omega)
    have f10 : FR [3, 8, 7] rw7 dg7 rw10 dg10 := FR_mo (FR_tr m2 (FR_tr n2 o2)) (fun r hr => by simp at hr ⊢; omega)
    have pf10 : PF cd cf rw10 dg10 fs := PF_fr f10 (fun i hi => by simp; omega) pf7
    rw [p2] at o3
    obtain ⟨rw11, dg11, fs', q1, q2, q3, q4⟩ := P_rparts hL hR hd en1 deg1 nd12.1 (by omega) (by omega) o3 pf10 hfu
    have h4b : RX cd rw11 dg11 4 (cf r) := RX_fr (FR_tr f10 q4) (by decide) h47
    have h8b : RX cd rw11 dg11 8 (cf (lp l2)) := RX_fr (FR_tr o2 q4) (by decide) n3
    have pm : (fs' ++ l2).Perm L := by
      refine List.Perm.trans (List.Perm.append_right l2 q2) ?_
      rw [List.append_assoc]
      exact List.Perm.trans (List.Perm.append_left _ p1.symm) g2
    have f11 : FR LS0 rw dg rw11 dg11 := FR_mo (FR_tr f7 (FR_tr f10 q4)) (fun r hr => by
      rcases List.mem_append.mp hr with h | h
      · exact LS_of (by simp at h; omega)
      · rcases List.mem_append.mp h with h | h
        · exact LS_of (by simp at h; omega)
        · exact LP_to h)
    have e5 : X ^ (q ^ d) = (c' * lp l1) * lp l2 + r := by rw [e4, lp_perm p1, lp_app]; grind
    have go : ∀ {α : Type} (F : (Nat → Int32) × (Nat → Int32) × Int32 → Option α), ((f_X5_copy fu rw7 dg7 8 3).bind (fun u34 =>
                (f_X5_divide fu kk mn md u34.1 u34.2 3 2 8).bind (fun u36 =>
                (f_X5_copy fu u36.1 u36.2 2 7).bind (fun u38 =>
                (f_X5_parts fu kk mn md u38.1 u38.2 (nI fs.length) (nI d)).bind F)))) = F (rw11, dg11, nI fs'.length) := fun F => by
      rw [m1, Option.bind_some]
      show (f_X5_divide fu kk mn md rw8 dg8 3 2 8).bind _ = _
      rw [n1, Option.bind_some]
      show (f_X5_copy fu rw9 dg9 2 7).bind _ = _
      rw [o1, Option.bind_some]
      show (f_X5_parts fu kk mn md rw10 dg10 (nI fs.length) (nI d)).bind _ = _
      rw [q1, Option.bind_some]
    rw [go, if_neg (by decide), c8]
    show ∃ rw' dg' fs'_1 Lr', (((if dg11 8 ≤ 0 then some (rw11, dg11) else (f_X5_divide fu kk mn md rw11 dg11 4 8 5).bind (fun u45 => some (u45.1, u45.2)) : Option ((Nat → Int32) × (Nat → Int32))).bind _).bind _).bind _ = _ ∧ _
    rw [h8b.2]
    by_cases y : 0 < deg (lp l2)
    · rw [if_neg (fun q => (dI_le0 hR h8b.1.1).mp q y)]
      have l20 : ¬ lp l2 = 0 := hE.2.2.2.2.2.2.1 _ (lp_monI hE ir2)
      obtain ⟨rw12, dg12, qq2, rr2, s1, s2, s3, s4, s5, s6⟩ := P_rdiv hC hR hF (x := 4) (y := 8) (z := 5) (a := 4) (b := 8) (c := 5) rfl rfl rfl (by omega) (by omega) (by omega) (by omega) (by omega) (by omega) h4b h8b l20 (show 64 ≤ fu by omega)
      refine ⟨rw12, dg12, fs', l2, ?_, ⟨PF_fr s2 (fun i hi => by simp; omega) q3, pm, deg2, RX_fr s2 (by decide) h8b, rr2, c' * lp l1 + qq2, s4, ?_⟩, FR_mo (FR_tr f11 s2) (fun r hr => ?_)⟩
      · rw [s1, Option.bind_some, Option.bind_some, Option.bind_some, Option.bind_some, nI_1]
      · rw [Nat.add_sub_cancel, e5, s5]; grind
      · rcases List.mem_append.mp hr with h | h
        · exact h
        · exact LS_of (by simp at h; omega)
    · rw [if_pos ((dI_le0 hR h8b.1.1).mpr y)]
      refine ⟨rw11, dg11, fs', l2, ?_, ⟨q3, pm, deg2, h8b, r, c' * lp l1, h4b, ?_⟩, f11⟩
      · rw [Option.bind_some, Option.bind_some, Option.bind_some, nI_1]
      · rw [Nat.add_sub_cancel, e5]
  · have z' : ¬ (1 : Int32) ≤ dI (sq (cf g)) := by
      rw [sqg, dI_s, show deg g = 0 by omega]
      decide
    have en1 : l1 = [] := lp_one hE ir1 (by rw [← p2]; omega)
    rw [if_neg z', Option.bind_some, Option.bind_some, nI_1]
    have pl : Lr.Perm l2 := by
      rw [en1, List.nil_append] at p1
      exact p1
    refine ⟨rw7, dg7, fs, Lr, rfl, ⟨pf7, g2, fun p hp => deg2 p (pl.mem_iff.mp hp), h87, r, c', h47, by rw [Nat.add_sub_cancel]; exact e4⟩, FR_mo f7 (fun r hr => LS_of (by simp at hr; omega))⟩
theorem P_rsloop {K R : Type} [Lean.Grind.CommRing K] [Lean.Grind.CommRing R] {cd : K → Int32} {E : Nat → Int32} {kk : Int32} {md : Nat → Int32} {mn : Int64} {q k : Nat} {T : K} (hL : FL cd E kk md mn q k T) {cf : R → Nat → K} {deg : R → Nat} {mon : R → Prop} {X : R} {Cc : K → R} {Kl : List R} (hR : PR cf deg mon X Cc Kl q) {L : List R} (hL1 : ∀ p ∈ L, irr deg mon p) (hL2 : L.Nodup) (hdu : deg (lp L) ≤ 5) (kc : Int32 → (Nat → Int32) → (Nat → Int32) → Int32 → Option ((Nat → Int32) × (Nat → Int32) × Int32)) (fu : Nat) (hfu : 20000000 ≤ fu) : ∀ (e d n : Nat) (rw dg : (Nat → Int32)) (fs Lr : List R), e + d = 3 → 1 ≤ d → RI cd cf deg X q L d rw dg fs Lr → e + 1 < n → ∃ y rw' dg' ps, f_X5_split_l26 kc fu kk mn md n (nI d) rw dg (nI fs.length) = kc y rw' dg' (nI ps.length) ∧ ps.Perm L ∧ PF cd cf rw' dg' ps ∧ FR LS0 rw dg rw' dg' := by
  have hE := pr_eu hR
  intro e
  induction e with
  | zero =>
    intro d n rw dg fs Lr hd hd1 h hn
    have hd3 : d = 3 := by omega
    subst hd3
    refine P_rsout hL hR hL1 hdu kc fu (by omega) hd1 (by omega) h ?_ hn
    have := (lp_deg5 hE hL1 h.2.1.symm).1
    omega
  | succ e ih =>
    intro d n rw dg fs Lr hd hd1 h hn
    by_cases c : deg (lp Lr) < 2 * d
    · exact P_rsout hL hR hL1 hdu kc fu (by omega) hd1 (by omega) h c (by omega)
    · obtain ⟨n, rfl⟩ : ∃ n', n = n' + 1 := ⟨n - 1, by omega⟩
      obtain ⟨rw1, dg1, fs1, Lr1, a1, a2, a3⟩ := P_rsstep hL hR (d := d) (by omega) hL1 hL2 hdu h (by omega) hfu kc n
      obtain ⟨y, rw2, dg2, ps, b1, b2, b3, b4⟩ := ih (d + 1) n rw1 dg1 fs1 Lr1 (by omega) (by omega) a2 (by omega)
      exact ⟨y, rw2, dg2, ps, a1.trans b1, b2, b3, FR_mo (FR_tr a3 b4) (fun r hr => (List.mem_append.mp hr).elim id id)⟩
theorem P_rsplit {K R : Type} [Lean.Grind.CommRing K] [Lean.Grind.CommRing R] {cd : K → Int32} {E : Nat → Int32} {kk : Int32} {md : Nat → Int32} {mn : Int64} {q k : Nat} {T : K} (hL : FL cd E kk md mn q k T) {cf : R → Nat → K} {deg : R → Nat} {mon : R → Prop} {X : R} {Cc : K → R} {Kl : List R} (hR : PR cf deg mon X Cc Kl q) {L : List R} (hL1 : ∀ p ∈ L, irr deg mon p) (hL2 : L.Nodup) (hdu : deg (lp L) ≤ 5) {rw dg : (Nat → Int32)} (h1 : RX cd rw dg 1 (cf (lp L))) (fc : Int32) {fu : Nat} (hfu : 20000000 ≤ fu) : ∃ rw' dg' ps, f_X5_split fu kk mn md rw dg fc = some (rw', dg', nI ps.length) ∧ ps.Perm L ∧ PF cd cf rw' dg' ps ∧ FR LS0 rw dg rw' dg' := by
  have hC := hL.1
  obtain ⟨rw1, dg1, a1, a2, a3⟩ := P_rcopy (x := 1) (y := 8) (a := 1) (b := 8) rfl rfl (by omega) (by omega) (by omega) h1 (show 17 ≤ fu by omega)
  obtain ⟨rw2, dg2, b1, b2, b3⟩ := P_rclear hC rw1 dg1 (x := 4) (r := 4) rfl (by omega) (show 17 ≤ fu by omega)
  obtain ⟨rw3, dg3, d1, d2, d3⟩ := P_rset hC dg2 (x := 4) (y := 1) (z := 1) (r := 4) (i := 1) (a := 1) (g := cf X) rfl rfl (by omega) (by omega) hC.2.1.2.symm b3.1 (by rw [pr_X hR]; rfl) (fun j hj => by
    rw [pr_X hR]
    show (if j = 1 then 1 else 0) = 0
    rw [if_neg hj]) (show 17 ≤ fu by omega)
  have hRI : RI cd cf deg X q L 1 rw3 dg3 [] L := ⟨fun i p hi => by simp at hi, List.Perm.refl _, fun p hp => (hL1 p hp).2.1, RX_fr (FR_tr b2 d2) (by decide) a3, X, 0, d3, by rw [show 1 - 1 = 0 from rfl, Nat.pow_zero]; grind⟩
  obtain ⟨y, rw4, dg4, ps, e1, e2, e3, e4⟩ := P_rsloop hL hR hL1 hL2 hdu (fun _ rw dg fc => some (rw, dg, fc)) fu hfu 2 1 fu rw3 dg3 [] L rfl (by omega) hRI (by omega)
  refine ⟨rw4, dg4, ps, ?_, e2, e3, FR_mo (FR_tr a2 (FR_tr b2 (FR_tr d2 e4))) (fun r hr => ?_)⟩
  · unfold f_X5_split
    rw [a1, Option.bind_some]
    show (f_X5_clear fu rw1 dg1 4).bind _ = _
    rw [b1, Option.bind_some]
    show (f_X5_set fu rw2 dg2 4 1 1).bind _ = _
    rw [d1, Option.bind_some]
    exact e1
  · rcases List.mem_append.mp hr with h | h
    · exact LS_of (by simp at h; omega)
    · rcases List.mem_append.mp h with h | h
      · exact LS_of (by simp at h; omega)
      · rcases List.mem_append.mp h with h | h
        · exact LS_of (by simp at h; omega)
        · exact h
