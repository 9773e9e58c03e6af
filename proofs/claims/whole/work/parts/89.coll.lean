/-! The factors of one degree are collected. -/
theorem P_size {K : Type} [Lean.Grind.CommRing K] {cd : K → Int32} {E : Nat → Int32} {kk : Int32} {md : Nat → Int32} {mn : Int64} {q k : Nat} {T : K} (hL : FL cd E kk md mn q k T) {d : Nat} (hd : d = 1 ∨ d = 2) : f_X3_sizeToThe E (nI d) = some (lN (q ^ d)) := by
  have hq : q < 2 ^ 30 := by rcases hL.2.1.2.2.1 with h | h | h <;> omega
  unfold f_X3_sizeToThe
  simp only [nm]
  rw [hL.2.1.2.2.2.1, nI_l (by omega)]
  rcases hd with h | h <;> subst h
  · rw [if_pos (by decide), Nat.pow_one]
  · rw [if_neg (by decide), lN_mul, Nat.pow_two]
theorem q_d {K : Type} [Lean.Grind.CommRing K] {cd : K → Int32} {E : Nat → Int32} {kk : Int32} {md : Nat → Int32} {mn : Int64} {q k : Nat} {T : K} (hL : FL cd E kk md mn q k T) {d : Nat} (hd : d = 1 ∨ d = 2) : q ^ d < 2 ^ 40 ∧ 101 ≤ q ^ d ∧ 101 ≤ q ∧ q < 2 ^ 20 := by
  rcases hL.2.1.2.2.1 with h | h | h <;> rcases hd with e | e <;> rw [h, e] <;> decide
theorem pr_C0 {K R : Type} [Lean.Grind.CommRing K] [Lean.Grind.CommRing R] {cf : R → Nat → K} {deg : R → Nat} {mon : R → Prop} {X : R} {Cc : K → R} {Kl : List R} {q : Nat} (hR : PR cf deg mon X Cc Kl q) : X + Cc 0 = X := pr_ext hR (fun i => by
  rw [pr_add hR, pr_C hR]
  show cf X i + (if i = 0 then 0 else 0) = cf X i
  by_cases h : i = 0
  · rw [if_pos h]; grind
  · rw [if_neg h]; grind)
theorem lp_deg5 {R : Type} [Lean.Grind.CommRing R] {deg : R → Nat} {mon : R → Prop} (hE : EU deg mon) {l l1 l2 : List R} (hl : ∀ p ∈ l, irr deg mon p) (hp : l.Perm (l1 ++ l2)) : deg (lp l) = deg (lp l1) + deg (lp l2) ∧ (∀ p ∈ l1, irr deg mon p) ∧ (∀ p ∈ l2, irr deg mon p) := by
  have h1 : ∀ p ∈ l1, irr deg mon p := fun p h => hl p (hp.mem_iff.mpr (List.mem_append.mpr (Or.inl h)))
  have h2 : ∀ p ∈ l2, irr deg mon p := fun p h => hl p (hp.mem_iff.mpr (List.mem_append.mpr (Or.inr h)))
  refine ⟨?_, h1, h2⟩
  rw [lp_perm hp, lp_app, hE.2.2.1 _ _ (hE.2.2.2.2.2.2.1 _ (lp_monI hE h1)) (hE.2.2.2.2.2.2.1 _ (lp_monI hE h2))]
theorem P_coll {K R : Type} [Lean.Grind.CommRing K] [Lean.Grind.CommRing R] {cd : K → Int32} {E : Nat → Int32} {kk : Int32} {md : Nat → Int32} {mn : Int64} {q k : Nat} {T : K} (hL : FL cd E kk md mn q k T) {cf : R → Nat → K} {deg : R → Nat} {mon : R → Prop} {X : R} {Cc : K → R} {Kl : List R} (hR : PR cf deg mon X Cc Kl q) {d : Nat} (hd : d = 1 ∨ d = 2) {M : Fin 20 → Nat → Int32} {P : Nat → Fin 20} (hP : PI P) {N : Nat → Int32} {W : List (List R)} (hW : PL cd cf M P (W.map lp)) (hn : N 0 = nI W.length) (h5 : W.length < 5) {L : List R} (hL1 : ∀ p ∈ L, irr deg mon p) (hL2 : L.Nodup) (hr : RW cd (M 12) (cf (lp L))) (hdl : 1 ≤ deg (lp L)) (hdu : deg (lp L) ≤ 5) {fu : Nat} (hfu : 42 ≤ fu) : ∃ M' N' W' l1 l2, f_X3_collect fu M E P N (nI d) = some (M', N') ∧ L.Perm (l1 ++ l2) ∧ (∀ p ∈ l1, dv p (X ^ (q ^ d) - X)) ∧ (∀ p ∈ l2, ¬ dv p (X ^ (q ^ d) - X)) ∧ RW cd (M' 12) (cf (lp l2)) ∧ ((W' = W ∧ l1 = []) ∨ (W' = W ++ [l1] ∧ ¬ l1 = [])) ∧ PL cd cf M' P (W'.map lp) ∧ N' 0 = nI W'.length ∧ (∀ j, ¬ j = 0 → N' j = N j) ∧ M' 0 = M 0 ∧ M' 11 = M 11 := by
  have hC := hL.1
  have hE := pr_eu hR
  have hq := q_d hL hd
  have mL := lp_monI hE hL1
  unfold f_X3_collect
  rw [P_size hL hd, Option.bind_some]
  obtain ⟨M1, r, cc, h1, h2, h3, h4, h5'⟩ := P_raise hC hR (M := M) (xb := 12) (xi := 13) (by decide) (by decide) hr mL (by omega) (by omega) (e := q ^ d) (by omega) 0 hfu
  rw [hC.2.1.1] at h1
  rw [pr_C0 hR] at h4
  rw [h1, Option.bind_some, show (1 : Int32) = nI 1 from rfl, P_get hC h3 (by omega), Option.bind_some, show nI 1 = cd 1 from hC.2.1.2.symm, hC.2.2.2.1, Option.bind_some, hC.2.1.2, show (1 : Int32) = nI 1 from rfl, P_set M1 13 (by omega), Option.bind_some]
  have r13 : RW cd ((fup M1 13 (upd (M1 13) 1 (cd (cf r 1 - 1)))) 13) (cf (r - X)) := by
    rw [fup_s]
    refine RW_upd h3 (by omega) ?_ (fun j hj => ?_)
    · rw [pr_sub hR, pr_X hR]; rfl
    · rw [pr_sub hR, pr_X hR]
      show cf r j - (if j = 1 then 1 else 0) = cf r j
      rw [if_neg hj]; grind
  have r12 : RW cd ((fup M1 13 (upd (M1 13) 1 (cd (cf r 1 - 1)))) 12) (cf (lp L)) := by
    rw [fup_n _ _ (by decide), h2 12 (by decide) (by decide) (by decide)]; exact hr
  obtain ⟨M2, g, k1, k2, k3, k4⟩ := P_gcd hC hR hL.2.1 (x1 := 12) (x2 := 13) (x3 := 14) (by decide) (by decide) (by decide) r12 r13 (show 32 ≤ fu by omega)
  obtain ⟨l1, l2, p1, p2, p3, p4, p5⟩ := gc_split hE hR.1.2.1 hL1 hL2 (gc_cong (b' := X ^ (q ^ d) - X) (c := cc) (by rw [h4]; grind) k4)
  obtain ⟨ds, i1, i2⟩ := lp_deg5 hE hL1 p1
  have fr : ∀ x : Fin 20, (x.val = 0 ∨ x.val = 11 ∨ x.val = 12 ∨ 15 ≤ x.val) → M2 x = M x := fun x hx => by
    have Nn : ∀ (v : Nat) (hv : v < 20), (1 ≤ v ∧ v ≤ 4) ∨ v = 13 ∨ v = 14 → ¬ x = ⟨v, hv⟩ := fun v hv h e => by
      have e2 : x.val = v := by rw [e]
      omega
    rw [k2 x (Nn 2 (by omega) (by omega)) (Nn 3 (by omega) (by omega)) (Nn 4 (by omega) (by omega)) (Nn 14 (by omega) (by omega)), fup_n _ _ (show ¬ x = 13 from Nn 13 (by omega) (by omega)), h2 x (Nn 1 (by omega) (by omega)) (Nn 2 (by omega) (by omega)) (Nn 13 (by omega) (by omega))]
  rw [k1, Option.bind_some, P_deg hC k3 (by omega), Option.bind_some]
  by_cases c : 0 < deg g
  · have e1 : ¬ l1 = [] := fun e => by
      rw [p2, e, lp_nil, hE.2.2.2.2.1.2.2] at c
      omega
    rw [if_neg (fun q => by have := (dI_0lt hR k3.1).mpr c; exact Int32.not_le.mpr this q)]
    have hW2 : PL cd cf M2 P (W.map lp) := PL_fr hP hW (fun x hx => fr x (by omega))
    obtain ⟨M3, m1, m2, m3⟩ := P_addp hC hP hW2 (by rw [List.length_map]; exact hn) (by rw [List.length_map]; exact h5) (r := 14) (by decide) k3 (show 17 ≤ fu by omega)
    rw [m1, Option.bind_some]
    have hd3 : RW cd (M3 12) (cf (lp L)) := by rw [m2 12 (by decide), fr 12 (by decide)]; exact hr
    obtain ⟨M4, qq, rr, n1, n2, n3, n4, n5, n6⟩ := P_divR hC hR (a := 12) (b := 14) (by decide) (by decide) (by decide) hd3 (by rw [m2 14 (by decide)]; exact k3) p3 (show 18 ≤ fu by omega)
    have hun := pr_dun hR p3 (q1 := qq) (r1 := rr) (q2 := lp l2) (r2 := 0) (by rw [← n5, lp_perm p1, lp_app, p2]; grind) n6 (by rw [(pr_sq0 hR 0).mpr rfl, (pr_mo hR p3).2]; omega)
    obtain ⟨M5, o1, o2, o3⟩ := P_copy hC (M := M4) (r := 12) (b := 2) (by decide) n3 (show 17 ≤ fu by omega)
    refine ⟨M5, va_up N 0 (nI ((W.map lp).length + 1)), W ++ [l1], l1, l2, ?_, p1, p4, p5, by rw [← hun.1]; exact o3, Or.inr ⟨rfl, e1⟩, ?_, ?_, fun j hj => va_up_ne _ _ hj, ?_, ?_⟩
    · show (f_X1_divide fu M3 E 12 14).bind (fun u18 => (f_X2_copy fu u18 12 2).bind (fun u20 => some (u20, va_up N 0 (nI ((W.map lp).length + 1))))) = _
      rw [n1, Option.bind_some, o1, Option.bind_some]
    · rw [List.map_append, List.map_cons, List.map_nil, ← p2]
      refine PL_fr hP m3 (fun x hx => ?_)
      have Nn : ∀ (v : Nat) (hv : v < 20), v < 15 → ¬ x = ⟨v, hv⟩ := fun v hv h e => by
        have e2 : x.val = v := by rw [e]
        omega
      rw [o2 x (Nn 12 (by omega) (by omega)), n2 x (Nn 2 (by omega) (by omega)) (Nn 12 (by omega) (by omega))]
    · rw [va_up_self, List.length_map, List.length_append]; rfl
    · rw [o2 0 (by decide), n2 0 (by decide) (by decide), m2 0 (by decide), fr 0 (by decide)]
    · rw [o2 11 (by decide), n2 11 (by decide) (by decide), m2 11 (by decide), fr 11 (by decide)]
  · have e1 : l1 = [] := lp_one hE i1 (by rw [← p2]; omega)
    rw [if_pos (Int32.not_lt.mp (fun q => c ((dI_0lt hR k3.1).mp q)))]
    refine ⟨M2, N, W, l1, l2, rfl, p1, p4, p5, ?_, Or.inl ⟨rfl, e1⟩, PL_fr hP hW (fun x hx => fr x (by omega)), hn, fun _ _ => rfl, fr 0 (by decide), fr 11 (by decide)⟩
    have : lp l2 = lp L := by
      rw [lp_perm p1, lp_app, e1, lp_nil]; grind
    rw [this, fr 12 (by decide)]
    exact hr
