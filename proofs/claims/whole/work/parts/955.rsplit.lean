/-! The reference splits the root: degree by degree, then the rest. -/
theorem P_rparts {K R : Type} [Lean.Grind.CommRing K] [Lean.Grind.CommRing R] {cd : K → Int32} {E : Nat → Int32} {kk : Int32} {md : Nat → Int32} {mn : Int64} {q k : Nat} {T : K} (hL : FL cd E kk md mn q k T) {cf : R → Nat → K} {deg : R → Nat} {mon : R → Prop} {X : R} {Cc : K → R} {Kl : List R} (hR : PR cf deg mon X Cc Kl q) {d : Nat} (hd : d = 1 ∨ d = 2) {rw dg : (Nat → Int32)} {l fs : List R} (hl : ¬ l = []) (hir : ∀ p ∈ l, irr deg mon p ∧ deg p = d) (hnd : l.Nodup) (h5 : fs.length + l.length ≤ 5) (hd5 : deg (lp l) ≤ 5) (h7 : RX cd rw dg 7 (cf (lp l))) (hPF : PF cd cf rw dg fs) {fu : Nat} (hfu : 20000000 ≤ fu) : ∃ rw' dg' fs', f_X5_parts fu kk mn md rw dg (nI fs.length) (nI d) = some (rw', dg', nI fs'.length) ∧ fs'.Perm (fs ++ l) ∧ PF cd cf rw' dg' fs' ∧ FR LP0 rw dg rw' dg' := by
  have hE := pr_eu hR
  have hF := hL.2.1
  have hq : q ≤ 1030301 := by rcases hF.2.2.1 with h | h | h <;> omega
  obtain ⟨rw1, dg1, a1, a2, a3⟩ := P_rcopy (x := 7) (y := 10) (a := 7) (b := 10) rfl rfl (by omega) (by omega) (by omega) h7 (show 17 ≤ fu by omega)
  have pw : PW cd cf rw1 dg1 [l] := fun i l' hi => by
    have h0 := (List.getElem?_eq_some_iff.mp hi).1
    have : i = 0 := by
      have : [l].length = 1 := rfl
      omega
    subst this
    have e : l = l' := by simpa using hi
    rw [← e]
    exact a3
  have fl : [l].flatten = l := by simp
  have pf : PF cd cf rw1 dg1 fs := PF_fr a2 (fun i hi => by simp; omega) hPF
  obtain ⟨y1, y2, rw2, dg2, fs2, b1, b2, b3, b4⟩ := P_rparts_l hL hR hd (fun _ _ rw dg fc => some (rw, dg, fc)) fu (by omega) fu rw1 dg1 [l] fs 0 (fun l' h' => by rw [List.mem_singleton.mp h']; exact hl) (by rw [fl]; exact hir) (by rw [fl]; exact hnd) (by rw [fl]; exact h5) (by rw [fl]; exact hd5) pw pf (by omega) (fun l' hl' => ⟨Or.inl rfl, fun u hu => absurd hu (Nat.not_lt_zero _)⟩) (by
    rw [fl]
    have : (2 * l.length - [l].length) * (q + 1) ≤ 10 * 1030302 := Nat.mul_le_mul (by omega) (by omega)
    omega)
  rw [fl] at b2
  refine ⟨rw2, dg2, fs2, ?_, b2, b3, FR_mo (FR_tr a2 b4) (fun r hr => ?_)⟩
  · unfold f_X5_parts
    rw [a1, Option.bind_some]
    have e3 : (if nI d = 1 then some ((mn - 1) / 2) else some (((mn * mn) - 1) / 2) : Option Int64) = some (lN ((q ^ d - 1) / 2)) := by
      rw [hF.2.2.2.2]
      rcases hd with e | e <;> rcases hF.2.2.1 with h | h | h <;> rw [h, e] <;> decide +kernel
    show (if nI d = 1 then some ((mn - 1) / 2) else some (((mn * mn) - 1) / 2) : Option Int64).bind _ = _
    rw [e3, Option.bind_some]
    exact b1
  · rcases List.mem_append.mp hr with h | h
    · rw [List.mem_singleton.mp h]; decide
    · exact h
def LS0 : List Nat := [2, 3, 4, 5, 6, 7, 8, 9, 10, 11, 12, 13, 14, 20, 21, 22, 23, 24]
theorem LS_of {a : Nat} (h : (2 ≤ a ∧ a ≤ 14) ∨ (20 ≤ a ∧ a ≤ 24)) : a ∈ LS0 := by
  simp [LS0]; omega
theorem LP_to {a : Nat} (h : a ∈ LP0) : a ∈ LS0 := by
  simp [LP0] at h
  exact LS_of (by omega)
def RI {K R : Type} [Lean.Grind.CommRing K] [Lean.Grind.CommRing R] (cd : K → Int32) (cf : R → Nat → K) (deg : R → Nat) (X : R) (q : Nat) (L : List R) (d : Nat) (rw dg : (Nat → Int32)) (fs Lr : List R) : Prop :=
  PF cd cf rw dg fs ∧ (fs ++ Lr).Perm L ∧ (∀ p ∈ Lr, d ≤ deg p) ∧ RX cd rw dg 8 (cf (lp Lr)) ∧ ∃ C c, RX cd rw dg 4 (cf C) ∧ X ^ (q ^ (d - 1)) = c * lp Lr + C
theorem P_rsout {K R : Type} [Lean.Grind.CommRing K] [Lean.Grind.CommRing R] {cd : K → Int32} {E : Nat → Int32} {kk : Int32} {md : Nat → Int32} {mn : Int64} {q k : Nat} {T : K} (hL : FL cd E kk md mn q k T) {cf : R → Nat → K} {deg : R → Nat} {mon : R → Prop} {X : R} {Cc : K → R} {Kl : List R} (hR : PR cf deg mon X Cc Kl q) {L : List R} (hL1 : ∀ p ∈ L, irr deg mon p) (hdu : deg (lp L) ≤ 5) (kc : Int32 → (Nat → Int32) → (Nat → Int32) → Int32 → Option ((Nat → Int32) × (Nat → Int32) × Int32)) (fu : Nat) (hfu : 20 ≤ fu) {d n : Nat} {rw dg : (Nat → Int32)} {fs Lr : List R} (hd1 : 1 ≤ d) (hd : d ≤ 3) (h : RI cd cf deg X q L d rw dg fs Lr) (hlt : deg (lp Lr) < 2 * d) (hn : 1 < n) : ∃ y rw' dg' ps, f_X5_split_l26 kc fu kk mn md n (nI d) rw dg (nI fs.length) = kc y rw' dg' (nI ps.length) ∧ ps.Perm L ∧ PF cd cf rw' dg' ps ∧ FR LS0 rw dg rw' dg' := by
  have hE := pr_eu hR
  obtain ⟨g1, g2, g3, g4, C, c, g5, g6⟩ := h
  have hLr : ∀ p ∈ Lr, irr deg mon p := fun p hp => hL1 p (g2.mem_iff.mp (List.mem_append.mpr (Or.inr hp)))
  have mr := lp_monI hE hLr
  have hlen := lp_len hE hL1
  have hl4 := g2.length_eq
  rw [List.length_append] at hl4
  have h1 : Lr.length ≤ 1 := by
    have := lp_deg hE (d := d) Lr (fun p hp => ⟨hLr p hp, g3 p hp⟩)
    by_cases c : Lr.length ≤ 1
    · exact c
    · have : d * 2 ≤ d * Lr.length := Nat.mul_le_mul_left _ (by omega)
      omega
  obtain ⟨n, rfl⟩ : ∃ n', n = n' + 2 := ⟨n - 2, by omega⟩
  have c8 : (8 : Int32).toNatClampNeg = 8 := by decide
  match Lr, h1 with
  | [], _ =>
    refine ⟨nI d, rw, dg, fs, ?_, by rw [List.append_nil] at g2; exact g2, g1, FR_rf _ _ _⟩
    rw [f_X5_split_l26, if_neg (show ¬ (5 : Int32) < nI d from nI_nlt (a := 5) (by omega) (by decide)), if_neg (by decide), c8, g4.2, if_pos]
    refine (dI_le0 hR g4.1.1).mpr ?_
    rw [lp_nil, hE.2.2.2.2.1.2.2]; omega
  | [p], _ =>
    have hp := hLr p List.mem_cons_self
    have l1 : [p].length = 1 := rfl
    have i20 : (20 : Int32) + nI fs.length = nI (20 + fs.length) := by rw [show (20 : Int32) = nI 20 from rfl, nI_add]
    obtain ⟨rw1, dg1, k1, k2, k3⟩ := P_rcopy (x := 8) (y := 20 + nI fs.length) (a := 8) (b := 20 + fs.length) rfl i20 (by omega) (by omega) (by omega) g4 (show 17 ≤ fu by omega)
    rw [lp_1] at k3 hlt
    have fr8 : FR [8] rw1 dg1 rw1 (upd dg1 8 0) := fun r hr => ⟨fun _ _ => rfl, by
      have : ¬ r = 8 := fun e => hr (by rw [e]; exact List.mem_singleton.mpr rfl)
      show (if r = 8 then 0 else dg1 r) = dg1 r
      rw [if_neg this]⟩
    refine ⟨nI d + 1, rw1, upd dg1 8 0, fs ++ [p], ?_, g2, fun i p' hi => ?_, FR_mo (FR_tr k2 fr8) (fun r hr => ?_)⟩
    · rw [f_X5_split_l26, if_neg (show ¬ (5 : Int32) < nI d from nI_nlt (a := 5) (by omega) (by decide)), if_neg (by decide), c8, g4.2, lp_1]
      have sqp := (pr_mo hR hp.1).2
      rw [if_neg (fun z => (dI_le0 hR (by have := g4.1.1; rw [lp_1] at this; exact this)).mp z hp.2.1), if_neg (by decide), sqp, dI_s, show (2 : Int32) * nI d = nI (2 * d) by rw [show (2 : Int32) = nI 2 from rfl, pk_mul], if_neg (nI_ge (by omega) (by omega))]
      unfold f_X5_found
      rw [k1, Option.bind_some, Option.bind_some, if_neg (by decide), Option.bind_some]
      show f_X5_split_l26 kc fu kk mn md (n + 1) (nI d + 1) rw1 (upd dg1 8 0) (nI fs.length + 1) = _
      rw [f_X5_split_l26, nI_1, if_neg (show ¬ (5 : Int32) < nI (d + 1) from nI_nlt (a := 5) (by omega) (by decide)), if_neg (by decide), c8, if_pos (show upd dg1 8 0 8 ≤ 0 by show (if 8 = 8 then (0 : Int32) else _) ≤ 0; rw [if_pos rfl]; decide), nI_1, List.length_append]
      rfl
    · rcases app_get hi with ⟨a1, a2⟩ | ⟨a1, a2⟩
      · exact RX_fr (FR_tr k2 fr8) (by simp; omega) (g1 i p' a2)
      · rw [a1, a2]
        exact RX_fr fr8 (by simp <;> omega) k3
    · exact LS_of (by simp at hr; omega)
