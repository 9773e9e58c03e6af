/-! Parts of one degree are taken apart, as the class does it: one c, all parts. -/
def AG {R : Type} [Lean.Grind.CommRing R] (V : R) (l : List R) : Prop := ∀ p ∈ l, ∀ p' ∈ l, (dv p V ↔ dv p' V)
theorem AG_y {R : Type} [Lean.Grind.CommRing R] {V : R} {l : List R} (h : ∀ p ∈ l, dv p V) : AG V l := fun p hp p' hp' => ⟨fun _ => h p' hp', fun _ => h p hp⟩
theorem AG_n {R : Type} [Lean.Grind.CommRing R] {V : R} {l : List R} (h : ∀ p ∈ l, ¬ dv p V) : AG V l := fun p hp p' hp' => ⟨fun q => absurd q (h p hp), fun q => absurd q (h p' hp')⟩
theorem AG_1 {R : Type} [Lean.Grind.CommRing R] {V : R} {l : List R} (h : l.length ≤ 1) : AG V l := by
  match l, h with
  | [], _ => exact fun p hp => by cases hp
  | [x], _ => exact fun p hp p' hp' => by rw [List.mem_singleton.mp hp, List.mem_singleton.mp hp']
  | x :: y :: l, h => simp at h
def WS {R : Type} (deg : R → Nat) (W : List (List R)) (L : List R) (first d : Nat) : Prop := (∀ l ∈ W, ¬ l = []) ∧ W.flatten.Perm L ∧ ∀ j l, first ≤ j → W[j]? = some l → ∀ p ∈ l, deg p = d
theorem fl_len {R : Type} : ∀ W : List (List R), (∀ l ∈ W, ¬ l = []) → W.length ≤ W.flatten.length := by
  intro W
  induction W with
  | nil => intro _; exact Nat.zero_le _
  | cons x W ih =>
    intro h
    have h1 := ih (fun l hl => h l (List.mem_cons_of_mem _ hl))
    have h2 : 0 < x.length := List.length_pos_iff.mpr (h x List.mem_cons_self)
    rw [List.flatten_cons, List.length_append, List.length_cons]
    omega
theorem fl_set {R : Type} {l l1 l2 : List R} (hp : l.Perm (l1 ++ l2)) : ∀ (W : List (List R)) (i : Nat), W[i]? = some l → (W.set i l2 ++ [l1]).flatten.Perm W.flatten := by
  intro W
  induction W with
  | nil => intro i h; simp at h
  | cons x W ih =>
    intro i h
    cases i with
    | zero =>
      have e : x = l := by simpa using h
      subst e
      rw [List.set_cons_zero, List.cons_append, List.flatten_cons, List.flatten_append, List.flatten_cons]
      rw [List.flatten_nil, List.append_nil, List.flatten_cons]
      have p1 : (l2 ++ (W.flatten ++ l1)).Perm (l1 ++ (l2 ++ W.flatten)) := by
        rw [← List.append_assoc]
        exact List.perm_append_comm
      refine p1.trans ?_
      rw [← List.append_assoc]
      exact List.Perm.append_right _ hp.symm
    | succ i =>
      rw [List.set_cons_succ, List.cons_append, List.flatten_cons, List.flatten_cons]
      exact List.Perm.append_left _ (ih i (by simpa using h))
theorem fl_mem {R : Type} {W : List (List R)} {i : Nat} {l : List R} (h : W[i]? = some l) {p : R} (hp : p ∈ l) : p ∈ W.flatten := List.mem_flatten.mpr ⟨l, List.mem_of_getElem? h, hp⟩
theorem fl_nd {R : Type} {W : List (List R)} (hn : W.flatten.Nodup) {i : Nat} {l : List R} (h : W[i]? = some l) : l.Nodup := by
  exact List.Sublist.nodup (List.sublist_flatten_of_mem (List.mem_of_getElem? h)) hn
theorem set_get {R : Type} {W : List (List R)} {i j : Nat} {l1 l2 l' : List R} (hi : i < W.length) (h : (W.set i l2 ++ [l1])[j]? = some l') : (j = i ∧ l' = l2) ∨ (j = W.length ∧ l' = l1) ∨ (¬ j = i ∧ j < W.length ∧ W[j]? = some l') := by
  by_cases c : j < W.length
  · rw [List.getElem?_append_left (by rw [List.length_set]; exact c)] at h
    by_cases e : j = i
    · subst e
      rw [List.getElem?_set_self c] at h
      exact Or.inl ⟨rfl, (Option.some.inj h).symm⟩
    · rw [List.getElem?_set_ne (fun q => e q.symm)] at h
      exact Or.inr (Or.inr ⟨e, c, h⟩)
  · have hj := (List.getElem?_eq_some_iff.mp h).1
    rw [List.length_append, List.length_set] at hj
    have e : j = W.length := by
      have : [l1].length = 1 := rfl
      omega
    rw [List.getElem?_append_right (by rw [List.length_set]; omega), List.length_set, e, Nat.sub_self] at h
    exact Or.inr (Or.inl ⟨e, by simpa using h.symm⟩)
theorem WS_len {R : Type} [Lean.Grind.CommRing R] {deg : R → Nat} {mon : R → Prop} (hE : EU deg mon) {W : List (List R)} {L : List R} {first d : Nat} (h : WS deg W L first d) (hL1 : ∀ p ∈ L, irr deg mon p) : W.length ≤ deg (lp L) := by
  have h1 := fl_len W h.1
  have h2 := lp_len hE hL1
  rw [h.2.1.length_eq] at h1
  omega
theorem WS_split {R : Type} {deg : R → Nat} {W : List (List R)} {L : List R} {first d i : Nat} (h : WS deg W L first d) (hi : first ≤ i) {l l1 l2 : List R} (hl : W[i]? = some l) (hp : l.Perm (l1 ++ l2)) (h1 : ¬ l1 = []) (h2 : ¬ l2 = []) : WS deg (W.set i l2 ++ [l1]) L first d := by
  have hlt := (List.getElem?_eq_some_iff.mp hl).1
  refine ⟨fun l' hl' => ?_, (fl_set hp W i hl).trans h.2.1, fun j l' hj hl' p hp' => ?_⟩
  · obtain ⟨j, hj⟩ := List.mem_iff_getElem?.mp hl'
    rcases set_get hlt hj with ⟨_, e⟩ | ⟨_, e⟩ | ⟨_, _, e⟩
    · rw [e]; exact h2
    · rw [e]; exact h1
    · exact h.1 l' (List.mem_of_getElem? e)
  · rcases set_get hlt hl' with ⟨_, e⟩ | ⟨_, e⟩ | ⟨_, _, e⟩
    · exact h.2.2 i l hi hl p (hp.mem_iff.mpr (List.mem_append.mpr (Or.inr (e ▸ hp'))))
    · exact h.2.2 i l hi hl p (hp.mem_iff.mpr (List.mem_append.mpr (Or.inl (e ▸ hp'))))
    · exact h.2.2 j l' hj e p hp'
/-- what a run over the parts leaves -/
def SO {K R : Type} [Lean.Grind.CommRing K] [Lean.Grind.CommRing R] (cd : K → Int32) (cf : R → Nat → K) (deg : R → Nat) (P : Nat → Fin 20) (L : List R) (first d : Nat) (M : (Fin 20 → Nat → Int32)) (N : (Nat → Int32)) (W : List (List R)) (M' : (Fin 20 → Nat → Int32)) (N' : (Nat → Int32)) (W' : List (List R)) : Prop :=
  WS deg W' L first d ∧ PL cd cf M' P (W'.map lp) ∧ N' 0 = nI W'.length ∧ (∀ j, ¬ j = 0 → N' j = N j) ∧ (∀ j l', first ≤ j → W'[j]? = some l' → ∃ j0 l, first ≤ j0 ∧ W[j0]? = some l ∧ ∀ p ∈ l', p ∈ l) ∧ (∀ j, j < first → W'[j]? = W[j]?) ∧ ∀ x : Fin 20, x.val = 0 ∨ x.val = 11 ∨ x.val = 12 → M' x = M x
theorem SO_rf {K R : Type} [Lean.Grind.CommRing K] [Lean.Grind.CommRing R] {cd : K → Int32} {cf : R → Nat → K} {deg : R → Nat} {P : Nat → Fin 20} {L : List R} {first d : Nat} {M : (Fin 20 → Nat → Int32)} {N : (Nat → Int32)} {W : List (List R)} (h1 : WS deg W L first d) (h2 : PL cd cf M P (W.map lp)) (h3 : N 0 = nI W.length) : SO cd cf deg P L first d M N W M N W :=
  ⟨h1, h2, h3, fun _ _ => rfl, fun j l' hj hl => ⟨j, l', hj, hl, fun _ hp => hp⟩, fun _ _ => rfl, fun _ _ => rfl⟩
theorem SO_tr {K R : Type} [Lean.Grind.CommRing K] [Lean.Grind.CommRing R] {cd : K → Int32} {cf : R → Nat → K} {deg : R → Nat} {P : Nat → Fin 20} {L : List R} {first d : Nat} {M M' M'' : (Fin 20 → Nat → Int32)} {N N' N'' : (Nat → Int32)} {W W' W'' : List (List R)} (h : SO cd cf deg P L first d M N W M' N' W') (k : SO cd cf deg P L first d M' N' W' M'' N'' W'') : SO cd cf deg P L first d M N W M'' N'' W'' := by
  obtain ⟨h1, h2, h3, h4, h5, h6, h7⟩ := h
  obtain ⟨k1, k2, k3, k4, k5, k6, k7⟩ := k
  refine ⟨k1, k2, k3, fun j hj => by rw [k4 j hj, h4 j hj], fun j l' hj hl => ?_, fun j hj => by rw [k6 j hj, h6 j hj], fun x hx => by rw [k7 x hx, h7 x hx]⟩
  obtain ⟨j0, l0, a, b, c⟩ := k5 j l' hj hl
  obtain ⟨j1, l1, a', b', c'⟩ := h5 j0 l0 a b
  exact ⟨j1, l1, a', b', fun p hp => c' p (c p hp)⟩
set_option maxHeartbeats 2000000 in
theorem P_sep_i {K R : Type} [Lean.Grind.CommRing K] [Lean.Grind.CommRing R] {cd : K → Int32} {E : Nat → Int32} {kk : Int32} {md : Nat → Int32} {mn : Int64} {q k : Nat} {T : K} (hL : FL cd E kk md mn q k T) {cf : R → Nat → K} {deg : R → Nat} {mon : R → Prop} {X : R} {Cc : K → R} {Kl : List R} (hR : PR cf deg mon X Cc Kl q) {d : Nat} (hd : d = 1 ∨ d = 2) {P : Nat → Fin 20} (hP : PI P) {L : List R} (hL1 : ∀ p ∈ L, irr deg mon p) (hL2 : L.Nodup) (hdu : deg (lp L) ≤ 5) {first e h : Nat} (hh : h < 2 ^ 41) (c : K) (kc : Int32 → Int32 → (Fin 20 → Nat → Int32) → (Nat → Int32) → Option ((Fin 20 → Nat → Int32) × (Nat → Int32))) (fu : Nat) (hfu : 42 ≤ fu) (x4 x5 x10 : Int32) : ∀ (t i n : Nat) (M : (Fin 20 → Nat → Int32)) (N : (Nat → Int32)) (W : List (List R)) (x9 : Int32), t + i = e → first ≤ i → e ≤ W.length → WS deg W L first d → PL cd cf M P (W.map lp) → N 0 = nI W.length → (∀ j l, first ≤ j → (j < i ∨ e ≤ j) → W[j]? = some l → AG ((X + Cc c) ^ h - 1) l) → (x9 = 0 → W.length = e ∧ ∀ j l, first ≤ j → j < i → W[j]? = some l → l.length ≤ 1) → t < n → ∃ x9' y M' N' W', f_X3_separate_l68 kc fu E P (nI first) (nI d) x4 x5 (lN h) (cd c) x10 (nI e) n x9 (nI i) M N = kc x9' y M' N' ∧ SO cd cf deg P L first d M N W M' N' W' ∧ (∀ j l, first ≤ j → W'[j]? = some l → AG ((X + Cc c) ^ h - 1) l) ∧ (x9' = 0 → ∀ j l, first ≤ j → W'[j]? = some l → l.length ≤ 1) := by
  have hC := hL.1
  have hE := pr_eu hR
  intro t
  induction t with
  | zero =>
    intro i n M N W x9 hi hfi heW hW hPL hN hA hx hn
    obtain ⟨n, rfl⟩ : ∃ n', n = n' + 1 := ⟨n - 1, by omega⟩
    have hl5 := WS_len hE hW hL1
    have : e = i := by omega
    subst this
    refine ⟨x9, nI e, M, N, W, by rw [f_X3_separate_l68, if_pos (nI_le (by omega) (by omega))], SO_rf hW hPL hN, fun j l hj hl => hA j l hj (by omega) hl, fun q j l hj hl => ?_⟩
    obtain ⟨x1, x2⟩ := hx q
    have := (List.getElem?_eq_some_iff.mp hl).1
    exact x2 j l hj (by omega) hl
  | succ t ih =>
    intro i n M N W x9 hi hfi heW hW hPL hN hA hx hn
    obtain ⟨n, rfl⟩ : ∃ n', n = n' + 1 := ⟨n - 1, by omega⟩
    have hl5 := WS_len hE hW hL1
    have hiW : i < W.length := by omega
    obtain ⟨l, hl⟩ : ∃ l, W[i]? = some l := ⟨W[i], List.getElem?_eq_getElem hiW⟩
    have fin : ∀ (x9' : Int32) (M' : (Fin 20 → Nat → Int32)) (N' : (Nat → Int32)) (W' : List (List R)), SO cd cf deg P L first d M N W M' N' W' → e ≤ W'.length → (∀ j l, first ≤ j → (j < i + 1 ∨ e ≤ j) → W'[j]? = some l → AG ((X + Cc c) ^ h - 1) l) → (x9' = 0 → W'.length = e ∧ ∀ j l, first ≤ j → j < i + 1 → W'[j]? = some l → l.length ≤ 1) → ∃ x9'' y M'' N'' W'', f_X3_separate_l68 kc fu E P (nI first) (nI d) x4 x5 (lN h) (cd c) x10 (nI e) n x9' (nI i + 1) M' N' = kc x9'' y M'' N'' ∧ SO cd cf deg P L first d M N W M'' N'' W'' ∧ (∀ j l, first ≤ j → W''[j]? = some l → AG ((X + Cc c) ^ h - 1) l) ∧ (x9'' = 0 → ∀ j l, first ≤ j → W''[j]? = some l → l.length ≤ 1) := by
      intro x9' M' N' W' a1 a2 a3 a4
      obtain ⟨x9'', y, M'', N'', W'', b1, b2, b3, b4⟩ := ih (i + 1) n M' N' W' x9' (by omega) (by omega) a2 a1.1 a1.2.1 a1.2.2.1 a3 a4 (by omega)
      rw [nI_1]
      exact ⟨x9'', y, M'', N'', W'', b1, SO_tr a1 b2, b3, b4⟩
    have li : ∀ p ∈ l, irr deg mon p ∧ deg p = d := fun p hp => ⟨hL1 p (hW.2.1.mem_iff.mp (fl_mem hl hp)), hW.2.2 i l hfi hl p hp⟩
    have lnd : l.Nodup := fl_nd (hW.2.1.symm.nodup hL2) hl
    have ml : mon (lp l) := lp_monI hE (fun p hp => (li p hp).1)
    have dl' : deg (lp l) = d * l.length := lp_deg1 hE l (fun p hp => ⟨(li p hp).1.1, (li p hp).2⟩)
    have ll : l.length ≤ 5 := by
      have h1 := (List.getElem?_eq_some_iff.mp hl)
      have h2 := lp_len hE hL1
      have h3 : l.length ≤ W.flatten.length := by
        have := List.Sublist.length_le (List.sublist_flatten_of_mem (List.mem_of_getElem? hl))
        exact this
      rw [hW.2.1.length_eq] at h3
      omega
    have lne : 0 < l.length := List.length_pos_iff.mpr (hW.1 l (List.mem_of_getElem? hl))
    have hRW : RW cd (M (P i)) (cf (lp l)) := hPL.2 i (lp l) (by rw [List.getElem?_map, hl]; rfl)
    have hPi := P_part (P := P) (i := i) (by omega)
    have sql := (pr_mo hR ml).2
    have hdd : d * l.length ≤ 10 := by rcases hd with q | q <;> rw [q] <;> omega
    have ne : ∀ (v : Nat) (hv : v < 20), v < 15 → ¬ P i = ⟨v, hv⟩ := fun v hv h => PI_ne hP (by omega) hv h
    rw [f_X3_separate_l68, if_neg (nI_ge (by omega) (by omega)), hPi, Option.bind_some, P_deg hC hRW (by omega), Option.bind_some, sql, dI_s, dl']
    by_cases c1 : l.length ≤ 1
    · have e1 : l.length = 1 := by omega
      rw [if_pos (nI_le (by rw [e1]; omega) (by rcases hd with q | q <;> omega)), Option.bind_some]
      refine fin x9 M N W (SO_rf hW hPL hN) heW (fun j l' hj hj2 hl' => ?_) (fun q => ⟨(hx q).1, fun j l' hj hj2 hl' => ?_⟩)
      · by_cases e2 : j = i
        · rw [e2, hl] at hl'
          rw [← Option.some.inj hl']
          exact AG_1 c1
        · exact hA j l' hj (by omega) hl'
      · by_cases e2 : j = i
        · rw [e2, hl] at hl'
          rw [← Option.some.inj hl']
          exact c1
        · exact (hx q).2 j l' hj (by omega) hl'
    · have g2 : d * 2 ≤ d * l.length := Nat.mul_le_mul_left _ (by omega)
      have hdl1 : deg (lp l) ≤ 5 := by
        have hdv : dv (lp l) (lp L) := by
          rw [← lp_perm hW.2.1]
          refine lp_dvd hE l lnd (fun p hp => (li p hp).1) (fun p hp => lp_mem _ (fl_mem hl hp))
        exact Nat.le_trans (dv_deg hE (hE.2.2.2.2.2.2.1 _ (lp_monI hE hL1)) hdv) hdu
      rw [if_neg (nI_ge (by rcases hd with q | q <;> omega) (by omega))]
      obtain ⟨M1, r, cc, r1, r2, r3, r4, r5⟩ := P_raise hC hR (M := M) (xb := P i) (xi := 13) ⟨ne 1 (by omega) (by omega), ne 2 (by omega) (by omega), ne 13 (by omega) (by omega)⟩ (by decide) hRW ml (by rcases hd with q | q <;> omega) (by omega) hh c hfu
      have get0 : f_X2_get M1 13 0 = some (cd (cf r 0)) := P_get hC r3 (i := 0) (by omega)
      have set0 : ∀ v, f_X2_set M1 13 0 v = some (fup M1 13 (upd (M1 13) 0 v)) := P_set M1 13 (i := 0) (by omega)
      have min1 : f_X0_minus (cd (cf r 0)) 1 = some (cd (cf r 0 - 1)) := by
        have := hC.2.2.2.1 (cf r 0) 1
        rw [hC.2.1.2] at this
        exact this
      rw [Option.bind_some, r1, Option.bind_some, get0, Option.bind_some, min1, Option.bind_some, set0, Option.bind_some, Option.bind_some]
      have r13 : RW cd ((fup M1 13 (upd (M1 13) 0 (cd (cf r 0 - 1)))) 13) (cf (r - 1)) := by
        rw [fup_s]
        refine RW_upd r3 (by omega) ?_ (fun j hj => ?_)
        · rw [pr_sub hR, pr_1 hR]; rfl
        · rw [pr_sub hR, pr_1 hR]
          show cf r j - (if j = 0 then 1 else 0) = cf r j
          rw [if_neg hj]; grind
      have rP : RW cd ((fup M1 13 (upd (M1 13) 0 (cd (cf r 0 - 1)))) (P i)) (cf (lp l)) := by
        rw [fup_n _ _ (show ¬ P i = 13 from ne 13 (by omega) (by omega)), r2 (P i) (ne 1 (by omega) (by omega)) (ne 2 (by omega) (by omega)) (ne 13 (by omega) (by omega))]; exact hRW
      obtain ⟨M2, g, k1, k2, k3, k4⟩ := P_gcd hC hR hL.2.1 (x1 := P i) (x2 := 13) (x3 := 14) (ne 3 (by omega) (by omega)) (by decide) (by decide) rP r13 (show 32 ≤ fu by omega)
      obtain ⟨l1, l2, p1, p2, p3, p4, p5⟩ := gc_split hE hR.1.2.1 (fun p hp => (li p hp).1) lnd (gc_cong (b' := (X + Cc c) ^ h - 1) (c := cc) (by rw [r4]; grind) k4)
      obtain ⟨ds, i1, i2⟩ := lp_deg5 hE (fun p hp => (li p hp).1) p1
      have fr : ∀ x : Fin 20, (x.val = 0 ∨ x.val = 11 ∨ x.val = 12 ∨ 15 ≤ x.val) → M2 x = M x := fun x hx => by
        have Nn : ∀ (v : Nat) (hv : v < 20), (1 ≤ v ∧ v ≤ 4) ∨ v = 13 ∨ v = 14 → ¬ x = ⟨v, hv⟩ := fun v hv h e => by
          have e2 : x.val = v := by rw [e]
          omega
        rw [k2 x (Nn 2 (by omega) (by omega)) (Nn 3 (by omega) (by omega)) (Nn 4 (by omega) (by omega)) (Nn 14 (by omega) (by omega)), fup_n _ _ (show ¬ x = 13 from Nn 13 (by omega) (by omega)), r2 x (Nn 1 (by omega) (by omega)) (Nn 2 (by omega) (by omega)) (Nn 13 (by omega) (by omega))]
      have hPL2 : PL cd cf M2 P (W.map lp) := PL_fr hP hPL (fun x hx => fr x (by omega))
      have so2 : SO cd cf deg P L first d M N W M2 N W := ⟨hW, hPL2, hN, fun _ _ => rfl, fun j l' hj hl => ⟨j, l', hj, hl, fun _ hp => hp⟩, fun _ _ => rfl, fun x hx => fr x (by omega)⟩
      have same : AG ((X + Cc c) ^ h - 1) l → ∀ j l', first ≤ j → (j < i + 1 ∨ e ≤ j) → W[j]? = some l' → AG ((X + Cc c) ^ h - 1) l' := fun ag j l' hj hj2 hl' => by
        by_cases e2 : j = i
        · rw [e2, hl] at hl'
          rw [← Option.some.inj hl']
          exact ag
        · exact hA j l' hj (by omega) hl'
      have one0 : ¬ (1 : Int32) = 0 := by decide
      rw [k1, Option.bind_some, P_deg hC k3 (by omega), Option.bind_some]
      by_cases c2 : 0 < deg g
      · rw [if_neg (fun q => by have := (dI_0lt hR k3.1).mpr c2; exact Int32.not_le.mpr this q), Option.bind_some, Option.bind_some, P_deg hC (hPL2.2 i (lp l) (by rw [List.getElem?_map, hl]; rfl)) (by omega), Option.bind_some, sql, (pr_mo hR p3).2, dI_s, dI_s]
        by_cases c3 : deg (lp l) ≤ deg g
        · rw [if_pos (nI_le c3 (by rw [p2]; omega)), Option.bind_some, Option.bind_some, Option.bind_some]
          have e2 : l2 = [] := lp_one hE i2 (by rw [p2] at c3; omega)
          refine fin 1 M2 N W so2 heW (same (AG_y (fun p hp => p4 p ?_))) (fun q => absurd q one0)
          have := p1.mem_iff.mp hp
          rw [e2, List.append_nil] at this
          exact this
        · rw [if_neg (nI_ge (by omega) (by omega)), Option.bind_some]
          have e1 : ¬ l1 = [] := fun q => by
            rw [p2, q, lp_nil, hE.2.2.2.2.1.2.2] at c2
            omega
          have e2 : ¬ l2 = [] := fun q => by
            rw [q, lp_nil, hE.2.2.2.2.1.2.2, ← p2] at ds
            omega
          obtain ⟨M3, qq, rr, n1, n2, n3, n4, n5, n6⟩ := P_divR hC hR (a := P i) (b := 14) (fun q => ne 14 (by omega) (by omega) q.symm) (ne 2 (by omega) (by omega)) (by decide) (hPL2.2 i (lp l) (by rw [List.getElem?_map, hl]; rfl)) k3 p3 (show 18 ≤ fu by omega)
          have hun := pr_dun hR p3 (q1 := qq) (r1 := rr) (q2 := lp l2) (r2 := 0) (by rw [← n5, lp_perm p1, lp_app, p2]; grind) n6 (by rw [(pr_sq0 hR 0).mpr rfl, (pr_mo hR p3).2]; omega)
          obtain ⟨M4, o1, o2, o3⟩ := P_copy hC (M := M3) (r := P i) (b := 2) (fun q => ne 2 (by omega) (by omega) q.symm) n3 (show 17 ≤ fu by omega)
          rw [hun.1] at o3
          have hW4 : PL cd cf M4 P ((W.set i l2).map lp) := by
            rw [List.map_set]
            refine PL_set hP hPL2 (by rw [List.length_map]; exact hiW) o3 (fun x hx hx2 => ?_)
            rw [o2 x hx2, n2 x (fun q => by rw [q] at hx; exact absurd hx (by decide)) hx2]
          have hws := WS_split hW hfi hl p1 e1 e2
          have hlen := WS_len hE hws hL1
          rw [List.length_append, List.length_set] at hlen
          have hlen1 : [l1].length = 1 := rfl
          have r14 : RW cd (M4 14) (cf g) := by
            rw [o2 14 (fun q => ne 14 (by omega) (by omega) q.symm), n2 14 (by decide) (fun q => ne 14 (by omega) (by omega) q.symm)]; exact k3
          obtain ⟨M5, m1, m2, m3⟩ := P_addp hC hP hW4 (N := N) (by rw [List.length_map, List.length_set]; exact hN) (by rw [List.length_map, List.length_set]; omega) (r := 14) (by decide) r14 (show 17 ≤ fu by omega)
          rw [n1, Option.bind_some, Option.bind_some, o1, Option.bind_some, m1, Option.bind_some, Option.bind_some, Option.bind_some, Option.bind_some]
          refine fin 1 M5 (va_up N 0 (nI (((W.set i l2).map lp).length + 1))) (W.set i l2 ++ [l1]) ⟨hws, ?_, ?_, fun j hj => va_up_ne _ _ hj, fun j l' hj hl' => ?_, fun j hj => ?_, fun x hx => ?_⟩ ?_ (fun j l' hj hj2 hl' => ?_) (fun q => absurd q one0)
          · rw [List.map_append, List.map_cons, List.map_nil, ← p2]; exact m3
          · rw [va_up_self, List.length_map, List.length_append, List.length_set]; rfl
          · rcases set_get hiW hl' with ⟨_, q⟩ | ⟨_, q⟩ | ⟨_, _, q⟩
            · exact ⟨i, l, hfi, hl, fun p hp => p1.mem_iff.mpr (List.mem_append.mpr (Or.inr (q ▸ hp)))⟩
            · exact ⟨i, l, hfi, hl, fun p hp => p1.mem_iff.mpr (List.mem_append.mpr (Or.inl (q ▸ hp)))⟩
            · exact ⟨j, l', hj, q, fun _ hp => hp⟩
          · rw [List.getElem?_append_left (by rw [List.length_set]; omega), List.getElem?_set_ne (by omega)]
          · rw [m2 x (by omega), o2 x (fun q => by have := hP.1 i (by omega); rw [← q] at this; omega), n2 x (fun q => by rw [q] at hx; exact absurd hx (by decide)) (fun q => by have := hP.1 i (by omega); rw [← q] at this; omega), fr x (by omega)]
          · rw [List.length_append, List.length_set]; omega
          · rcases set_get hiW hl' with ⟨_, q⟩ | ⟨_, q⟩ | ⟨q1, q2, q⟩
            · rw [q]; exact AG_n p5
            · rw [q]; exact AG_y p4
            · exact hA j l' hj (by omega) q
      · rw [if_pos (Int32.not_lt.mp (fun q => c2 ((dI_0lt hR k3.1).mp q))), Option.bind_some, Option.bind_some]
        have e1 : l1 = [] := lp_one hE i1 (by rw [← p2]; omega)
        refine fin 1 M2 N W so2 heW (same (AG_n (fun p hp => p5 p ?_))) (fun q => absurd q one0)
        have := p1.mem_iff.mp hp
        rw [e1, List.nil_append] at this
        exact this
