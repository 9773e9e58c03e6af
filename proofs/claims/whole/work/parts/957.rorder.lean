/-! The reference puts the factors in order and counts them. -/
theorem P_rah_l {K R : Type} [Lean.Grind.CommRing K] [Lean.Grind.CommRing R] {cd : K → Int32} {E : Nat → Int32} {kk : Int32} {md : Nat → Int32} (hC : CX cd E kk md) {cf : R → Nat → K} {deg : R → Nat} {mon : R → Prop} {X : R} {Cc : K → R} {Kl : List R} {q : Nat} (hR : PR cf deg mon X Cc Kl q) {rw : (Nat → Int32)} {x y : Int32} {u v : Nat} (hx : x = nI u) (hy : y = nI v) (hu : u < 25) (hv : v < 25) {a b : R} (ha : RW cd (rv rw u) (cf a)) (hb : RW cd (rv rw v) (cf b)) (fu : Nat) (dg : (Nat → Int32)) : ∀ (s n : Nat), s ≤ 5 → (∀ j, s < j → cf a j = cf b j) → s < n → ∃ w, f_X5_isAhead_l38 (fun y10 => (f_X5_cell rw x y10).bind (fun u11 => (f_X5_cell rw y y10).bind (fun u13 => if u13 ≤ u11 then some 0 else some 1))) fu rw dg x y n (nI s) = some w ∧ (w = 0 ↔ ¬ ∃ i, cd (cf a i) < cd (cf b i) ∧ ∀ j, i < j → cf a j = cf b j) := by
  have stop : ∀ s, s ≤ 5 → (∀ j, s < j → cf a j = cf b j) → (s = 0 ∨ ¬ cf a s = cf b s) → ∃ w, (f_X5_cell rw x (nI s)).bind (fun u11 => (f_X5_cell rw y (nI s)).bind (fun u13 => if u13 ≤ u11 then some (0 : Int32) else some 1)) = some w ∧ (w = 0 ↔ ¬ ∃ i, cd (cf a i) < cd (cf b i) ∧ ∀ j, i < j → cf a j = cf b j) := by
    intro s hs h h0
    rw [P_rget hx (y := nI s) (i := s) rfl hu (by omega) ha, Option.bind_some, P_rget hy (y := nI s) (i := s) rfl hv (by omega) hb, Option.bind_some]
    by_cases c2 : cd (cf b s) ≤ cd (cf a s)
    · rw [if_pos c2]
      refine ⟨0, rfl, fun _ => ?_, fun _ => rfl⟩
      rintro ⟨i, h1, h2⟩
      by_cases e : i < s
      · rcases h0 with z | z
        · omega
        · exact z (h2 s e)
      · by_cases e2 : i = s
        · rw [e2] at h1
          exact Int32.not_lt.mpr c2 h1
        · rw [h i (by omega)] at h1
          exact Int32.lt_irrefl h1
    · rw [if_neg c2]
      exact ⟨1, rfl, fun q => absurd q (by decide), fun q => absurd ⟨s, Int32.not_le.mp c2, fun j hj => h j (by omega)⟩ q⟩
  intro s
  induction s with
  | zero =>
    intro n hs h hn
    obtain ⟨n, rfl⟩ : ∃ n', n = n' + 1 := ⟨n - 1, by omega⟩
    obtain ⟨w, w1, w2⟩ := stop 0 hs h (Or.inl rfl)
    exact ⟨w, by rw [f_X5_isAhead_l38, if_pos (show nI 0 ≤ 0 by decide)]; exact w1, w2⟩
  | succ s ih =>
    intro n hs h hn
    obtain ⟨n, rfl⟩ : ∃ n', n = n' + 1 := ⟨n - 1, by omega⟩
    rw [f_X5_isAhead_l38, if_neg (nI_nle (by omega) (by omega))]
    have ga := P_rget hx (y := nI (s + 1)) (i := s + 1) rfl hu (by omega) ha
    have gb := P_rget hy (y := nI (s + 1)) (i := s + 1) rfl hv (by omega) hb
    by_cases c : cf a (s + 1) = cf b (s + 1)
    · obtain ⟨w, w1, w2⟩ := ih n (by omega) (fun j hj => by
        by_cases e : j = s + 1
        · rw [e]; exact c
        · exact h j (by omega)) (by omega)
      refine ⟨w, ?_, w2⟩
      rw [ga, Option.bind_some, gb, Option.bind_some, if_pos (by rw [c]), pk_m1]
      exact w1
    · obtain ⟨w, w1, w2⟩ := stop (s + 1) hs h (Or.inr c)
      refine ⟨w, ?_, w2⟩
      rw [ga, Option.bind_some, gb, Option.bind_some] at w1
      rw [ga, Option.bind_some, gb, Option.bind_some, if_neg (fun e => c (hC.1 _ _ e))]
      exact w1
theorem P_rah {K R : Type} [Lean.Grind.CommRing K] [Lean.Grind.CommRing R] {cd : K → Int32} {E : Nat → Int32} {kk : Int32} {md : Nat → Int32} (hC : CX cd E kk md) {cf : R → Nat → K} {deg : R → Nat} {mon : R → Prop} {X : R} {Cc : K → R} {Kl : List R} {q : Nat} (hR : PR cf deg mon X Cc Kl q) {rw dg : (Nat → Int32)} {x y : Int32} {u v : Nat} (hx : x = nI u) (hy : y = nI v) (hu : u < 25) (hv : v < 25) {a b : R} (ha : RX cd rw dg u (cf a)) (hb : RX cd rw dg v (cf b)) (sa : sq (cf a) ≤ 6) (sb : sq (cf b) ≤ 6) {fu : Nat} (hfu : 18 ≤ fu) : ∃ w, f_X5_isAhead fu rw dg x y = some w ∧ (w = 0 ↔ ¬ BF cd cf a b) := by
  have dd := dI_ll (sq (cf a)) (by omega) (sq (cf b)) (by omega)
  have dd' := dI_ll (sq (cf b)) (by omega) (sq (cf a)) (by omega)
  have bx : ¬ (x < 0 ∨ 25 ≤ x.toNatClampNeg) := by rw [hx]; exact in25 hu
  have by' : ¬ (y < 0 ∨ 25 ≤ y.toNatClampNeg) := by rw [hy]; exact in25 hv
  have cx : x.toNatClampNeg = u := by rw [hx]; exact nI_clamp (by omega)
  have cy : y.toNatClampNeg = v := by rw [hy]; exact nI_clamp (by omega)
  unfold f_X5_isAhead
  rw [if_neg bx, if_neg by', cx, cy, ha.2, hb.2]
  by_cases c : sq (cf a) = sq (cf b)
  · rw [if_pos (dd.2.mpr c)]
    obtain ⟨w, h1, h2⟩ := P_rah_l hC hR hx hy hu hv ha.1 hb.1 fu dg 5 fu (by omega) (fun j hj => by rw [pr_dl hR a j (by omega), pr_dl hR b j (by omega)]) (by omega)
    refine ⟨w, h1, h2.trans ⟨fun q r => ?_, fun q r => q (Or.inr ⟨c, r⟩)⟩⟩
    rcases r with r | r
    · omega
    · exact q r.2
  · have bx' : ¬ (x < 0 ∨ 25 ≤ u) := fun q => q.elim (fun z => by rw [hx] at z; exact nI_pos (by omega) z) (by omega)
    have by'' : ¬ (y < 0 ∨ 25 ≤ v) := fun q => q.elim (fun z => by rw [hy] at z; exact nI_pos (by omega) z) (by omega)
    rw [if_neg (fun e => c (dd.2.mp e)), if_neg bx', if_neg by'']
    by_cases c2 : sq (cf b) ≤ sq (cf a)
    · rw [if_pos (dd'.1.mpr c2)]
      refine ⟨0, rfl, fun _ r => ?_, fun _ => rfl⟩
      rcases r with r | r
      · omega
      · exact c r.1
    · rw [if_neg (fun e => c2 (dd'.1.mp e))]
      exact ⟨1, rfl, fun q => absurd q (by decide), fun q => absurd (Or.inl (by omega)) q⟩
theorem P_rord_i {K R : Type} [Lean.Grind.CommRing K] [Lean.Grind.CommRing R] {cd : K → Int32} {E : Nat → Int32} {kk : Int32} {md : Nat → Int32} (hC : CX cd E kk md) {cf : R → Nat → K} {deg : R → Nat} {mon : R → Prop} {X : R} {Cc : K → R} {Kl : List R} {q : Nat} (hR : PR cf deg mon X Cc Kl q) {S rest : List R} {x : R} {i : Nat} (hS : S.length = i) (h5 : (S ++ x :: rest).length ≤ 5) (hs6 : ∀ p ∈ S ++ x :: rest, sq (cf p) ≤ 6) (kc : Int32 → (Nat → Int32) → (Nat → Int32) → Option ((Nat → Int32) × (Nat → Int32))) (fu : Nat) (hfu : 18 ≤ fu) (fc x1 : Int32) : ∀ (p n : Nat) (rw dg : (Nat → Int32)), p ≤ i → PF cd cf rw dg (S.take p ++ x :: (S.drop p ++ rest)) → (∀ j y, p ≤ j → S[j]? = some y → BF cd cf x y) → p < n → ∃ p' rw' dg', f_X5_order_l12 kc fu fc x1 n (nI p) rw dg = kc (nI p') rw' dg' ∧ p' ≤ i ∧ PF cd cf rw' dg' (S.take p' ++ x :: (S.drop p' ++ rest)) ∧ (∀ j y, p' ≤ j → S[j]? = some y → BF cd cf x y) ∧ (p' = 0 ∨ ∃ y, S[p' - 1]? = some y ∧ ¬ BF cd cf x y) ∧ FR LS0 rw dg rw' dg' := by
  have hl5 := h5
  rw [List.length_append, List.length_cons] at hl5
  intro p
  induction p with
  | zero =>
    intro n rw dg hp h1 h2 hn
    obtain ⟨n, rfl⟩ : ∃ n', n = n' + 1 := ⟨n - 1, by omega⟩
    exact ⟨0, rw, dg, by rw [f_X5_order_l12, if_pos (show nI 0 ≤ 0 by decide)], by omega, h1, h2, Or.inl rfl, FR_rf _ _ _⟩
  | succ p ih =>
    intro n rw dg hp h1 h2 hn
    obtain ⟨n, rfl⟩ : ∃ n', n = n' + 1 := ⟨n - 1, by omega⟩
    obtain ⟨y, hy⟩ : ∃ y, S[p]? = some y := ⟨S[p]'(by omega), List.getElem?_eq_getElem (by omega)⟩
    have gx : (S.take (p + 1) ++ x :: (S.drop (p + 1) ++ rest))[p + 1]? = some x := by
      rw [ins_get hS hp]
      unfold pz
      rw [if_neg (by omega), if_pos rfl, List.getElem?_append_right (by omega), hS, Nat.sub_self]
      rfl
    have gy : (S.take (p + 1) ++ x :: (S.drop (p + 1) ++ rest))[p]? = some y := by
      rw [ins_get hS hp]
      unfold pz
      rw [if_pos (by omega), List.getElem?_append_left (by omega)]
      exact hy
    have rx := h1 (p + 1) x gx
    have ry := h1 p y gy
    have i20 : (20 : Int32) + nI (p + 1) = nI (20 + (p + 1)) := by rw [show (20 : Int32) = nI 20 from rfl, nI_add]
    have i19 : (20 : Int32) + nI (p + 1) - 1 = nI (20 + p) := by rw [i20, show 20 + (p + 1) = 20 + p + 1 by omega, nI_pred]
    obtain ⟨w, b1, b2⟩ := P_rah hC hR i20 i19 (by omega) (by omega) rx ry (hs6 x (List.mem_append.mpr (Or.inr List.mem_cons_self))) (hs6 y (List.mem_append.mpr (Or.inl (List.mem_of_getElem? hy)))) hfu
    rw [f_X5_order_l12, if_neg (nI_nle (by omega) (by omega)), b1, Option.bind_some]
    by_cases c : w = 0
    · rw [if_pos c]
      exact ⟨p + 1, rw, dg, rfl, hp, h1, h2, Or.inr ⟨y, by rw [show p + 1 - 1 = p by omega]; exact hy, b2.mp c⟩, FR_rf _ _ _⟩
    · rw [if_neg c]
      obtain ⟨rw1, dg1, c1, c2, c3⟩ := P_rcopy (y := 2) (b := 2) i20 rfl (by omega) (by omega) (by omega) rx (show 17 ≤ fu by omega)
      obtain ⟨rw2, dg2, d1, d2, d3⟩ := P_rcopy i19 i20 (by omega) (by omega) (by omega) (RX_fr c2 (by simp; omega) ry) (show 17 ≤ fu by omega)
      obtain ⟨rw3, dg3, e1, e2, e3⟩ := P_rcopy (x := 2) (a := 2) rfl i19 (by omega) (by omega) (by omega) (RX_fr d2 (by simp <;> omega) c3) (show 17 ≤ fu by omega)
      have f3 := FR_tr c2 (FR_tr d2 e2)
      have pf3 : PF cd cf rw3 dg3 (S.take p ++ x :: (S.drop p ++ rest)) := fun j z hj => by
        rw [ins_get hS (by omega)] at hj
        unfold pz at hj
        by_cases q1 : j = p
        · rw [if_neg (by omega), if_pos q1, List.getElem?_append_right (by omega), hS, Nat.sub_self] at hj
          have : x = z := by simpa using hj
          rw [← this, q1]
          exact e3
        · by_cases q2 : j = p + 1
          · rw [if_neg (by omega), if_neg q1, if_pos (by omega), q2, Nat.add_sub_cancel, List.getElem?_append_left (by omega), hy] at hj
            rw [← Option.some.inj hj, q2]
            exact RX_fr e2 (by simp) d3
          · have hlt : j < 5 := by
              have h0 := (List.getElem?_eq_some_iff.mp hj).1
              by_cases z : j < i + 1
              · omega
              · rw [if_neg (by omega), if_neg q1, if_neg (by omega)] at h0
                omega
            refine RX_fr f3 (by simp; omega) (h1 j z ?_)
            rw [ins_get hS hp]
            unfold pz
            by_cases q3 : j < p
            · rw [if_pos q3] at hj
              rw [if_pos (by omega)]
              exact hj
            · rw [if_neg q3, if_neg q1] at hj
              rw [if_neg (by omega), if_neg q2]
              exact hj
      obtain ⟨p', rw4, dg4, t1, t2, t3, t4, t5, t6⟩ := ih n rw3 dg3 (by omega) pf3 (fun j z hj hz => by
        by_cases e : j = p
        · rw [e, hy] at hz
          rw [← Option.some.inj hz]
          exact Classical.byContradiction (fun q => c (b2.mpr q))
        · exact h2 j z (by omega) hz) (by omega)
      refine ⟨p', rw4, dg4, ?_, t2, t3, t4, t5, FR_mo (FR_tr f3 t6) (fun r hr => ?_)⟩
      · rw [c1, Option.bind_some]
        show (f_X5_copy fu rw1 dg1 (20 + nI (p + 1) - 1) (20 + nI (p + 1))).bind _ = _
        rw [d1, Option.bind_some]
        show (f_X5_copy fu rw2 dg2 2 (20 + nI (p + 1) - 1)).bind _ = _
        rw [e1, Option.bind_some, pk_m1]
        exact t1
      · rcases List.mem_append.mp hr with h | h
        · exact LS_of (by simp at h; omega)
        · exact h
theorem P_rord_o {K R : Type} [Lean.Grind.CommRing K] [Lean.Grind.CommRing R] {cd : K → Int32} {E : Nat → Int32} {kk : Int32} {md : Nat → Int32} (hC : CX cd E kk md) {cf : R → Nat → K} {deg : R → Nat} {mon : R → Prop} {X : R} {Cc : K → R} {Kl : List R} {q : Nat} (hR : PR cf deg mon X Cc Kl q) {ps : List R} (hnd : ps.Nodup) (hp5 : ps.length ≤ 5) (hs6 : ∀ p ∈ ps, sq (cf p) ≤ 6) (kc : Int32 → (Nat → Int32) → (Nat → Int32) → Option ((Nat → Int32) × (Nat → Int32))) (fu : Nat) (hfu : 18 ≤ fu) : ∀ (e i n : Nat) (rw dg : (Nat → Int32)) (S rest : List R), e + i = 5 → S.length = i ∨ (S.length ≤ i ∧ rest = []) → PF cd cf rw dg (S ++ rest) → (S ++ rest).Perm ps → S.Pairwise (BF cd cf) → e < n → ∃ y rw' dg' ps', f_X5_order_l2 kc fu (nI ps.length) n (nI i) rw dg = kc y rw' dg' ∧ PF cd cf rw' dg' ps' ∧ ps'.Perm ps ∧ ps'.Pairwise (BF cd cf) ∧ FR LS0 rw dg rw' dg' := by
  have out : ∀ (i n : Nat) (rw dg : (Nat → Int32)) (S rest : List R), i ≤ 5 → S.length ≤ i ∧ rest = [] → PF cd cf rw dg (S ++ rest) → (S ++ rest).Perm ps → S.Pairwise (BF cd cf) → 0 < n → ∃ y rw' dg' ps', f_X5_order_l2 kc fu (nI ps.length) n (nI i) rw dg = kc y rw' dg' ∧ PF cd cf rw' dg' ps' ∧ ps'.Perm ps ∧ ps'.Pairwise (BF cd cf) ∧ FR LS0 rw dg rw' dg' := by
    intro i n rw dg S rest hi5 hi hPF hp hS hn
    obtain ⟨n, rfl⟩ : ∃ n', n = n' + 1 := ⟨n - 1, by omega⟩
    have hl := hp.length_eq
    rw [hi.2, List.append_nil] at hl hp hPF
    exact ⟨nI i, rw, dg, S, by rw [f_X5_order_l2, if_pos (nI_le (by omega) (by omega))], hPF, hp, hS, FR_rf _ _ _⟩
  intro e
  induction e with
  | zero =>
    intro i n rw dg S rest hi5 hi hPF hp hS hn
    have hl := hp.length_eq
    rw [List.length_append] at hl
    have r0 : rest = [] := by
      rcases hi with h | h
      · exact List.length_eq_zero_iff.mp (by omega)
      · exact h.2
    exact out i n rw dg S rest (by omega) ⟨by rcases hi with h | h <;> omega, r0⟩ hPF hp hS hn
  | succ e ih =>
    intro i n rw dg S rest hi5 hi hPF hp hS hn
    match rest, hi, hPF, hp with
    | [], hi, hPF, hp => exact out i n rw dg S [] (by omega) ⟨by rcases hi with h | h <;> omega, rfl⟩ hPF hp hS (by omega)
    | x :: rest, hi, hPF, hp =>
      obtain ⟨n, rfl⟩ : ∃ n', n = n' + 1 := ⟨n - 1, by omega⟩
      have hSi : S.length = i := by
        rcases hi with h | h
        · exact h
        · exact absurd h.2 (by simp)
      have hl := hp.length_eq
      have hl' := hl
      rw [List.length_append, List.length_cons] at hl
      have nd := hp.symm.nodup hnd
      rw [List.nodup_append] at nd
      rw [f_X5_order_l2, if_neg (nI_ge (by omega) (by omega))]
      obtain ⟨p, rw1, dg1, c1, c2, c3, c4, c5, c6⟩ := P_rord_i hC hR (S := S) (rest := rest) (x := x) hSi (by omega) (fun p h => hs6 p (hp.mem_iff.mp h)) (fun y12 rw13 dg14 => f_X5_order_l2 kc fu (nI ps.length) n (nI i + 1) rw13 dg14) fu hfu (nI ps.length) (nI i) i fu rw dg (Nat.le_refl _) (by
        rw [List.take_of_length_le (by omega), List.drop_of_length_le (by omega)]
        exact hPF) (fun j y hj hy => by
        have := (List.getElem?_eq_some_iff.mp hy).1
        omega) (by omega)
      rw [c1, nI_1]
      have hnx : ¬ x ∈ S := fun q => nd.2.2 x q x List.mem_cons_self rfl
      have hs2 := ins_sort hC hR hS hnx c4 c5 (by omega)
      obtain ⟨y, rw2, dg2, ps', t1, t2, t3, t4, t5⟩ := ih (i + 1) n rw1 dg1 (S.take p ++ x :: S.drop p) rest (by omega) (Or.inl (by rw [List.length_append, List.length_cons, List.length_take, List.length_drop]; omega)) (by rw [List.append_assoc, List.cons_append]; exact c3) (by rw [List.append_assoc, List.cons_append]; exact (ins_perm S rest x p).trans hp) hs2 (by omega)
      exact ⟨y, rw2, dg2, ps', t1, t2, t3, t4, FR_mo (FR_tr c6 t5) (fun r hr => (List.mem_append.mp hr).elim id id)⟩
theorem P_rord {K R : Type} [Lean.Grind.CommRing K] [Lean.Grind.CommRing R] {cd : K → Int32} {E : Nat → Int32} {kk : Int32} {md : Nat → Int32} (hC : CX cd E kk md) {cf : R → Nat → K} {deg : R → Nat} {mon : R → Prop} {X : R} {Cc : K → R} {Kl : List R} {q : Nat} (hR : PR cf deg mon X Cc Kl q) {rw dg : (Nat → Int32)} {ps : List R} (hPF : PF cd cf rw dg ps) (hnd : ps.Nodup) (hp5 : ps.length ≤ 5) (hs6 : ∀ p ∈ ps, sq (cf p) ≤ 6) {fu : Nat} (hfu : 18 ≤ fu) : ∃ rw' dg' ps', f_X5_order fu rw dg (nI ps.length) = some (rw', dg') ∧ PF cd cf rw' dg' ps' ∧ ps'.Perm ps ∧ ps'.Pairwise (BF cd cf) ∧ FR LS0 rw dg rw' dg' := by
  unfold f_X5_order
  obtain ⟨y, rw1, dg1, ps', h1, h2, h3, h4, h5⟩ := P_rord_o hC hR hnd hp5 hs6 (fun y15 rw16 dg17 => some (rw16, dg17)) fu hfu 4 1 fu rw dg (ps.take 1) (ps.drop 1) (by omega) (by
    match ps with
    | [] => exact Or.inr ⟨by simp, rfl⟩
    | x :: l => exact Or.inl (by simp)) (by rw [List.take_append_drop]; exact hPF) (by rw [List.take_append_drop]) (by
    match ps with
    | [] => exact List.Pairwise.nil
    | x :: l => exact List.pairwise_singleton _ _) (by omega)
  exact ⟨rw1, dg1, ps', h1, h2, h3, h4, h5⟩
