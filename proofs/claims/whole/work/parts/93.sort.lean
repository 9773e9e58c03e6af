/-! The order of factors; the class sorts its parts by it. -/
def BF {K R : Type} [Lean.Grind.CommRing K] (cd : K → Int32) (cf : R → Nat → K) (a b : R) : Prop := sq (cf a) < sq (cf b) ∨ (sq (cf a) = sq (cf b) ∧ ∃ i, cd (cf a i) < cd (cf b i) ∧ ∀ j, i < j → cf a j = cf b j)
theorem bf_irr {K R : Type} [Lean.Grind.CommRing K] {cd : K → Int32} {cf : R → Nat → K} (a : R) : ¬ BF cd cf a a := by
  rintro (h | ⟨_, i, h, _⟩)
  · omega
  · exact Int32.lt_irrefl h
theorem bf_tr {K R : Type} [Lean.Grind.CommRing K] {cd : K → Int32} {cf : R → Nat → K} {a b c : R} (h : BF cd cf a b) (k : BF cd cf b c) : BF cd cf a c := by
  rcases h with h | ⟨h1, i, h2, h3⟩
  · rcases k with k | ⟨k1, _⟩
    · exact Or.inl (by omega)
    · exact Or.inl (by omega)
  · rcases k with k | ⟨k1, j, k2, k3⟩
    · exact Or.inl (by omega)
    · refine Or.inr ⟨by omega, ?_⟩
      rcases Nat.lt_trichotomy i j with q | q | q
      · exact ⟨j, by rw [h3 j q]; exact k2, fun t ht => by rw [h3 t (by omega), k3 t ht]⟩
      · subst q
        exact ⟨i, Int32.lt_trans h2 k2, fun t ht => by rw [h3 t ht, k3 t ht]⟩
      · exact ⟨i, by rw [← k3 i q]; exact h2, fun t ht => by rw [h3 t ht, k3 t (by omega)]⟩
theorem top_diff {K : Type} {f g : Nat → K} : ∀ n, (∀ j, n ≤ j → f j = g j) → (∀ j, f j = g j) ∨ ∃ i, ¬ f i = g i ∧ ∀ j, i < j → f j = g j := by
  intro n
  induction n with
  | zero => intro h; exact Or.inl (fun j => h j (Nat.zero_le _))
  | succ n ih =>
    intro h
    by_cases c : f n = g n
    · exact ih (fun j hj => by
        by_cases e : j = n
        · rw [e]; exact c
        · exact h j (by omega))
    · exact Or.inr ⟨n, c, fun j hj => h j (by omega)⟩
theorem bf_tot {K R : Type} [Lean.Grind.CommRing K] [Lean.Grind.CommRing R] {cd : K → Int32} {E : Nat → Int32} {kk : Int32} {md : Nat → Int32} (hC : CX cd E kk md) {cf : R → Nat → K} {deg : R → Nat} {mon : R → Prop} {X : R} {Cc : K → R} {Kl : List R} {q : Nat} (hR : PR cf deg mon X Cc Kl q) {a b : R} (h : ¬ a = b) : BF cd cf a b ∨ BF cd cf b a := by
  rcases Nat.lt_trichotomy (sq (cf a)) (sq (cf b)) with q | q | q
  · exact Or.inl (Or.inl q)
  · have ha := pr_dl hR a
    have hb := pr_dl hR b
    rcases top_diff (f := cf a) (g := cf b) (sq (cf a)) (fun j hj => by rw [ha j hj, hb j (by omega)]) with e | ⟨i, e1, e2⟩
    · exact absurd (pr_ext hR e) h
    · have ne : ¬ cd (cf a i) = cd (cf b i) := fun e => e1 (hC.1 _ _ e)
      by_cases c : cd (cf a i) < cd (cf b i)
      · exact Or.inl (Or.inr ⟨q, i, c, e2⟩)
      · exact Or.inr (Or.inr ⟨q.symm, i, Int32.lt_of_le_of_ne (Int32.not_lt.mp c) (fun e => ne e.symm), fun j hj => (e2 j hj).symm⟩)
  · exact Or.inr (Or.inl q)
theorem dI_ll : ∀ m, m < 17 → ∀ n, n < 17 → ((dI m ≤ dI n ↔ m ≤ n) ∧ (dI m = dI n ↔ m = n)) := by decide +kernel
theorem P_bef_l {K R : Type} [Lean.Grind.CommRing K] [Lean.Grind.CommRing R] {cd : K → Int32} {E : Nat → Int32} {kk : Int32} {md : Nat → Int32} (hC : CX cd E kk md) {cf : R → Nat → K} {deg : R → Nat} {mon : R → Prop} {X : R} {Cc : K → R} {Kl : List R} {q : Nat} (hR : PR cf deg mon X Cc Kl q) {M : (Fin 20 → Nat → Int32)} {x y : Fin 20} {a b : R} (ha : RW cd (M x) (cf a)) (hb : RW cd (M y) (cf b)) (fu : Nat) (x2 x3 : Int32) : ∀ (s n : Nat), s ≤ 16 → (∀ j, s ≤ j → cf a j = cf b j) → s < n → ∃ v, f_X2_isBefore_l29 (fun y17 => some 0) fu M x y x2 x3 n (dI s) = some v ∧ (v = 0 ↔ ¬ ∃ i, cd (cf a i) < cd (cf b i) ∧ ∀ j, i < j → cf a j = cf b j) := by
  intro s
  induction s with
  | zero =>
    intro n hs h hn
    obtain ⟨n, rfl⟩ : ∃ n', n = n' + 1 := ⟨n - 1, by omega⟩
    refine ⟨0, by rw [f_X2_isBefore_l29, if_pos dI_neg], fun _ => ?_, fun _ => rfl⟩
    rintro ⟨i, h1, _⟩
    rw [h i (by omega)] at h1
    exact Int32.lt_irrefl h1
  | succ s ih =>
    intro n hs h hn
    obtain ⟨n, rfl⟩ : ∃ n', n = n' + 1 := ⟨n - 1, by omega⟩
    rw [f_X2_isBefore_l29, dI_s, if_neg (nI_pos (by omega)), P_get hC ha (by omega), Option.bind_some, P_get hC hb (by omega), Option.bind_some]
    by_cases c : cf a s = cf b s
    · rw [if_pos (by rw [c]), dI_m]
      exact ih n (by omega) (fun j hj => by
        by_cases e : j = s
        · rw [e]; exact c
        · exact h j (by omega)) (by omega)
    · rw [if_neg (fun e => c (hC.1 _ _ e)), Option.bind_some, Option.bind_some]
      by_cases c2 : cd (cf b s) ≤ cd (cf a s)
      · rw [if_pos c2]
        refine ⟨0, rfl, fun _ => ?_, fun _ => rfl⟩
        rintro ⟨i, h1, h2⟩
        by_cases e : i < s
        · exact c (h2 s e)
        · by_cases e2 : i = s
          · rw [e2] at h1
            exact Int32.not_lt.mpr c2 h1
          · rw [h i (by omega)] at h1
            exact Int32.lt_irrefl h1
      · rw [if_neg c2]
        exact ⟨1, rfl, fun q => absurd q (by decide), fun q => absurd ⟨s, Int32.not_le.mp c2, fun j hj => h j (by omega)⟩ q⟩
theorem P_bef {K R : Type} [Lean.Grind.CommRing K] [Lean.Grind.CommRing R] {cd : K → Int32} {E : Nat → Int32} {kk : Int32} {md : Nat → Int32} (hC : CX cd E kk md) {cf : R → Nat → K} {deg : R → Nat} {mon : R → Prop} {X : R} {Cc : K → R} {Kl : List R} {q : Nat} (hR : PR cf deg mon X Cc Kl q) {M : (Fin 20 → Nat → Int32)} {x y : Fin 20} {a b : R} (ha : RW cd (M x) (cf a)) (hb : RW cd (M y) (cf b)) {fu : Nat} (hfu : 18 ≤ fu) : ∃ v, f_X2_isBefore fu M x y = some v ∧ (v = 0 ↔ ¬ BF cd cf a b) := by
  have sa := sq_le ha.1
  have sb := sq_le hb.1
  have dd := dI_ll (sq (cf a)) (by omega) (sq (cf b)) (by omega)
  have dd' := dI_ll (sq (cf b)) (by omega) (sq (cf a)) (by omega)
  unfold f_X2_isBefore
  rw [P_deg hC ha (by omega), Option.bind_some, P_deg hC hb (by omega), Option.bind_some]
  by_cases c : sq (cf a) = sq (cf b)
  · rw [if_pos (dd.2.mpr c)]
    obtain ⟨v, h1, h2⟩ := P_bef_l hC hR ha hb fu (dI (sq (cf a))) (dI (sq (cf b))) (sq (cf a)) fu sa (fun j hj => by rw [pr_dl hR a j hj, pr_dl hR b j (by omega)]) (by omega)
    refine ⟨v, h1, h2.trans ⟨fun q r => ?_, fun q r => q (Or.inr ⟨c, r⟩)⟩⟩
    rcases r with r | r
    · omega
    · exact q r.2
  · rw [if_neg (fun e => c (dd.2.mp e))]
    by_cases c2 : sq (cf b) ≤ sq (cf a)
    · rw [if_pos (dd'.1.mpr c2)]
      refine ⟨0, rfl, fun _ r => ?_, fun _ => rfl⟩
      rcases r with r | r
      · omega
      · exact c r.1
    · rw [if_neg (fun e => c2 (dd'.1.mp e))]
      exact ⟨1, rfl, fun q => absurd q (by decide), fun q => absurd (Or.inl (by omega)) q⟩
/-- x, which stood at i, is put at p -/
def pz (p i j : Nat) : Nat := if j < p then j else if j = p then i else if j ≤ i then j - 1 else j
theorem pz_inj {p i j j' : Nat} (hp : p ≤ i) (h : pz p i j = pz p i j') : j = j' := by
  unfold pz at h
  repeat' split at h
  all_goals omega
theorem pz_lt {p i j m : Nat} (hi : i < m) (hj : j < m) : pz p i j < m := by
  unfold pz
  repeat' split
  all_goals omega
theorem ins_get {α : Type} {S rest : List α} {x : α} {p i : Nat} (hS : S.length = i) (hp : p ≤ i) (j : Nat) : (S.take p ++ x :: (S.drop p ++ rest))[j]? = (S ++ x :: rest)[pz p i j]? := by
  have ht : (S.take p).length = p := by rw [List.length_take]; omega
  unfold pz
  by_cases c : j < p
  · rw [if_pos c, List.getElem?_append_left (by omega), List.getElem?_append_left (by omega), List.getElem?_take_of_lt c]
  · rw [if_neg c, List.getElem?_append_right (by omega), ht]
    by_cases c2 : j = p
    · rw [if_pos c2, c2, Nat.sub_self, List.getElem?_append_right (by omega), hS, Nat.sub_self]
      rfl
    · rw [if_neg c2]
      obtain ⟨m, hm⟩ : ∃ m, j - p = m + 1 := ⟨j - p - 1, by omega⟩
      rw [hm, List.getElem?_cons_succ]
      by_cases c3 : j ≤ i
      · rw [if_pos c3, List.getElem?_append_left (by rw [List.length_drop]; omega), List.getElem?_drop, List.getElem?_append_left (by omega), show p + m = j - 1 by omega]
      · rw [if_neg c3, List.getElem?_append_right (by rw [List.length_drop]; omega), List.getElem?_append_right (by omega), List.length_drop, hS]
        obtain ⟨m2, hm2⟩ : ∃ m2, j - i = m2 + 1 := ⟨j - i - 1, by omega⟩
        rw [hm2, List.getElem?_cons_succ, show m - (i - p) = m2 by omega]
theorem ins_perm {α : Type} (S rest : List α) (x : α) (p : Nat) : (S.take p ++ x :: (S.drop p ++ rest)).Perm (S ++ x :: rest) := by
  refine List.perm_middle.trans ?_
  rw [← List.append_assoc, List.take_append_drop]
  exact List.perm_middle.symm
/-- put behind those before it, ahead of those behind it: in order again -/
theorem ins_sort {K R : Type} [Lean.Grind.CommRing K] [Lean.Grind.CommRing R] {cd : K → Int32} {E : Nat → Int32} {kk : Int32} {md : Nat → Int32} (hC : CX cd E kk md) {cf : R → Nat → K} {deg : R → Nat} {mon : R → Prop} {X : R} {Cc : K → R} {Kl : List R} {q : Nat} (hR : PR cf deg mon X Cc Kl q) {S : List R} {x : R} {p : Nat} (hS : S.Pairwise (BF cd cf)) (hx : ¬ x ∈ S) (h1 : ∀ j y, p ≤ j → S[j]? = some y → BF cd cf x y) (h2 : p = 0 ∨ ∃ y, S[p - 1]? = some y ∧ ¬ BF cd cf x y) (hp : p ≤ S.length) : (S.take p ++ x :: S.drop p).Pairwise (BF cd cf) := by
  have hS2 := hS
  rw [← List.take_append_drop p S, List.pairwise_append] at hS2
  have lo : ∀ y ∈ S.take p, BF cd cf y x := by
    rcases h2 with h | ⟨y, hy, hn⟩
    · intro z hz
      rw [h, List.take_zero] at hz
      cases hz
    · have hyS : y ∈ S := List.mem_of_getElem? hy
      have hyx : BF cd cf y x := (bf_tot hC hR (a := x) (b := y) (fun e => hx (by rw [e]; exact hyS))).resolve_left hn
      intro z hz
      obtain ⟨j, hj⟩ := List.mem_iff_getElem?.mp hz
      have hjp : j < p := by
        have := (List.getElem?_eq_some_iff.mp hj).1
        rw [List.length_take] at this
        omega
      rw [List.getElem?_take_of_lt hjp] at hj
      by_cases e : j = p - 1
      · rw [e, hy] at hj
        rw [← Option.some.inj hj]
        exact hyx
      · obtain ⟨a1, a2⟩ := List.getElem?_eq_some_iff.mp hj
        obtain ⟨b1, b2⟩ := List.getElem?_eq_some_iff.mp hy
        have := List.pairwise_iff_getElem.mp hS j (p - 1) a1 b1 (by omega)
        rw [a2, b2] at this
        exact bf_tr this hyx
  have hi : ∀ y ∈ S.drop p, BF cd cf x y := by
    intro z hz
    obtain ⟨j, hj⟩ := List.mem_iff_getElem?.mp hz
    rw [List.getElem?_drop] at hj
    exact h1 (p + j) z (by omega) hj
  rw [List.pairwise_append]
  refine ⟨hS2.1, List.pairwise_cons.mpr ⟨hi, hS2.2.1⟩, fun a ha b hb => ?_⟩
  rcases List.mem_cons.mp hb with e | e
  · rw [e]; exact lo a ha
  · exact hS2.2.2 a ha b e
theorem sort_uni {K R : Type} [Lean.Grind.CommRing K] {cd : K → Int32} {cf : R → Nat → K} {l m : List R} (h : l.Perm m) (hl : l.Pairwise (BF cd cf)) (hm : m.Pairwise (BF cd cf)) : l = m :=
  List.Perm.eq_of_pairwise (le := BF cd cf) (fun a b _ _ h1 h2 => absurd (bf_tr h1 h2) (bf_irr a)) hl hm h
theorem P_sort_i {K R : Type} [Lean.Grind.CommRing K] [Lean.Grind.CommRing R] {cd : K → Int32} {E : Nat → Int32} {kk : Int32} {md : Nat → Int32} (hC : CX cd E kk md) {cf : R → Nat → K} {deg : R → Nat} {mon : R → Prop} {X : R} {Cc : K → R} {Kl : List R} {q : Nat} (hR : PR cf deg mon X Cc Kl q) {M : (Fin 20 → Nat → Int32)} {P0 : Nat → Fin 20} {S rest : List R} {x : R} {i : Nat} (hS : S.length = i) (hi : i < 5) (hPL : PL cd cf M P0 (S ++ x :: rest)) (kc : Int32 → (Nat → Fin 20) → Option (Nat → Fin 20)) (fu : Nat) (hfu : 18 ≤ fu) (N : (Nat → Int32)) (x1 : Int32) : ∀ (p n : Nat) (P : Nat → Fin 20), p ≤ i → (∀ j, j < p → P j = P0 j) → (∀ j, p < j → j ≤ i → P j = P0 (j - 1)) → (∀ j, i < j → P j = P0 j) → (∀ j y, p ≤ j → S[j]? = some y → BF cd cf x y) → p < n → ∃ p' P', f_X3_sort_l28 kc fu M N x1 (P0 i) n (nI p) P = kc (nI p') P' ∧ p' ≤ i ∧ (va_up P' p' (P0 i) = fun j => P0 (pz p' i j)) ∧ (∀ j y, p' ≤ j → S[j]? = some y → BF cd cf x y) ∧ (p' = 0 ∨ ∃ y, S[p' - 1]? = some y ∧ ¬ BF cd cf x y) := by
  have hx : RW cd (M (P0 i)) (cf x) := hPL.2 i x (by rw [List.getElem?_append_right (by omega), hS, Nat.sub_self]; rfl)
  have eqP : ∀ (p : Nat) (P : Nat → Fin 20), p ≤ i → (∀ j, j < p → P j = P0 j) → (∀ j, p < j → j ≤ i → P j = P0 (j - 1)) → (∀ j, i < j → P j = P0 j) → va_up P p (P0 i) = fun j => P0 (pz p i j) := by
    intro p P hp h1 h2 h3
    funext j
    unfold pz
    by_cases c2 : j = p
    · rw [c2, va_up_self, if_neg (by omega), if_pos rfl]
    · rw [va_up_ne _ _ c2]
      by_cases c : j < p
      · rw [if_pos c]; exact h1 j c
      · rw [if_neg c, if_neg c2]
        by_cases c3 : j ≤ i
        · rw [if_pos c3]; exact h2 j (by omega) c3
        · rw [if_neg c3]; exact h3 j (by omega)
  intro p
  induction p with
  | zero =>
    intro n P hp h1 h2 h3 h4 hn
    obtain ⟨n, rfl⟩ : ∃ n', n = n' + 1 := ⟨n - 1, by omega⟩
    exact ⟨0, P, by rw [f_X3_sort_l28, if_pos (by decide)], by omega, eqP 0 P hp h1 h2 h3, h4, Or.inl rfl⟩
  | succ p ih =>
    intro n P hp h1 h2 h3 h4 hn
    obtain ⟨n, rfl⟩ : ∃ n', n = n' + 1 := ⟨n - 1, by omega⟩
    obtain ⟨y, hy⟩ : ∃ y, S[p]? = some y := ⟨S[p]'(by omega), List.getElem?_eq_getElem (by omega)⟩
    have hyR : RW cd (M (P0 p)) (cf y) := hPL.2 p y (by rw [List.getElem?_append_left (by omega)]; exact hy)
    obtain ⟨v, b1, b2⟩ := P_bef hC hR hx hyR hfu
    have im : nI (p + 1) - 1 = nI p := nI_pred p
    rw [f_X3_sort_l28, if_neg (nI_nle (by omega) (by omega)), im, if_neg (show ¬ (nI p < 0 ∨ 5 ≤ (nI p).toNatClampNeg) from nI_in (by omega) (by decide)), nI_clamp (by omega), h1 p (by omega), b1, Option.bind_some]
    by_cases c : v = 0
    · rw [if_pos c]
      exact ⟨p + 1, P, rfl, hp, eqP (p + 1) P hp h1 h2 h3, h4, Or.inr ⟨y, by rw [show p + 1 - 1 = p by omega]; exact hy, b2.mp c⟩⟩
    · rw [if_neg c, if_neg (show ¬ (nI p < 0 ∨ 5 ≤ p) from fun q => q.elim (nI_pos (by omega)) (by omega)), if_neg (show ¬ (nI (p + 1) < 0 ∨ 5 ≤ (nI (p + 1)).toNatClampNeg) from nI_in (by omega) (by decide)), nI_clamp (by omega), pk_m1]
      refine ih n (va_up P (p + 1) (P0 p)) (by omega) (fun j hj => ?_) (fun j hj hj2 => ?_) (fun j hj => ?_) (fun j z hj hz => ?_) (by omega)
      · rw [va_up_ne _ _ (by omega)]; exact h1 j (by omega)
      · by_cases e : j = p + 1
        · rw [e, va_up_self]; rfl
        · rw [va_up_ne _ _ e]; exact h2 j (by omega) hj2
      · rw [va_up_ne _ _ (by omega)]; exact h3 j hj
      · by_cases e : j = p
        · rw [e, hy] at hz
          rw [← Option.some.inj hz]
          exact Classical.byContradiction (fun q => c (b2.mpr q))
        · exact h4 j z (by omega) hz
theorem P_sort_o {K R : Type} [Lean.Grind.CommRing K] [Lean.Grind.CommRing R] {cd : K → Int32} {E : Nat → Int32} {kk : Int32} {md : Nat → Int32} (hC : CX cd E kk md) {cf : R → Nat → K} {deg : R → Nat} {mon : R → Prop} {X : R} {Cc : K → R} {Kl : List R} {q : Nat} (hR : PR cf deg mon X Cc Kl q) {M : (Fin 20 → Nat → Int32)} {N : (Nat → Int32)} {ps : List R} (hnd : ps.Nodup) (hN : N 0 = nI ps.length) (kc : Int32 → (Nat → Fin 20) → Option (Nat → Fin 20)) (fu : Nat) (hfu : 18 ≤ fu) : ∀ (e i n : Nat) (P : Nat → Fin 20) (S rest : List R), e + i = 5 → S.length = i ∨ (S.length ≤ i ∧ rest = []) → PI P → PL cd cf M P (S ++ rest) → (S ++ rest).Perm ps → S.Pairwise (BF cd cf) → e < n → ∃ y P' ps', f_X3_sort_l2 kc fu M N n (nI i) P = kc y P' ∧ PI P' ∧ PL cd cf M P' ps' ∧ ps'.Perm ps ∧ ps'.Pairwise (BF cd cf) := by
  have out : ∀ (i n : Nat) (P : Nat → Fin 20) (S rest : List R), i ≤ 5 → S.length ≤ i ∧ rest = [] → PI P → PL cd cf M P (S ++ rest) → (S ++ rest).Perm ps → S.Pairwise (BF cd cf) → 0 < n → ∃ y P' ps', f_X3_sort_l2 kc fu M N n (nI i) P = kc y P' ∧ PI P' ∧ PL cd cf M P' ps' ∧ ps'.Perm ps ∧ ps'.Pairwise (BF cd cf) := by
    intro i n P S rest hi5 hi hP hPL hp hS hn
    obtain ⟨n, rfl⟩ : ∃ n', n = n' + 1 := ⟨n - 1, by omega⟩
    have hl := hp.length_eq
    rw [hi.2, List.append_nil] at hl hp hPL
    exact ⟨nI i, P, S, by rw [f_X3_sort_l2, hN, if_pos (nI_le (by omega) (by omega))], hP, hPL, hp, hS⟩
  intro e
  induction e with
  | zero =>
    intro i n P S rest hi5 hi hP hPL hp hS hn
    have h5 := hPL.1
    rw [List.length_append] at h5
    have r0 : rest = [] := by
      rcases hi with h | h
      · exact List.length_eq_zero_iff.mp (by omega)
      · exact h.2
    exact out i n P S rest (by omega) ⟨by rcases hi with h | h <;> omega, r0⟩ hP hPL hp hS hn
  | succ e ih =>
    intro i n P S rest hi5 hi hP hPL hp hS hn
    match rest, hi, hPL, hp with
    | [], hi, hPL, hp => exact out i n P S [] (by omega) ⟨by rcases hi with h | h <;> omega, rfl⟩ hP hPL hp hS (by omega)
    | x :: rest, hi, hPL, hp =>
      obtain ⟨n, rfl⟩ : ∃ n', n = n' + 1 := ⟨n - 1, by omega⟩
      have hSi : S.length = i := by
        rcases hi with h | h
        · exact h
        · exact absurd h.2 (by simp)
      have hl := hp.length_eq
      rw [List.length_append, List.length_cons] at hl
      have nd := hp.symm.nodup hnd
      rw [List.nodup_append] at nd
      have h5 := hPL.1
      rw [List.length_append, List.length_cons] at h5
      rw [f_X3_sort_l2, hN, if_neg (nI_ge (by omega) (by omega)), if_neg (show ¬ (5 : Int32) ≤ nI i from nI_ge (b := 5) (by omega) (by decide)), if_neg (show ¬ (nI i < 0 ∨ 5 ≤ (nI i).toNatClampNeg) from nI_in (by omega) (by decide)), nI_clamp (by omega)]
      obtain ⟨p, P', c1, c2, c3, c4, c5⟩ := P_sort_i hC hR hSi (by omega) hPL (fun y11 P12 => if y11 < 0 ∨ 5 ≤ (y11).toNatClampNeg then none else f_X3_sort_l2 kc fu M N n (nI i + 1) (va_up P12 (y11).toNatClampNeg (P i))) fu hfu N (nI i) i fu P (Nat.le_refl _) (fun _ _ => rfl) (fun j h1 h2 => by omega) (fun _ _ => rfl) (fun j y hj hy => by
        have := (List.getElem?_eq_some_iff.mp hy).1
        omega) (by omega)
      rw [c1, if_neg (show ¬ (nI p < 0 ∨ 5 ≤ (nI p).toNatClampNeg) from nI_in (by omega) (by decide)), nI_clamp (by omega), c3, nI_1]
      have hnx : ¬ x ∈ S := fun q => nd.2.2 x q x List.mem_cons_self rfl
      have hs2 := ins_sort hC hR hS hnx c4 c5 (by omega)
      refine ih (i + 1) n _ (S.take p ++ x :: S.drop p) rest (by omega) (Or.inl ?_) ⟨fun j hj => hP.1 _ (pz_lt (by omega) hj), fun j j' hj hj' e => pz_inj c2 (hP.2 _ _ (pz_lt (by omega) hj) (pz_lt (by omega) hj') e)⟩ ?_ ?_ hs2 (by omega)
      · rw [List.length_append, List.length_cons, List.length_take, List.length_drop]; omega
      · rw [List.append_assoc, List.cons_append]
        refine ⟨?_, fun j a hj => ?_⟩
        · rw [(ins_perm S rest x p).length_eq]; exact hPL.1
        · rw [ins_get hSi c2] at hj
          exact hPL.2 _ a hj
      · rw [List.append_assoc, List.cons_append]
        exact (ins_perm S rest x p).trans hp
theorem P_sort {K R : Type} [Lean.Grind.CommRing K] [Lean.Grind.CommRing R] {cd : K → Int32} {E : Nat → Int32} {kk : Int32} {md : Nat → Int32} (hC : CX cd E kk md) {cf : R → Nat → K} {deg : R → Nat} {mon : R → Prop} {X : R} {Cc : K → R} {Kl : List R} {q : Nat} (hR : PR cf deg mon X Cc Kl q) {M : (Fin 20 → Nat → Int32)} {N : (Nat → Int32)} {P : Nat → Fin 20} (hP : PI P) {ps : List R} (hPL : PL cd cf M P ps) (hnd : ps.Nodup) (hN : N 0 = nI ps.length) {fu : Nat} (hfu : 18 ≤ fu) : ∃ P' ps', f_X3_sort fu M P N = some P' ∧ PI P' ∧ PL cd cf M P' ps' ∧ ps'.Perm ps ∧ ps'.Pairwise (BF cd cf) := by
  unfold f_X3_sort
  obtain ⟨y, P', ps', h1, h2, h3, h4, h5⟩ := P_sort_o hC hR hnd hN (fun y14 P15 => some P15) fu hfu 4 1 fu P (ps.take 1) (ps.drop 1) (by omega) (by
    match ps with
    | [] => exact Or.inr ⟨by simp, rfl⟩
    | x :: l => exact Or.inl (by simp)) hP (by rw [List.take_append_drop]; exact hPL) (by rw [List.take_append_drop]) (by
    match ps with
    | [] => exact List.Pairwise.nil
    | x :: l => exact List.pairwise_singleton _ _) (by omega)
  exact ⟨P', ps', h1, h2, h3, h4, h5⟩
