/-! Rows of the class as polynomials: RW: what the row holds; sq: how long it is; dI: the degree, as the class writes it. -/
def RW {K : Type} [Lean.Grind.CommRing K] (cd : K → Int32) (m : Nat → Int32) (f : Nat → K) : Prop := dl f 16 ∧ ∀ i, i < 16 → m i = cd (f i)
def dI (n : Nat) : Int32 := nI n - 1
noncomputable def sq {K : Type} [Lean.Grind.CommRing K] (f : Nat → K) : Nat := (Classical.propDecidable (∃ e, ¬ f e = 0 ∧ dl f (e + 1))).casesOn (fun _ => 0) (fun h => h.choose + 1)
theorem sq_of {K : Type} [Lean.Grind.CommRing K] {f : Nat → K} {e : Nat} (h1 : ¬ f e = 0) (h2 : dl f (e + 1)) : sq f = e + 1 := by
  unfold sq
  cases Classical.propDecidable (∃ e, ¬ f e = 0 ∧ dl f (e + 1)) with
  | isFalse h => exact absurd ⟨e, h1, h2⟩ h
  | isTrue h =>
    show h.choose + 1 = e + 1
    obtain ⟨a, b⟩ := h.choose_spec
    by_cases c : h.choose < e
    · exact absurd (b e (by omega)) h1
    · by_cases d : e < h.choose
      · exact absurd (h2 _ (by omega)) a
      · omega
theorem sq_0 {K : Type} [Lean.Grind.CommRing K] {f : Nat → K} (h : ∀ i, f i = 0) : sq f = 0 := by
  unfold sq
  cases Classical.propDecidable (∃ e, ¬ f e = 0 ∧ dl f (e + 1)) with
  | isFalse _ => rfl
  | isTrue h2 => exact absurd (h _) h2.choose_spec.1
theorem sq_cases {K : Type} [Lean.Grind.CommRing K] {f : Nat → K} {n : Nat} (h : dl f n) : (sq f = 0 ∧ ∀ i, f i = 0) ∨ ∃ e, e < n ∧ sq f = e + 1 ∧ ¬ f e = 0 ∧ dl f (e + 1) := by
  rcases dl_top h with h1 | ⟨e, h1, h2, h3⟩
  · exact Or.inl ⟨sq_0 h1, h1⟩
  · exact Or.inr ⟨e, h1, sq_of h2 h3, h2, h3⟩
theorem sq_dl {K : Type} [Lean.Grind.CommRing K] {f : Nat → K} {n : Nat} (h : dl f n) : dl f (sq f) := by
  rcases sq_cases h with ⟨h1, h2⟩ | ⟨e, _, h2, _, h3⟩
  · exact fun i _ => h2 i
  · rw [h2]; exact h3
theorem sq_le {K : Type} [Lean.Grind.CommRing K] {f : Nat → K} {n : Nat} (h : dl f n) : sq f ≤ n := by
  rcases sq_cases h with ⟨h1, h2⟩ | ⟨e, h1, h2, _, h3⟩ <;> omega
theorem sq_ne {K : Type} [Lean.Grind.CommRing K] {f : Nat → K} {n e : Nat} (h : dl f n) (he : sq f = e + 1) : ¬ f e = 0 := by
  rcases sq_cases h with ⟨h1, h2⟩ | ⟨e', h1, h2, h4, h3⟩
  · omega
  · have : e' = e := by omega
    exact this ▸ h4
theorem i16_n {j : Nat} (h : j < 16) : ¬ (16 : Int32) ≤ nI j := nI_ge (a := j) (b := 16) h (by decide)
theorem i16_y {j : Nat} (h : 16 ≤ j) (h2 : j < 2 ^ 31) : (16 : Int32) ≤ nI j := nI_le (a := 16) (b := j) h h2
theorem dI_0 : dI 0 = -1 := rfl
theorem dI_s (n : Nat) : dI (n + 1) = nI n := nI_pred n
theorem dI_m (n : Nat) : nI n + (-1) = dI n := by unfold dI; rw [Int32.sub_eq_add_neg]
theorem dI_neg : dI 0 < 0 := by decide
theorem fup_s {β : Type} (f : Fin 20 → β) (i : Fin 20) (v : β) : fup f i v i = v := if_pos rfl
theorem fup_n {β : Type} (f : Fin 20 → β) {i j : Fin 20} (v : β) (h : ¬ j = i) : fup f i v j = f j := if_neg h
section
variable {K : Type}
theorem cd_0 [Lean.Grind.CommRing K] {cd : K → Int32} {E : Nat → Int32} {kk : Int32} {md : Nat → Int32} (hC : CX cd E kk md) (a : K) : cd a = 0 ↔ a = 0 := by
  constructor
  · intro h
    rw [← hC.2.1.1] at h
    exact hC.1 _ _ h
  · intro h
    rw [h, hC.2.1.1]
theorem cd_1 [Lean.Grind.CommRing K] {cd : K → Int32} {E : Nat → Int32} {kk : Int32} {md : Nat → Int32} (hC : CX cd E kk md) (a : K) : cd a = 1 ↔ a = 1 := by
  constructor
  · intro h
    rw [← hC.2.1.2] at h
    exact hC.1 _ _ h
  · intro h
    rw [h, hC.2.1.2]
theorem P_deg_l [Lean.Grind.CommRing K] {cd : K → Int32} {E : Nat → Int32} {kk : Int32} {md : Nat → Int32} (hC : CX cd E kk md) {M : Fin 20 → Nat → Int32} {r : Fin 20} {f : Nat → K} (h : RW cd (M r) f) (k : Int32 → Option Int32) (fu : Nat) : ∀ (j n : Nat), j ≤ 16 → dl f j → j < n → f_X2_degree_l8 k fu M r n (dI j) = k (dI (sq f)) := by
  intro j
  induction j with
  | zero =>
    intro n _ hd hn
    obtain ⟨n, rfl⟩ : ∃ n', n = n' + 1 := ⟨n - 1, by omega⟩
    rw [f_X2_degree_l8, if_pos dI_neg, sq_0 (fun i => hd i (by omega))]
  | succ j ih =>
    intro n hj hd hn
    obtain ⟨n, rfl⟩ : ∃ n', n = n' + 1 := ⟨n - 1, by omega⟩
    rw [f_X2_degree_l8, dI_s, if_neg (nI_pos (by omega)), if_neg (nI_in (by omega) (by decide)), nI_clamp (by omega), h.2 j (by omega)]
    by_cases c : f j = 0
    · rw [if_pos ((cd_0 hC _).mpr c), dI_m]
      refine ih n (by omega) (fun i hi => ?_) (by omega)
      by_cases e : i = j
      · rw [e]; exact c
      · exact hd i (by omega)
    · rw [if_neg (fun q => c ((cd_0 hC _).mp q)), sq_of c hd, dI_s]
theorem P_deg [Lean.Grind.CommRing K] {cd : K → Int32} {E : Nat → Int32} {kk : Int32} {md : Nat → Int32} (hC : CX cd E kk md) {M : Fin 20 → Nat → Int32} {r : Fin 20} {f : Nat → K} (h : RW cd (M r) f) {fu : Nat} (hfu : 17 ≤ fu) : f_X2_degree fu M r = some (dI (sq f)) := by
  unfold f_X2_degree
  exact P_deg_l hC h some fu 16 fu (by omega) h.1 (by omega)
theorem P_get [Lean.Grind.CommRing K] {cd : K → Int32} {E : Nat → Int32} {kk : Int32} {md : Nat → Int32} (hC : CX cd E kk md) {M : Fin 20 → Nat → Int32} {r : Fin 20} {f : Nat → K} (h : RW cd (M r) f) {i : Nat} (hi : i < 2 ^ 31) : f_X2_get M r (nI i) = some (cd (f i)) := by
  unfold f_X2_get
  rw [if_neg (nI_pos hi)]
  by_cases c : i < 16
  · rw [if_neg (i16_n c), if_neg (nI_in c (by decide)), nI_clamp hi, h.2 i c]
  · rw [if_pos (i16_y (by omega) hi), h.1 i (by omega), hC.2.1.1]
theorem P_getm [Lean.Grind.CommRing K] {cd : K → Int32} {E : Nat → Int32} {kk : Int32} {md : Nat → Int32} (hC : CX cd E kk md) (M : Fin 20 → Nat → Int32) (r : Fin 20) : f_X2_get M r (-1) = some (cd 0) := by
  rw [hC.2.1.1]; rfl
theorem P_set (M : Fin 20 → Nat → Int32) (r : Fin 20) {i : Nat} (hi : i < 16) (v : Int32) : f_X2_set M r (nI i) v = some (fup M r (upd (M r) i v)) := by
  unfold f_X2_set
  rw [if_neg (nI_pos (by omega)), if_neg (i16_n hi), if_neg (nI_in hi (by decide)), nI_clamp (by omega)]
theorem P_set_o (M : Fin 20 → Nat → Int32) (r : Fin 20) {i : Nat} (h : 16 ≤ i) (hi : i < 2 ^ 31) (v : Int32) : f_X2_set M r (nI i) v = some M := by
  unfold f_X2_set
  rw [if_neg (nI_pos (by omega)), if_pos (i16_y h hi)]
/-- one place of a row is written anew -/
theorem RW_upd [Lean.Grind.CommRing K] {cd : K → Int32} {m : Nat → Int32} {f g : Nat → K} (h : RW cd m f) {i : Nat} {a : K} (hi : i < 16) (h1 : g i = a) (h2 : ∀ j, j ≠ i → g j = f j) : RW cd (upd m i (cd a)) g := by
  refine ⟨fun j hj => ?_, fun j hj => ?_⟩
  · rw [h2 j (by omega), h.1 j hj]
  · by_cases e : j = i
    · rw [e, pk_us, h1]
    · rw [pk_un e, h2 j e, h.2 j hj]
theorem RW_c [Lean.Grind.CommRing K] {cd : K → Int32} {m : Nat → Int32} {f g : Nat → K} (h : RW cd m f) (e : ∀ i, f i = g i) : RW cd m g := (funext e : f = g) ▸ h
theorem P_clear_l [Lean.Grind.CommRing K] {cd : K → Int32} {E : Nat → Int32} {kk : Int32} {md : Nat → Int32} (hC : CX cd E kk md) (r : Fin 20) (k : Int32 → (Fin 20 → Nat → Int32) → Option (Fin 20 → Nat → Int32)) (fu : Nat) : ∀ (d j n : Nat) (M : Fin 20 → Nat → Int32), d + j = 16 → (∀ i, i < j → M r i = 0) → d < n → ∃ M', f_X2_clear_l2 k fu r n (nI j) M = k 16 M' ∧ (∀ q, ¬ q = r → M' q = M q) ∧ RW cd (M' r) (fun _ => 0) := by
  intro d
  induction d with
  | zero =>
    intro j n M hj hM hn
    obtain ⟨n, rfl⟩ : ∃ n', n = n' + 1 := ⟨n - 1, by omega⟩
    have e : j = 16 := by omega
    subst e
    refine ⟨M, ?_, fun _ _ => rfl, fun _ _ => rfl, fun i hi => ?_⟩
    · rw [f_X2_clear_l2, if_pos (show (16 : Int32) ≤ nI 16 by decide)]; rfl
    · rw [hM i hi, hC.2.1.1]
  | succ d ih =>
    intro j n M hj hM hn
    obtain ⟨n, rfl⟩ : ∃ n', n = n' + 1 := ⟨n - 1, by omega⟩
    rw [f_X2_clear_l2, if_neg (i16_n (by omega)), if_neg (nI_in (by omega) (by decide)), nI_clamp (by omega), nI_1]
    obtain ⟨M', h1, h2, h3⟩ := ih (j + 1) n (fup M r (upd (M r) j 0)) (by omega) (fun i hi => by
      rw [fup_s]
      by_cases e : i = j
      · rw [e, pk_us]
      · rw [pk_un e, hM i (by omega)]) (by omega)
    exact ⟨M', h1, fun q hq => by rw [h2 q hq, fup_n _ _ hq], h3⟩
theorem P_clear [Lean.Grind.CommRing K] {cd : K → Int32} {E : Nat → Int32} {kk : Int32} {md : Nat → Int32} (hC : CX cd E kk md) (M : Fin 20 → Nat → Int32) (r : Fin 20) {fu : Nat} (hfu : 17 ≤ fu) : ∃ M', f_X2_clear fu M r = some M' ∧ (∀ q, ¬ q = r → M' q = M q) ∧ RW cd (M' r) (fun _ => 0) := by
  unfold f_X2_clear
  exact P_clear_l hC r _ fu 16 0 fu M rfl (fun i hi => by omega) (by omega)
theorem P_copy_l [Lean.Grind.CommRing K] {cd : K → Int32} {E : Nat → Int32} {kk : Int32} {md : Nat → Int32} (hC : CX cd E kk md) {r b : Fin 20} (hb : ¬ b = r) {f : Nat → K} (k : Int32 → (Fin 20 → Nat → Int32) → Option (Fin 20 → Nat → Int32)) (fu : Nat) : ∀ (d j n : Nat) (M : Fin 20 → Nat → Int32), d + j = 16 → RW cd (M b) f → (∀ i, i < j → M r i = cd (f i)) → d < n → ∃ M', f_X2_copy_l2 k fu r b n (nI j) M = k 16 M' ∧ (∀ q, ¬ q = r → M' q = M q) ∧ RW cd (M' r) f := by
  intro d
  induction d with
  | zero =>
    intro j n M hj hf hM hn
    obtain ⟨n, rfl⟩ : ∃ n', n = n' + 1 := ⟨n - 1, by omega⟩
    have e : j = 16 := by omega
    subst e
    refine ⟨M, ?_, fun _ _ => rfl, hf.1, hM⟩
    rw [f_X2_copy_l2, if_pos (show (16 : Int32) ≤ nI 16 by decide)]; rfl
  | succ d ih =>
    intro j n M hj hf hM hn
    obtain ⟨n, rfl⟩ : ∃ n', n = n' + 1 := ⟨n - 1, by omega⟩
    rw [f_X2_copy_l2, if_neg (i16_n (by omega)), P_get hC hf (by omega), Option.bind_some, if_neg (nI_in (by omega) (by decide)), nI_clamp (by omega), nI_1]
    obtain ⟨M', h1, h2, h3⟩ := ih (j + 1) n (fup M r (upd (M r) j (cd (f j)))) (by omega) (by rw [fup_n _ _ hb]; exact hf) (fun i hi => by
      rw [fup_s]
      by_cases e : i = j
      · rw [e, pk_us]
      · rw [pk_un e, hM i (by omega)]) (by omega)
    exact ⟨M', h1, fun q hq => by rw [h2 q hq, fup_n _ _ hq], h3⟩
theorem P_copy [Lean.Grind.CommRing K] {cd : K → Int32} {E : Nat → Int32} {kk : Int32} {md : Nat → Int32} (hC : CX cd E kk md) {M : Fin 20 → Nat → Int32} {r b : Fin 20} (hb : ¬ b = r) {f : Nat → K} (hf : RW cd (M b) f) {fu : Nat} (hfu : 17 ≤ fu) : ∃ M', f_X2_copy fu M r b = some M' ∧ (∀ q, ¬ q = r → M' q = M q) ∧ RW cd (M' r) f := by
  unfold f_X2_copy
  exact P_copy_l hC hb _ fu 16 0 fu M rfl hf (fun i hi => by omega) (by omega)
theorem P_one [Lean.Grind.CommRing K] {cd : K → Int32} {E : Nat → Int32} {kk : Int32} {md : Nat → Int32} (hC : CX cd E kk md) (M : Fin 20 → Nat → Int32) (r : Fin 20) {fu : Nat} (hfu : 17 ≤ fu) : ∃ M', f_X2_becomeOne fu M r = some M' ∧ (∀ q, ¬ q = r → M' q = M q) ∧ RW cd (M' r) (pc 1) := by
  unfold f_X2_becomeOne
  obtain ⟨M1, h1, h2, h3⟩ := P_clear hC M r hfu
  rw [h1, Option.bind_some, show (0 : Int32) = nI 0 from rfl, P_set M1 r (by omega), Option.bind_some]
  refine ⟨_, rfl, fun q hq => by rw [fup_n _ _ hq, h2 q hq], ?_⟩
  rw [fup_s, ← hC.2.1.2]
  exact RW_upd h3 (by omega) rfl (fun j hj => if_neg hj)
end
