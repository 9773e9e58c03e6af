/-! Rows of the reference as polynomials: rv: row r; RX: it holds f, and its degree is written beside it; FR: no row but these has changed. -/
def rv (rw : Nat → Int32) (r : Nat) : Nat → Int32 := fun i => rw (16 * r + i)
def RX {K : Type} [Lean.Grind.CommRing K] (cd : K → Int32) (rw dg : Nat → Int32) (r : Nat) (f : Nat → K) : Prop := RW cd (rv rw r) f ∧ dg r = dI (sq f)
def FR (l : List Nat) (rw dg rw' dg' : Nat → Int32) : Prop := ∀ r, ¬ r ∈ l → (∀ i, i < 16 → rv rw' r i = rv rw r i) ∧ dg' r = dg r
theorem FR_rf (l : List Nat) (rw dg : Nat → Int32) : FR l rw dg rw dg := fun _ _ => ⟨fun _ _ => rfl, rfl⟩
theorem FR_tr {l1 l2 : List Nat} {rw dg rw1 dg1 rw2 dg2 : Nat → Int32} (h : FR l1 rw dg rw1 dg1) (k : FR l2 rw1 dg1 rw2 dg2) : FR (l1 ++ l2) rw dg rw2 dg2 := fun r hr => by
  rw [List.mem_append, not_or] at hr
  obtain ⟨h1, h2⟩ := h r hr.1
  obtain ⟨k1, k2⟩ := k r hr.2
  exact ⟨fun i hi => by rw [k1 i hi, h1 i hi], by rw [k2, h2]⟩
theorem FR_mo {l l' : List Nat} {rw dg rw1 dg1 : Nat → Int32} (h : FR l rw dg rw1 dg1) (hl : ∀ r, r ∈ l → r ∈ l') : FR l' rw dg rw1 dg1 := fun r hr => h r (fun q => hr (hl r q))
theorem RW_e {K : Type} [Lean.Grind.CommRing K] {cd : K → Int32} {m m' : Nat → Int32} {f : Nat → K} (h : RW cd m f) (e : ∀ i, i < 16 → m' i = m i) : RW cd m' f := ⟨h.1, fun i hi => by rw [e i hi, h.2 i hi]⟩
theorem RX_fr {K : Type} [Lean.Grind.CommRing K] {cd : K → Int32} {l : List Nat} {rw dg rw1 dg1 : Nat → Int32} (h : FR l rw dg rw1 dg1) {r : Nat} (hr : ¬ r ∈ l) {f : Nat → K} (k : RX cd rw dg r f) : RX cd rw1 dg1 r f := ⟨RW_e k.1 (h r hr).1, by rw [(h r hr).2]; exact k.2⟩
theorem ix {r i : Nat} : (16 : Int32) * nI r + nI i = nI (16 * r + i) := by rw [show (16 : Int32) = nI 16 from rfl, pk_mul, nI_add]
theorem ix0 {r : Nat} : (16 : Int32) * nI r = nI (16 * r) := by rw [show (16 : Int32) = nI 16 from rfl, pk_mul]
theorem in400 {n : Nat} (h : n < 400) : ¬ (nI n < 0 ∨ 400 ≤ (nI n).toNatClampNeg) := nI_in h (by decide)
theorem in25 {n : Nat} (h : n < 25) : ¬ (nI n < 0 ∨ 25 ≤ (nI n).toNatClampNeg) := nI_in h (by decide)
theorem rv_s {rw : Nat → Int32} {r i : Nat} {v : Int32} : rv (upd rw (16 * r + i) v) r = upd (rv rw r) i v := by
  funext j
  show upd rw (16 * r + i) v (16 * r + j) = upd (rv rw r) i v j
  by_cases c : j = i
  · rw [c, pk_us, pk_us]
  · rw [pk_un c, pk_un (by omega)]; rfl
theorem rv_n {rw : Nat → Int32} {r r' i : Nat} {v : Int32} (h : ¬ r' = r) (hi : i < 16) : ∀ j, j < 16 → rv (upd rw (16 * r + i) v) r' j = rv rw r' j := fun j hj => by
  show upd rw (16 * r + i) v (16 * r' + j) = rw (16 * r' + j)
  exact pk_un (by omega)
theorem P_rcell {cd0 : Unit} {rw : Nat → Int32} {x y : Int32} {r i : Nat} (hx : x = nI r) (hy : y = nI i) (hr : r < 25) (hi : i < 16) : f_X5_cell rw x y = some (rv rw r i) := by
  unfold f_X5_cell
  rw [hx, hy, ix, if_neg (in400 (by omega)), nI_clamp (by omega)]
  rfl
theorem P_rget {K : Type} [Lean.Grind.CommRing K] {cd : K → Int32} {rw : Nat → Int32} {x y : Int32} {r i : Nat} (hx : x = nI r) (hy : y = nI i) (hr : r < 25) (hi : i < 16) {f : Nat → K} (h : RW cd (rv rw r) f) : f_X5_cell rw x y = some (cd (f i)) := by
  rw [P_rcell (cd0 := ()) hx hy hr hi, h.2 i hi]
theorem P_rclear_l {K : Type} [Lean.Grind.CommRing K] {cd : K → Int32} {E : Nat → Int32} {kk : Int32} {md : Nat → Int32} (hC : CX cd E kk md) {x : Int32} {r : Nat} (hx : x = nI r) (hr : r < 25) (k : Int32 → (Nat → Int32) → Option ((Nat → Int32) × (Nat → Int32))) (fu : Nat) (dg : (Nat → Int32)) : ∀ (d j n : Nat) (rw : (Nat → Int32)), d + j = 16 → (∀ i, i < j → rv rw r i = 0) → d < n → ∃ rw', f_X5_clear_l2 k fu dg x n (nI j) rw = k 16 rw' ∧ (∀ r', ¬ r' = r → ∀ i, i < 16 → rv rw' r' i = rv rw r' i) ∧ RW cd (rv rw' r) (fun _ => 0) := by
  subst hx
  intro d
  induction d with
  | zero =>
    intro j n rw hj hM hn
    obtain ⟨n, rfl⟩ : ∃ n', n = n' + 1 := ⟨n - 1, by omega⟩
    have e : j = 16 := by omega
    subst e
    refine ⟨rw, ?_, fun _ _ _ _ => rfl, fun _ _ => rfl, fun i hi => ?_⟩
    · rw [f_X5_clear_l2, if_pos (show (16 : Int32) ≤ nI 16 by decide)]; rfl
    · rw [hM i hi, hC.2.1.1]
  | succ d ih =>
    intro j n rw hj hM hn
    obtain ⟨n, rfl⟩ : ∃ n', n = n' + 1 := ⟨n - 1, by omega⟩
    rw [f_X5_clear_l2, if_neg (i16_n (by omega)), ix, if_neg (in400 (by omega)), nI_clamp (by omega), nI_1]
    obtain ⟨rw', h1, h2, h3⟩ := ih (j + 1) n (upd rw (16 * r + j) 0) (by omega) (fun i hi => by
      rw [rv_s]
      by_cases e : i = j
      · rw [e, pk_us]
      · rw [pk_un e, hM i (by omega)]) (by omega)
    exact ⟨rw', h1, fun r' hr' i hi => by rw [h2 r' hr' i hi, rv_n hr' (by omega) i hi], h3⟩
theorem P_rclear {K : Type} [Lean.Grind.CommRing K] {cd : K → Int32} {E : Nat → Int32} {kk : Int32} {md : Nat → Int32} (hC : CX cd E kk md) (rw dg : (Nat → Int32)) {x : Int32} {r : Nat} (hx : x = nI r) (hr : r < 25) {fu : Nat} (hfu : 17 ≤ fu) : ∃ rw' dg', f_X5_clear fu rw dg x = some (rw', dg') ∧ FR [r] rw dg rw' dg' ∧ RX cd rw' dg' r (fun _ => 0) := by
  obtain ⟨rw', h1, h2, h3⟩ := P_rclear_l hC hx hr (fun y3 rw4 => if x < 0 ∨ 25 ≤ (x).toNatClampNeg then none else some (rw4, upd dg (x).toNatClampNeg (-1))) fu dg 16 0 fu rw (by omega) (fun i hi => by omega) (by omega)
  refine ⟨rw', upd dg r (-1), ?_, fun r' hr' => ?_, h3, ?_⟩
  · unfold f_X5_clear
    refine h1.trans ?_
    rw [hx, if_neg (in25 hr), nI_clamp (by omega)]
  · have hr2 : ¬ r' = r := fun q => hr' (by rw [q]; exact List.mem_cons_self)
    exact ⟨h2 r' hr2, pk_un hr2⟩
  · rw [pk_us, sq_0 (fun _ => rfl)]; rfl
theorem P_rcopy_l {x y : Int32} {a b : Nat} (hx : x = nI a) (hy : y = nI b) (ha : a < 25) (hb : b < 25) (hab : ¬ a = b) (k : Int32 → (Nat → Int32) → Option ((Nat → Int32) × (Nat → Int32))) (fu : Nat) (dg : (Nat → Int32)) {m : (Nat → Int32)} : ∀ (d j n : Nat) (rw : (Nat → Int32)), d + j = 16 → (∀ i, i < 16 → rv rw a i = m i) → (∀ i, i < j → rv rw b i = m i) → d < n → ∃ rw', f_X5_copy_l2 k fu dg x y n (nI j) rw = k 16 rw' ∧ (∀ r', ¬ r' = b → ∀ i, i < 16 → rv rw' r' i = rv rw r' i) ∧ ∀ i, i < 16 → rv rw' b i = m i := by
  subst hx
  subst hy
  intro d
  induction d with
  | zero =>
    intro j n rw hj hf hM hn
    obtain ⟨n, rfl⟩ : ∃ n', n = n' + 1 := ⟨n - 1, by omega⟩
    have e : j = 16 := by omega
    subst e
    refine ⟨rw, ?_, fun _ _ _ _ => rfl, hM⟩
    rw [f_X5_copy_l2, if_pos (show (16 : Int32) ≤ nI 16 by decide)]; rfl
  | succ d ih =>
    intro j n rw hj hf hM hn
    obtain ⟨n, rfl⟩ : ∃ n', n = n' + 1 := ⟨n - 1, by omega⟩
    rw [f_X5_copy_l2, if_neg (i16_n (by omega)), ix, ix, if_neg (in400 (by omega)), if_neg (in400 (by omega)), nI_clamp (by omega), nI_clamp (by omega), nI_1]
    obtain ⟨rw', h1, h2, h3⟩ := ih (j + 1) n (upd rw (16 * b + j) (rw (16 * a + j))) (by omega) (fun i hi => by rw [rv_n hab (by omega) i hi, hf i hi]) (fun i hi => by
      rw [rv_s]
      by_cases e : i = j
      · rw [e, pk_us]; exact hf j (by omega)
      · rw [pk_un e, hM i (by omega)]) (by omega)
    exact ⟨rw', h1, fun r' hr' i hi => by rw [h2 r' hr' i hi, rv_n hr' (by omega) i hi], h3⟩
theorem P_rcopy {K : Type} [Lean.Grind.CommRing K] {cd : K → Int32} {rw dg : (Nat → Int32)} {x y : Int32} {a b : Nat} (hx : x = nI a) (hy : y = nI b) (ha : a < 25) (hb : b < 25) (hab : ¬ a = b) {f : Nat → K} (h : RX cd rw dg a f) {fu : Nat} (hfu : 17 ≤ fu) : ∃ rw' dg', f_X5_copy fu rw dg x y = some (rw', dg') ∧ FR [b] rw dg rw' dg' ∧ RX cd rw' dg' b f := by
  obtain ⟨rw', h1, h2, h3⟩ := P_rcopy_l hx hy ha hb hab (fun y4 rw5 => if x < 0 ∨ 25 ≤ (x).toNatClampNeg then none else if y < 0 ∨ 25 ≤ (y).toNatClampNeg then none else some (rw5, upd dg (y).toNatClampNeg (dg (x).toNatClampNeg))) fu dg (m := rv rw a) 16 0 fu rw (by omega) (fun _ _ => rfl) (fun i hi => by omega) (by omega)
  refine ⟨rw', upd dg b (dg a), ?_, fun r' hr' => ?_, RW_e h.1 h3, ?_⟩
  · unfold f_X5_copy
    refine h1.trans ?_
    rw [hx, hy, if_neg (in25 ha), if_neg (in25 hb), nI_clamp (by omega), nI_clamp (by omega)]
  · have hr2 : ¬ r' = b := fun q => hr' (by rw [q]; exact List.mem_cons_self)
    exact ⟨h2 r' hr2, pk_un hr2⟩
  · rw [pk_us]; exact h.2
theorem P_rset_l {K : Type} [Lean.Grind.CommRing K] {cd : K → Int32} {E : Nat → Int32} {kk : Int32} {md : Nat → Int32} (hC : CX cd E kk md) {rw dg : (Nat → Int32)} {x : Int32} {r : Nat} (hx : x = nI r) (hr : r < 25) {f : Nat → K} (h : RW cd (rv rw r) f) (k : Int32 → Option ((Nat → Int32) × (Nat → Int32))) (fu : Nat) (x2 x3 : Int32) : ∀ (j n : Nat), j ≤ 16 → dl f j → j < n → f_X5_set_l16 k fu rw dg x x2 x3 n (dI j) = k (dI (sq f)) := by
  subst hx
  intro j
  induction j with
  | zero =>
    intro n _ hd hn
    obtain ⟨n, rfl⟩ : ∃ n', n = n' + 1 := ⟨n - 1, by omega⟩
    rw [f_X5_set_l16, if_pos dI_neg, sq_0 (fun i => hd i (by omega))]
  | succ j ih =>
    intro n hj hd hn
    obtain ⟨n, rfl⟩ : ∃ n', n = n' + 1 := ⟨n - 1, by omega⟩
    have hv : rw (16 * r + j) = cd (f j) := h.2 j (by omega)
    rw [f_X5_set_l16, dI_s, if_neg (nI_pos (by omega)), ix, if_neg (in400 (by omega)), nI_clamp (by omega), hv]
    by_cases c : f j = 0
    · rw [if_pos ((cd_0 hC _).mpr c), dI_m]
      refine ih n (by omega) (fun i hi => ?_) (by omega)
      by_cases e : i = j
      · rw [e]; exact c
      · exact hd i (by omega)
    · rw [if_neg (fun q => c ((cd_0 hC _).mp q)), sq_of c hd, dI_s]
theorem P_rset {K : Type} [Lean.Grind.CommRing K] {cd : K → Int32} {E : Nat → Int32} {kk : Int32} {md : Nat → Int32} (hC : CX cd E kk md) {rw : (Nat → Int32)} (dg : (Nat → Int32)) {x y z : Int32} {r i : Nat} (hx : x = nI r) (hy : y = nI i) (hr : r < 25) (hi : i < 16) {f g : Nat → K} {a : K} (hz : z = cd a) (h : RW cd (rv rw r) f) (g1 : g i = a) (g2 : ∀ j, j ≠ i → g j = f j) {fu : Nat} (hfu : 17 ≤ fu) : ∃ rw' dg', f_X5_set fu rw dg x y z = some (rw', dg') ∧ FR [r] rw dg rw' dg' ∧ RX cd rw' dg' r g := by
  subst hy
  subst hz
  have h2 : RW cd (rv (upd rw (16 * r + i) (cd a)) r) g := by rw [rv_s]; exact RW_upd h hi g1 g2
  refine ⟨upd rw (16 * r + i) (cd a), upd dg r (dI (sq g)), ?_, fun r' hr' => ?_, h2, pk_us⟩
  · unfold f_X5_set
    have e : (16 * x + nI i).toNatClampNeg = 16 * r + i := by rw [hx, ix, nI_clamp (by omega)]
    rw [e, show (16 * x + nI i) = nI (16 * r + i) by rw [hx, ix], if_neg (show ¬ (nI (16 * r + i) < 0 ∨ 400 ≤ 16 * r + i) from fun q => q.elim (nI_pos (by omega)) (by omega))]
    have := P_rset_l hC (dg := dg) hx hr h2 (fun y5 => if x < 0 ∨ 25 ≤ (x).toNatClampNeg then none else some (upd rw (16 * r + i) (cd a), upd dg (x).toNatClampNeg y5)) fu (nI i) (cd a) 16 fu (by omega) h2.1 (by omega)
    rw [show (15 : Int32) = dI 16 from rfl, this, hx, if_neg (in25 hr), nI_clamp (by omega)]
  · have hr2 : ¬ r' = r := fun q => hr' (by rw [q]; exact List.mem_cons_self)
    exact ⟨rv_n hr2 hi, pk_un hr2⟩
/-- the degree is written anew -/
theorem P_rdeg {K : Type} [Lean.Grind.CommRing K] {cd : K → Int32} {E : Nat → Int32} {kk : Int32} {md : Nat → Int32} (hC : CX cd E kk md) {rw : (Nat → Int32)} (dg : (Nat → Int32)) {x y z : Int32} {r : Nat} (hx : x = nI r) (hy : y = nI 0) (hr : r < 25) {f : Nat → K} (h : RW cd (rv rw r) f) (hz : z = cd (f 0)) {fu : Nat} (hfu : 17 ≤ fu) : ∃ rw' dg', f_X5_set fu rw dg x y z = some (rw', dg') ∧ FR [r] rw dg rw' dg' ∧ RX cd rw' dg' r f := P_rset hC dg hx hy hr (by omega) hz h rfl (fun _ _ => rfl) hfu
