/-! There is a shift by which the norm is without squares: the count. -/
def tt {K : Type} [Lean.Grind.CommRing K] (T : K) : Nat → K
  | 0 => T
  | n + 1 => (tt T n) ^ 101
theorem tt_fr {K : Type} [Lean.Grind.CommRing K] (h101 : (101 : K) = 0) (T : K) (s i : Nat) : (0 - OfNat.ofNat s * tt T i) ^ 101 = 0 - OfNat.ofNat s * tt T (i + 1) := by
  rw [sub_fr h101, mul_pow', nc_fer h101]; rfl
theorem tt_ne {K R : Type} [Lean.Grind.CommRing K] [Lean.Grind.CommRing R] {cd : K → Int32} {E : Nat → Int32} {kk : Int32} {md : Nat → Int32} {mn : Int64} {q k : Nat} {T : K} (hL : FL cd E kk md mn q k T) {cf : R → Nat → K} {deg : R → Nat} {mon : R → Prop} {X : R} {Cc : K → R} {Kl : List R} (hR : PR cf deg mon X Cc Kl q) (hk : 2 ≤ k) : (¬ tt T 0 = tt T 1) ∧ (k = 3 → ¬ tt T 0 = tt T 2 ∧ ¬ tt T 1 = tt T 2) := by
  have h1 := T_ne hL hR hk
  have hF := hL.2.1
  refine ⟨fun z => h1 z.symm, fun k3 => ⟨fun z => h1 ?_, fun z => h1 (fr_inj hF.1 hL.2.2.1 (show T ^ 101 = (T ^ 101) ^ 101 from z)).symm⟩⟩
  have q3 : q = 1030301 := by have := hL.2.2.2.1.2.2.2.2; rw [this, k3]
  have e := hF.2.1 T
  have z' : T = (T ^ 101) ^ 101 := z
  rw [q3, show 1030301 = 101 * 101 * 101 by decide, pow_mul', pow_mul', ← z'] at e
  exact e
theorem it_hm {K R : Type} [Lean.Grind.CommRing K] [Lean.Grind.CommRing R] {cf : R → Nat → K} {deg : R → Nat} {mon : R → Prop} {X : R} {Cc : K → R} {Kl : List R} {q : Nat} (hR : PR cf deg mon X Cc Kl q) (h101 : (101 : K) = 0) {F : R → R} (hM : MR cf F) {Sg : K → R → R} (hS : ∀ c, HM X Cc (Sg c) c) (T : K) (s : Nat) (r : R) : ∀ i, it F i (Sg (0 - OfNat.ofNat s * tt T 0) r) = Sg (0 - OfNat.ofNat s * tt T i) (it F i r) := by
  intro i
  induction i with
  | zero => rfl
  | succ i ih =>
    show F (it F i (Sg (0 - OfNat.ofNat s * tt T 0) r)) = Sg _ (F (it F i r))
    rw [ih, hm_F hR h101 hM (hS _) (by rw [tt_fr h101 T s i]; exact hS _)]
theorem it_co {K R : Type} [Lean.Grind.CommRing K] [Lean.Grind.CommRing R] {cf : R → Nat → K} {deg : R → Nat} {mon : R → Prop} {X : R} {Cc : K → R} {Kl : List R} {q : Nat} (hR : PR cf deg mon X Cc Kl q) (h101 : (101 : K) = 0) {D F : R → R} (hD : DR cf D) (hM : MR cf F) {r : R} (h : CO D r) : ∀ i, CO D (it F i r) := by
  intro i
  induction i with
  | zero => exact h
  | succ i ih => exact co_F hR h101 hD hM ih
theorem it_mon {K R : Type} [Lean.Grind.CommRing K] [Lean.Grind.CommRing R] {cf : R → Nat → K} {deg : R → Nat} {mon : R → Prop} {X : R} {Cc : K → R} {Kl : List R} {q : Nat} (hR : PR cf deg mon X Cc Kl q) {F : R → R} (hM : MR cf F) {r : R} (h : mon r) : ∀ i, mon (it F i r) := by
  intro i
  induction i with
  | zero => exact h
  | succ i ih =>
    obtain ⟨d, h1, h2⟩ := (pr_mon hR _).mp ih
    refine (pr_mon hR _).mpr ⟨d, ?_, fun j hj => ?_⟩
    · show cf (F (it F i r)) d = 1
      rw [hM]
      show (cf (it F i r) d) ^ 101 = 1
      rw [h1, one_p]
    · show cf (F (it F i r)) j = 0
      rw [hM]
      show (cf (it F i r) j) ^ 101 = 0
      rw [h2 j hj, z101]
def RLs {K R : Type} [Lean.Grind.CommRing K] [Lean.Grind.CommRing R] (deg : R → Nat) (mon : R → Prop) (Sg : K → R → R) (T : K) (s : Nat) (x : Nat × Nat × R × R) : Prop := ∃ p, irr deg mon p ∧ deg p ≤ 5 ∧ x.2.2.1 = Sg (OfNat.ofNat s * tt T x.1) p ∧ x.2.2.2 = Sg (OfNat.ofNat s * tt T x.2.1) p
theorem rls_inj {K R : Type} [Lean.Grind.CommRing K] [Lean.Grind.CommRing R] {cf : R → Nat → K} {deg : R → Nat} {mon : R → Prop} {X : R} {Cc : K → R} {Kl : List R} {q : Nat} (hR : PR cf deg mon X Cc Kl q) (h101 : (101 : K) = 0) {Sg : K → R → R} (hS : ∀ c, HM X Cc (Sg c) c) {T : K} {s s' : Nat} (hs : s < 101) (hs' : s' < 101) {x : Nat × Nat × R × R} (hx : ¬ tt T x.1 = tt T x.2.1) (h : RLs deg mon Sg T s x) (h' : RLs deg mon Sg T s' x) : s = s' := by
  have hK := pr_fld hR
  obtain ⟨p, p1, p2, p3, p4⟩ := h
  obtain ⟨p', q1, q2, q3, q4⟩ := h'
  have d1 : deg p = deg x.2.2.1 := by rw [p3, hm_deg hR (hS _)]
  have d2 : deg p' = deg x.2.2.1 := by rw [q3, hm_deg hR (hS _)]
  have m1 := (pr_mo hR p1.1).1
  have m2 := (pr_mo hR q1.1).1
  have dd : deg p' = deg p := by omega
  rw [dd] at m2
  have dp := p1.2.1
  have a1 := (hm_top hR (hS (OfNat.ofNat s * tt T x.1)) (deg p) p m1.2).2.2 dp
  have a2 := (hm_top hR (hS (OfNat.ofNat s * tt T x.2.1)) (deg p) p m1.2).2.2 dp
  have b1 := (hm_top hR (hS (OfNat.ofNat s' * tt T x.1)) (deg p) p' m2.2).2.2 dp
  have b2 := (hm_top hR (hS (OfNat.ofNat s' * tt T x.2.1)) (deg p) p' m2.2).2.2 dp
  rw [← p3, m1.1] at a1
  rw [← p4, m1.1] at a2
  rw [← q3, m2.1] at b1
  rw [← q4, m2.1] at b2
  have e : (OfNat.ofNat (deg p) : K) * ((OfNat.ofNat s - OfNat.ofNat s') * (tt T x.2.1 - tt T x.1)) = 0 := by
    generalize (OfNat.ofNat (deg p) : K) = n at *
    generalize (OfNat.ofNat s : K) = u at *
    generalize (OfNat.ofNat s' : K) = v at *
    generalize tt T x.1 = y at *
    generalize tt T x.2.1 = z at *
    grind
  rcases fld_dom hK e with e | e
  · exact absurd e (nz_n hK h101 dp (by omega))
  · rcases fld_dom hK e with e | e
    · exact nz_inj hK h101 hs hs' (by
        generalize (OfNat.ofNat s : K) = u at *
        generalize (OfNat.ofNat s' : K) = v at *
        grind)
    · exact absurd (by grind) hx
theorem sb_m {K R : Type} [Lean.Grind.CommRing K] [Lean.Grind.CommRing R] {cf : R → Nat → K} {deg : R → Nat} {mon : R → Prop} {X : R} {Cc : K → R} {Kl : List R} {q : Nat} (hR : PR cf deg mon X Cc Kl q) {Sg : K → R → R} (hS : ∀ c, HM X Cc (Sg c) c) {r m : R} (hr : dl (cf r) 16) {c : K} (h : cf m = tau c 16 (cf r)) : m = Sg c r := pr_ext hR (fun i => by rw [h, hm_tau hR (hS c) 16 r hr])
theorem sh_pair {K R : Type} [Lean.Grind.CommRing K] [Lean.Grind.CommRing R] {cf : R → Nat → K} {deg : R → Nat} {mon : R → Prop} {X : R} {Cc : K → R} {Kl : List R} {q : Nat} (hR : PR cf deg mon X Cc Kl q) (h101 : (101 : K) = 0) {F : R → R} (hM : MR cf F) {Sg : K → R → R} (hS : ∀ c, HM X Cc (Sg c) c) (T : K) {r : R} {Li : Nat → List R} (hLi : ∀ i, (∀ p ∈ Li i, irr deg mon p) ∧ lp (Li i) = it F i r) {s i : Nat} {p : R} (hp : irr deg mon p) (h : dv p (it F i (Sg (0 - OfNat.ofNat s * tt T 0) r))) : Sg (OfNat.ofNat s * tt T i) p ∈ Li i ∧ deg p ≤ deg (it F i r) := by
  have hE := pr_eu hR
  rw [it_hm hR h101 hM hS] at h
  obtain ⟨w, hw⟩ := h
  have e : it F i r = Sg (OfNat.ofNat s * tt T i) p * Sg (OfNat.ofNat s * tt T i) w := by
    rw [← (hS _).2.1, ← hw, hm_inv hR (hS _) (hS _)]
    grind
  have hi := hm_irr hR (hS (OfNat.ofNat s * tt T i)) hp
  have r0 : ¬ it F i r = 0 := by
    rw [← (hLi i).2]
    exact hE.2.2.2.2.2.2.1 _ (lp_monI hE (hLi i).1)
  refine ⟨?_, ?_⟩
  · obtain ⟨z, hz, h2⟩ := lp_dv hE hi (Li i) (by rw [(hLi i).2]; exact ⟨_, e⟩)
    rw [irr_eq hE hi ((hLi i).1 z hz) h2]
    exact hz
  · have := dv_deg hE r0 ⟨_, e⟩
    rw [hm_deg hR (hS _)] at this
    exact this
theorem sh_ex {K R : Type} [Lean.Grind.CommRing K] [Lean.Grind.CommRing R] {cd : K → Int32} {E : Nat → Int32} {kk : Int32} {md : Nat → Int32} {mn : Int64} {q k : Nat} {T : K} (hL : FL cd E kk md mn q k T) {cf : R → Nat → K} {deg : R → Nat} {mon : R → Prop} {X : R} {Cc : K → R} {Kl : List R} (hR : PR cf deg mon X Cc Kl q) {D F : R → R} (hD : DR cf D) (hM : MR cf F) {f r : R} (f0 : ¬ f = 0) (hs : sq (cf f) ≤ 6) (hrt : RT mon D f r) : (k = 1 → ∀ TR : K, ¬ SB cf deg mon D F k TR r 0) ∧ (2 ≤ k → ∃ s, s < 101 ∧ ¬ SB cf deg mon D F k T r s) := by
  have hE := pr_eu hR
  have h101 := hL.2.2.1
  obtain ⟨hco, mr, dr⟩ := co_rt hR h101 hD f0 hs hrt
  have r0 : ¬ r = 0 := hE.2.2.2.2.2.2.1 r mr
  have hr16 : dl (cf r) 16 := dl_mono (pr_dl hR r) (by have := pr_sq hR r0; omega)
  obtain ⟨Sg, hS⟩ : ∃ Sg : K → R → R, ∀ c, HM X Cc (Sg c) c := ⟨fun c => (hm_ex hR c).choose, fun c => (hm_ex hR c).choose_spec⟩
  refine ⟨fun k1 TR hb => ?_, fun k2 => Classical.byContradiction (fun hno => ?_)⟩
  · obtain ⟨m, g, h1, h2, h3⟩ := hb
    have em := sb_m hR hS hr16 h1
    rw [k1] at h2
    have h2' : GC mon m (D m) g := h2
    rw [em] at h2'
    exact co_no hR (co_hm hR hD (hS _) hco) h3 h2'.1 h2'.2.1
  · have hall : ∀ s, s < 101 → SB cf deg mon D F k T r s := fun s hs => Classical.byContradiction (fun q => hno ⟨s, hs, q⟩)
    have dri : ∀ i, deg (it F i r) ≤ 5 := fun i => by
      have h1 := it_sq hR hM r i
      have h2 := (pr_mo hR (it_mon hR hM mr i)).2
      have h3 := pr_sq hR r0
      omega
    obtain ⟨Li, hLi⟩ : ∃ Li : Nat → List R, ∀ i, (∀ p ∈ Li i, irr deg mon p) ∧ lp (Li i) = it F i r := by
      have hx : ∀ i, ∃ l : List R, (∀ p ∈ l, irr deg mon p) ∧ lp l = it F i r := fun i => fac_ex hE hR.1.2.1 _ _ (it_mon hR hM mr i) (Nat.le_refl _)
      exact ⟨fun i => (hx i).choose, fun i => (hx i).choose_spec⟩
    have l5 : ∀ i, (Li i).length ≤ 5 := fun i => by
      have h1 := lp_len hE (hLi i).1
      rw [(hLi i).2] at h1
      have := dri i
      omega
    have ll : ∀ i j, (prl (Li i) (Li j)).length ≤ 25 := fun i j => by
      rw [prl_len]
      exact Nat.mul_le_mul (l5 i) (l5 j)
    have hne := tt_ne hL hR k2
    have mk : ∀ (s i j : Nat) (p : R), irr deg mon p → dv p (it F i (Sg (0 - OfNat.ofNat s * tt T 0) r)) → dv p (it F j (Sg (0 - OfNat.ofNat s * tt T 0) r)) → ∃ x ∈ (prl (Li i) (Li j)).map (fun y => (i, j, y.1, y.2)), RLs deg mon Sg T s x := fun s i j p hp h1 h2 => by
      obtain ⟨a1, a2⟩ := sh_pair hR h101 hM hS T hLi hp h1
      obtain ⟨b1, b2⟩ := sh_pair hR h101 hM hS T hLi hp h2
      refine ⟨(i, j, Sg (OfNat.ofNat s * tt T i) p, Sg (OfNat.ofNat s * tt T j) p), List.mem_map.mpr ⟨(Sg (OfNat.ofNat s * tt T i) p, Sg (OfNat.ofNat s * tt T j) p), List.mem_flatMap.mpr ⟨_, a1, List.mem_map.mpr ⟨_, b1, rfl⟩⟩, rfl⟩, p, hp, ?_, rfl, rfl⟩
      have := dri i
      omega
    have pr1 : ∀ (i j : Nat) x, x ∈ (prl (Li i) (Li j)).map (fun y => (i, j, y.1, y.2)) → x.1 = i ∧ x.2.1 = j := fun i j x hx => by
      obtain ⟨y, _, e⟩ := List.mem_map.mp hx
      rw [← e]
      exact ⟨rfl, rfl⟩
    have start : ∀ s, s < 101 → ∃ p, irr deg mon p ∧ dv p (nr F (Sg (0 - OfNat.ofNat s * tt T 0) r) (k - 1)) ∧ dv p (D (nr F (Sg (0 - OfNat.ofNat s * tt T 0) r) (k - 1))) := fun s hs' => by
      obtain ⟨m, g, h1, h2, h3⟩ := hall s hs'
      have em : m = Sg (0 - OfNat.ofNat s * tt T 0) r := sb_m hR hS hr16 h1
      rw [em] at h2
      have g0 : ¬ g = 0 := fun q => by
        rw [q, pr_d0 hR] at h3
        omega
      obtain ⟨p, p1, p2⟩ := irr_in hR g0 h3
      exact ⟨p, p1, dv_tr p2 h2.1, dv_tr p2 h2.2.1⟩
    have coi : ∀ s i, CO D (it F i (Sg (0 - OfNat.ofNat s * tt T 0) r)) := fun s i => it_co hR h101 hD hM (co_hm hR hD (hS _) hco) i
    have hkk : k = 2 ∨ k = 3 := by have := hL.2.2.2.1; omega
    rcases hkk with e | e
    · have := php (RLs deg mon Sg T) (List.range 101) ((prl (Li 0) (Li 1)).map (fun y => (0, 1, y.1, y.2))) List.nodup_range (fun s hs' => by
        obtain ⟨p, p1, p2, p3⟩ := start s (List.mem_range.mp hs')
        rw [e] at p2 p3
        obtain ⟨c1, c2⟩ := two_of2 hR hD p1 (coi s 0) (coi s 1) p2 p3
        exact mk s 0 1 p p1 c1 c2) (fun s s' x h1 h2 hx r1 r2 => by
        have z := pr1 0 1 x hx
        exact rls_inj hR h101 hS (List.mem_range.mp h1) (List.mem_range.mp h2) (by rw [z.1, z.2]; exact hne.1) r1 r2)
      rw [List.length_range, List.length_map] at this
      have := ll 0 1
      omega
    · have hne3 := hne.2 e
      have := php (RLs deg mon Sg T) (List.range 101) (((prl (Li 0) (Li 1)).map (fun y => (0, 1, y.1, y.2))) ++ (((prl (Li 0) (Li 2)).map (fun y => (0, 2, y.1, y.2))) ++ ((prl (Li 1) (Li 2)).map (fun y => (1, 2, y.1, y.2))))) List.nodup_range (fun s hs' => by
        obtain ⟨p, p1, p2, p3⟩ := start s (List.mem_range.mp hs')
        rw [e] at p2 p3
        rcases two_of3 hR hD p1 (coi s 0) (coi s 1) (coi s 2) p2 p3 with ⟨c1, c2⟩ | ⟨c1, c2⟩ | ⟨c1, c2⟩
        · obtain ⟨x, x1, x2⟩ := mk s 0 1 p p1 c1 c2
          exact ⟨x, List.mem_append.mpr (Or.inl x1), x2⟩
        · obtain ⟨x, x1, x2⟩ := mk s 0 2 p p1 c1 c2
          exact ⟨x, List.mem_append.mpr (Or.inr (List.mem_append.mpr (Or.inl x1))), x2⟩
        · obtain ⟨x, x1, x2⟩ := mk s 1 2 p p1 c1 c2
          exact ⟨x, List.mem_append.mpr (Or.inr (List.mem_append.mpr (Or.inr x1))), x2⟩) (fun s s' x h1 h2 hx r1 r2 => by
        refine rls_inj hR h101 hS (List.mem_range.mp h1) (List.mem_range.mp h2) ?_ r1 r2
        rcases List.mem_append.mp hx with hx | hx
        · have z := pr1 0 1 x hx
          rw [z.1, z.2]; exact hne.1
        · rcases List.mem_append.mp hx with hx | hx
          · have z := pr1 0 2 x hx
            rw [z.1, z.2]; exact hne3.1
          · have z := pr1 1 2 x hx
            rw [z.1, z.2]; exact hne3.2)
      rw [List.length_range, List.length_append, List.length_append, List.length_map, List.length_map, List.length_map] at this
      have := ll 0 1
      have := ll 0 2
      have := ll 1 2
      omega
