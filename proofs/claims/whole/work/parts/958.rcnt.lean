/-! The reference counts how often each factor stands, and how far the polynomial is from splitting. -/
set_option maxHeartbeats 1000000 in
theorem P_rcnt_i {K R : Type} [Lean.Grind.CommRing K] [Lean.Grind.CommRing R] {cd : K → Int32} {E : Nat → Int32} {kk : Int32} {md : Nat → Int32} {mn : Int64} {q k : Nat} {T : K} (hL : FL cd E kk md mn q k T) {cf : R → Nat → K} {deg : R → Nat} {mon : R → Prop} {X : R} {Cc : K → R} {Kl : List R} (hR : PR cf deg mon X Cc Kl q) {f p : R} (f0 : ¬ f = 0) (hf5 : deg f ≤ 5) (hp : irr deg mon p) {i : Nat} (hi : i < 5) (kn fc : Int32) (kc : Int32 → (Nat → Int32) → (Nat → Int32) → (Nat → Int32) → Option ((Nat → Int32) × (Nat → Int32) × Int32 × Int32 × (Nat → Int32))) (fu : Nat) (hfu : 64 ≤ fu) : ∀ (e j n : Nat) (rw dg oft : (Nat → Int32)) (g : R), e + j = 5 → RX cd rw dg (20 + i) (cf p) → RX cd rw dg 2 (cf g) → f = p ^ j * g → oft i = nI j → e + 1 < n → ∃ y rw' dg' oft' m, f_X5_factorise_l45 kc fu kk mn md kn fc (nI i) n 1 rw dg oft = kc y rw' dg' oft' ∧ MLT f p m ∧ oft' i = nI m ∧ (∀ t, ¬ t = i → oft' t = oft t) ∧ FR [2, 3] rw dg rw' dg' := by
  have hC := hL.1
  have hE := pr_eu hR
  have hF := hL.2.1
  have p0 : ¬ p = 0 := hE.2.2.2.2.2.2.1 p hp.1
  intro e
  induction e with
  | zero =>
    intro j n rw dg oft g hj h1 h2 h3 h4 hn
    obtain ⟨n, rfl⟩ : ∃ n', n = n' + 2 := ⟨n - 2, by omega⟩
    have i20 : (20 : Int32) + nI i = nI (20 + i) := by rw [show (20 : Int32) = nI 20 from rfl, nI_add]
    obtain ⟨rw1, dg1, qq, r, k1, k2, k3, k4, k5, k6⟩ := P_rdiv hC hR hF (x := 2) (z := 3) (a := 2) (c := 3) rfl i20 rfl (by omega) (by omega) (by omega) (by omega) (by omega) (by omega) h2 h1 p0 hfu
    have r0 : ¬ r = 0 := fun q => by
      have e6 : f = p ^ (j + 1) * qq := by rw [h3, k5, q, Lean.Grind.Semiring.pow_succ]; grind
      have := dv_deg hE f0 ⟨qq, e6⟩
      have := pow_deg hE hp (j + 1)
      omega
    have nd : ¬ dv p g := fun ⟨c, hc⟩ => r0 (pr_dun2 hR p0 (q1 := qq) (r1 := r) (q2 := c) (r2 := 0) (by rw [← k5, hc]; grind) k6 (by rw [(pr_sq0 hR 0).mpr rfl, pr_sq hR p0]; omega)).2
    obtain ⟨rw2, dg2, l1, l2, l3⟩ := P_rcopy (x := 3) (y := 2) (a := 3) (b := 2) rfl rfl (by omega) (by omega) (by omega) k3 (show 17 ≤ fu by omega)
    refine ⟨0, rw2, dg2, upd oft i (oft i + 0), j, ?_, ⟨g, h3, nd⟩, by rw [pk_us, h4]; exact Int32.add_zero _, fun t ht => pk_un ht, FR_mo (FR_tr k2 l2) (fun r hr => by simp at hr ⊢; omega)⟩
    have d0 : 0 ≤ dI (sq (cf r)) := by
      rw [pr_sq hR r0, dI_s]
      exact Int32.not_lt.mp (nI_pos (by have := sq_le k4.1.1; rw [pr_sq hR r0] at this; omega))
    rw [f_X5_factorise_l45, if_neg (by decide), k1, Option.bind_some, if_neg (by decide), show (2 : Int32).toNatClampNeg = 2 by decide]
    show ((if 0 ≤ dg1 2 then some 0 else _ : Option Int32)).bind _ = _
    rw [k4.2, if_pos d0, Option.bind_some, if_neg (nI_in hi (by decide)), if_pos rfl, Option.bind_some, if_neg (nI_in hi (by decide)), nI_clamp (by omega)]
    show (f_X5_copy fu rw1 dg1 3 2).bind _ = _
    rw [l1, Option.bind_some, f_X5_factorise_l45, if_pos rfl]
  | succ e ih =>
    intro j n rw dg oft g hj h1 h2 h3 h4 hn
    obtain ⟨n, rfl⟩ : ∃ n', n = n' + 2 := ⟨n - 2, by omega⟩
    have i20 : (20 : Int32) + nI i = nI (20 + i) := by rw [show (20 : Int32) = nI 20 from rfl, nI_add]
    obtain ⟨rw1, dg1, qq, r, k1, k2, k3, k4, k5, k6⟩ := P_rdiv hC hR hF (x := 2) (z := 3) (a := 2) (c := 3) rfl i20 rfl (by omega) (by omega) (by omega) (by omega) (by omega) (by omega) h2 h1 p0 hfu
    obtain ⟨rw2, dg2, l1, l2, l3⟩ := P_rcopy (x := 3) (y := 2) (a := 3) (b := 2) rfl rfl (by omega) (by omega) (by omega) k3 (show 17 ≤ fu by omega)
    have f2 : FR [2, 3] rw dg rw2 dg2 := FR_mo (FR_tr k2 l2) (fun r hr => by simp at hr ⊢; omega)
    by_cases r0 : r = 0
    · have d0 : ¬ 0 ≤ dI (sq (cf r)) := by
        rw [(pr_sq0 hR r).mpr r0]; decide
      have q0 : ¬ qq = 0 := fun q => f0 (by rw [h3, k5, q, r0]; grind)
      have d1 : ¬ dI (sq (cf qq)) < 0 := by
        rw [pr_sq hR q0, dI_s]
        exact nI_pos (by have := sq_le k3.1.1; rw [pr_sq hR q0] at this; omega)
      obtain ⟨y, rw3, dg3, oft3, m, t1, t2, t3, t4, t5⟩ := ih (j + 1) (n + 1) rw2 dg2 (upd oft i (oft i + 1)) qq (by omega) (RX_fr f2 (by simp; omega) h1) l3 (by rw [h3, k5, r0, Lean.Grind.Semiring.pow_succ]; grind) (by rw [pk_us, h4, nI_1]) (by omega)
      refine ⟨y, rw3, dg3, oft3, m, ?_, t2, t3, fun t ht => by rw [t4 t ht, pk_un ht], FR_mo (FR_tr f2 t5) (fun r hr => by simp at hr ⊢; omega)⟩
      rw [f_X5_factorise_l45, if_neg (by decide), k1, Option.bind_some, if_neg (by decide), show (2 : Int32).toNatClampNeg = 2 by decide, show (3 : Int32).toNatClampNeg = 3 by decide]
      show ((if 0 ≤ dg1 2 then some 0 else (if (3 : Int32) < 0 ∨ 25 ≤ 3 then none else ((if dg1 3 < 0 then some 0 else some 1 : Option Int32)).bind (fun w19 => some w19)) : Option Int32)).bind _ = _
      rw [k4.2, if_neg d0, if_neg (by decide), k3.2, if_neg d1, Option.bind_some, Option.bind_some, if_neg (nI_in hi (by decide)), if_neg (by decide), Option.bind_some, if_neg (nI_in hi (by decide)), nI_clamp (by omega)]
      show (f_X5_copy fu rw1 dg1 3 2).bind _ = _
      rw [l1, Option.bind_some]
      exact t1
    · have nd : ¬ dv p g := fun ⟨c, hc⟩ => r0 (pr_dun2 hR p0 (q1 := qq) (r1 := r) (q2 := c) (r2 := 0) (by rw [← k5, hc]; grind) k6 (by rw [(pr_sq0 hR 0).mpr rfl, pr_sq hR p0]; omega)).2
      refine ⟨0, rw2, dg2, upd oft i (oft i + 0), j, ?_, ⟨g, h3, nd⟩, by rw [pk_us, h4]; exact Int32.add_zero _, fun t ht => pk_un ht, f2⟩
      have d0 : 0 ≤ dI (sq (cf r)) := by
        rw [pr_sq hR r0, dI_s]
        exact Int32.not_lt.mp (nI_pos (by have := sq_le k4.1.1; rw [pr_sq hR r0] at this; omega))
      rw [f_X5_factorise_l45, if_neg (by decide), k1, Option.bind_some, if_neg (by decide), show (2 : Int32).toNatClampNeg = 2 by decide]
      show ((if 0 ≤ dg1 2 then some 0 else _ : Option Int32)).bind _ = _
      rw [k4.2, if_pos d0, Option.bind_some, if_neg (nI_in hi (by decide)), if_pos rfl, Option.bind_some, if_neg (nI_in hi (by decide)), nI_clamp (by omega)]
      show (f_X5_copy fu rw1 dg1 3 2).bind _ = _
      rw [l1, Option.bind_some, f_X5_factorise_l45, if_pos rfl]
theorem P_rcnt_o {K R : Type} [Lean.Grind.CommRing K] [Lean.Grind.CommRing R] {cd : K → Int32} {E : Nat → Int32} {kk : Int32} {md : Nat → Int32} {mn : Int64} {q k : Nat} {T : K} (hL : FL cd E kk md mn q k T) {cf : R → Nat → K} {deg : R → Nat} {mon : R → Prop} {X : R} {Cc : K → R} {Kl : List R} (hR : PR cf deg mon X Cc Kl q) {f : R} (f0 : ¬ f = 0) (hf5 : deg f ≤ 5) {ps : List R} (hp : ∀ p ∈ ps, irr deg mon p) (hp5 : ps.length ≤ 5) (kn : Int32) (kc : Int32 → (Nat → Int32) → (Nat → Int32) → (Nat → Int32) → Option ((Nat → Int32) × (Nat → Int32) × Int32 × Int32 × (Nat → Int32))) (fu : Nat) (hfu : 64 ≤ fu) : ∀ (e i n : Nat) (rw dg oft : (Nat → Int32)), e + i = 5 → PF cd cf rw dg ps → RX cd rw dg 0 (cf f) → (∀ j p, j < i → ps[j]? = some p → ∃ m, MLT f p m ∧ oft j = nI m) → e < n → ∃ y rw' dg' oft', f_X5_factorise_l22 kc fu kk mn md kn (nI ps.length) n (nI i) rw dg oft = kc y rw' dg' oft' ∧ (∀ j p, ps[j]? = some p → ∃ m, MLT f p m ∧ oft' j = nI m) ∧ FR [2, 3] rw dg rw' dg' := by
  intro e
  induction e with
  | zero =>
    intro i n rw dg oft hi hPF h0 hC' hn
    obtain ⟨n, rfl⟩ : ∃ n', n = n' + 1 := ⟨n - 1, by omega⟩
    refine ⟨nI i, rw, dg, oft, by rw [f_X5_factorise_l22, if_pos (nI_le (by omega) (by omega))], fun j p hj => hC' j p ?_ hj, FR_rf _ _ _⟩
    have := (List.getElem?_eq_some_iff.mp hj).1
    omega
  | succ e ih =>
    intro i n rw dg oft hi hPF h0 hC' hn
    obtain ⟨n, rfl⟩ : ∃ n', n = n' + 1 := ⟨n - 1, by omega⟩
    by_cases c : ps.length ≤ i
    · refine ⟨nI i, rw, dg, oft, by rw [f_X5_factorise_l22, if_pos (nI_le c (by omega))], fun j p hj => hC' j p ?_ hj, FR_rf _ _ _⟩
      have := (List.getElem?_eq_some_iff.mp hj).1
      omega
    · obtain ⟨p, hpi⟩ : ∃ p, ps[i]? = some p := ⟨ps[i]'(by omega), List.getElem?_eq_getElem (by omega)⟩
      obtain ⟨rw1, dg1, k1, k2, k3⟩ := P_rcopy (x := 0) (y := 2) (a := 0) (b := 2) rfl rfl (by omega) (by omega) (by omega) h0 (show 17 ≤ fu by omega)
      obtain ⟨y, rw2, dg2, oft2, m, l1, l2, l3, l4, l5⟩ := P_rcnt_i hL hR f0 hf5 (hp p (List.mem_of_getElem? hpi)) (i := i) (by omega) kn (nI ps.length) (fun y27 rw28 dg29 oft30 => f_X5_factorise_l22 kc fu kk mn md kn (nI ps.length) n (nI i + 1) rw28 dg29 oft30) fu hfu 5 0 fu rw1 dg1 (upd oft i 0) f (by omega) (RX_fr k2 (by simp; omega) (hPF i p hpi)) k3 (by rw [Lean.Grind.Semiring.pow_zero]; grind) pk_us (by omega)
      have f2 : FR [2, 3] rw dg rw2 dg2 := FR_mo (FR_tr k2 l5) (fun r hr => by simp at hr ⊢; omega)
      obtain ⟨y2, rw3, dg3, oft3, n1, n2, n3⟩ := ih (i + 1) n rw2 dg2 oft2 (by omega) (PF_fr f2 (fun i hi => by simp; omega) hPF) (RX_fr f2 (by decide) h0) (fun j p' hj hp' => by
        by_cases q : j = i
        · rw [q, hpi] at hp'
          rw [← Option.some.inj hp', q]
          exact ⟨m, l2, l3⟩
        · obtain ⟨m', a1, a2⟩ := hC' j p' (by omega) hp'
          exact ⟨m', a1, by rw [l4 j q, pk_un q]; exact a2⟩) (by omega)
      refine ⟨y2, rw3, dg3, oft3, ?_, n2, FR_mo (FR_tr f2 n3) (fun r hr => by simp at hr ⊢; omega)⟩
      rw [f_X5_factorise_l22, if_neg (nI_ge (by omega) (by omega)), if_neg (nI_in (by omega) (by decide)), k1, Option.bind_some, nI_clamp (by omega)]
      refine l1.trans ?_
      rw [nI_1]
      exact n1
/-- what the reference has found -/
def FDR {K R : Type} [Lean.Grind.CommRing K] [Lean.Grind.CommRing R] (cd : K → Int32) (cf : R → Nat → K) (deg : R → Nat) (mon : R → Prop) (D : R → R) (rw dg : (Nat → Int32)) (fc : Int32) (oft : (Nat → Int32)) (f : R) : Prop := ∃ r ps, RT mon D f r ∧ FP cd cf deg mon r ps ∧ PF cd cf rw dg ps ∧ ps.length ≤ 5 ∧ fc = nI ps.length ∧ ∀ i p, ps[i]? = some p → ∃ m, MLT f p m ∧ oft i = nI m
set_option maxHeartbeats 1000000 in
theorem P_rfact {K R : Type} [Lean.Grind.CommRing K] [Lean.Grind.CommRing R] {cd : K → Int32} {E : Nat → Int32} {kk : Int32} {md : Nat → Int32} {mn : Int64} {q k : Nat} {T : K} (hL : FL cd E kk md mn q k T) {cf : R → Nat → K} {deg : R → Nat} {mon : R → Prop} {X : R} {Cc : K → R} {Kl : List R} (hR : PR cf deg mon X Cc Kl q) {D : R → R} (hD : DR cf D) {rw dg : (Nat → Int32)} (fc : Int32) (oft : (Nat → Int32)) {f : R} (hf : RX cd rw dg 0 (cf f)) (f0 : ¬ f = 0) (hs : sq (cf f) ≤ 6) {fu : Nat} (hfu : 20000000 ≤ fu) : ∃ rw' dg' fc' oft', f_X5_factorise fu kk mn md rw dg 0 fc oft = some (rw', dg', 1, fc', oft') ∧ FDR cd cf deg mon D rw' dg' fc' oft' f ∧ FR (1 :: LS0) rw dg rw' dg' := by
  have hE := pr_eu hR
  have hC := hL.1
  have df : deg f ≤ 5 := by have := pr_sq hR f0; omega
  obtain ⟨rw1, dg1, r, a1, a2, a3, a4⟩ := P_rroot hC hR hL.2.1 hD hf f0 (show 64 ≤ fu by omega)
  obtain ⟨L, b1, b2, b3, b4⟩ := rt_list hE hR.1.2.1 (pr_lei hR hD) f0 a4
  have dL : deg (lp L) ≤ 5 := by rw [b3]; omega
  rw [← b3] at a3
  obtain ⟨rw2, dg2, ps, c1, c2, c3, c4⟩ := P_rsplit hL hR b1 b2 dL a3 fc hfu
  have pnd := c2.symm.nodup b2
  have pl5 : ps.length ≤ 5 := by
    have := lp_len hE b1
    rw [c2.length_eq]; omega
  have d5 : ∀ p ∈ ps, sq (cf p) ≤ 6 := fun p hp => by
    have hpL := c2.mem_iff.mp hp
    have h1 := dv_deg hE (hE.2.2.2.2.2.2.1 _ (lp_monI hE b1)) (lp_mem L hpL)
    rw [(pr_mo hR (b1 p hpL).1).2]; omega
  obtain ⟨rw3, dg3, ps3, e1, e2, e3, e4, e5⟩ := P_rord hC hR c3 pnd pl5 d5 (show 18 ≤ fu by omega)
  have ir3 : ∀ p ∈ ps3, irr deg mon p := fun p hp => b1 p (c2.mem_iff.mp (e3.mem_iff.mp hp))
  have pl3 : ps3.length = ps.length := e3.length_eq
  have f3 : FR (1 :: LS0) rw dg rw3 dg3 := FR_mo (FR_tr a2 (FR_tr c4 e5)) (fun r hr => by
    rcases List.mem_append.mp hr with h | h
    · by_cases z : r = 1
      · rw [z]; exact List.mem_cons_self
      · exact List.mem_cons_of_mem _ (LS_of (by simp at h; omega))
    · exact List.mem_cons_of_mem _ ((List.mem_append.mp h).elim id id))
  obtain ⟨y, rw4, dg4, oft4, g1, g2, g3⟩ := P_rcnt_o hL hR f0 df ir3 (by omega) 0 (fun y31 rw32 dg33 oft34 => some (rw32, dg33, 1, nI ps.length, oft34)) fu (by omega) 5 0 fu rw3 dg3 oft (by omega) e2 (RX_fr f3 (by decide) hf) (fun j p hj _ => by omega) (by omega)
  rw [pl3] at g1
  refine ⟨rw4, dg4, nI ps.length, oft4, ?_, ⟨r, ps3, a4, ⟨ir3, ?_, e4⟩, PF_fr g3 (fun i hi => by simp; omega) e2, by omega, by rw [pl3], g2⟩, FR_mo (FR_tr f3 g3) (fun r hr => ?_)⟩
  · unfold f_X5_factorise
    rw [if_pos rfl, a1, Option.bind_some]
    show (f_X5_split fu kk mn md rw1 dg1 fc).bind _ = _
    rw [c1, Option.bind_some]
    show (f_X5_order fu rw2 dg2 (nI ps.length)).bind _ = _
    rw [e1, Option.bind_some]
    exact g1
  · rw [lp_perm e3, lp_perm c2, b3]
  · rcases List.mem_append.mp hr with h | h
    · exact h
    · exact List.mem_cons_of_mem _ (LS_of (by simp at h; omega))
theorem P_rcom_i {K R : Type} [Lean.Grind.CommRing K] [Lean.Grind.CommRing R] {cf : R → Nat → K} {deg : R → Nat} {mon : R → Prop} {X : R} {Cc : K → R} {Kl : List R} {q : Nat} (hR : PR cf deg mon X Cc Kl q) {cd : K → Int32} {ps : List R} (hp : ∀ p ∈ ps, irr deg mon p ∧ deg p ≤ 5) (hp5 : ps.length ≤ 5) {rw dg : (Nat → Int32)} (hPF : PF cd cf rw dg ps) {m : Nat} (hm : m ≤ 100) (kc : Int32 → Int32 → Option (Int32 × Int32 × (Nat → Int32) × (Nat → Int32) × Int32 × Int32 × (Nat → Int32))) (fu : Nat) (th kk : Int32) (mn : Int64) (md : (Nat → Int32)) (kn : Int32) (oft : (Nat → Int32)) : ∀ (e i n : Nat) (v : Int32), e + i = ps.length → e < n → ∃ v' y, f_X5_splitting_l30 kc fu th kk mn md rw dg kn (nI ps.length) oft (nI m) n v (nI i) = kc v' y ∧ (¬ v' = 0 ↔ ¬ v = 0 ∨ ∃ j p, i ≤ j ∧ ps[j]? = some p ∧ ¬ deg p ∣ m) := by
  intro e
  induction e with
  | zero =>
    intro i n v hi hn
    obtain ⟨n, rfl⟩ : ∃ n', n = n' + 1 := ⟨n - 1, by omega⟩
    refine ⟨v, nI i, by rw [f_X5_splitting_l30, if_pos (nI_le (by omega) (by omega))], fun q => Or.inl q, fun q => ?_⟩
    rcases q with q | ⟨j, p, hj, hjp, _⟩
    · exact q
    · have := (List.getElem?_eq_some_iff.mp hjp).1
      omega
  | succ e ih =>
    intro i n v hi hn
    obtain ⟨n, rfl⟩ : ∃ n', n = n' + 1 := ⟨n - 1, by omega⟩
    obtain ⟨p, hpi⟩ : ∃ p, ps[i]? = some p := ⟨ps[i]'(by omega), List.getElem?_eq_getElem (by omega)⟩
    obtain ⟨ip, dp⟩ := hp p (List.mem_of_getElem? hpi)
    have d1 := ip.2.1
    have i20 : (20 : Int32) + nI i = nI (20 + i) := by rw [show (20 : Int32) = nI 20 from rfl, nI_add]
    have fin : ∀ v1 : Int32, (¬ v1 = 0 ↔ ¬ v = 0 ∨ ¬ deg p ∣ m) → ∃ v' y, f_X5_splitting_l30 kc fu th kk mn md rw dg kn (nI ps.length) oft (nI m) n v1 (nI i + 1) = kc v' y ∧ (¬ v' = 0 ↔ ¬ v = 0 ∨ ∃ j p, i ≤ j ∧ ps[j]? = some p ∧ ¬ deg p ∣ m) := by
      intro v1 hv
      obtain ⟨v', y, h1, h2⟩ := ih (i + 1) n v1 (by omega) (by omega)
      rw [nI_1]
      refine ⟨v', y, h1, h2.trans ⟨fun q => ?_, fun q => ?_⟩⟩
      · rcases q with q | ⟨j, p', hj, hjp, hd⟩
        · rcases hv.mp q with q | q
          · exact Or.inl q
          · exact Or.inr ⟨i, p, Nat.le_refl _, hpi, q⟩
        · exact Or.inr ⟨j, p', by omega, hjp, hd⟩
      · rcases q with q | ⟨j, p', hj, hjp, hd⟩
        · exact Or.inl (hv.mpr (Or.inl q))
        · by_cases c : j = i
          · rw [c, hpi] at hjp
            exact Or.inl (hv.mpr (Or.inr (by rw [Option.some.inj hjp]; exact hd)))
          · exact Or.inr ⟨j, p', by omega, hjp, hd⟩
    rw [f_X5_splitting_l30, if_neg (nI_ge (by omega) (by omega))]
    by_cases c : v = 0
    · have dgi : dg (20 + i) = nI (deg p) := by rw [(hPF i p hpi).2, (pr_mo hR ip.1).2, dI_s]
      have jr : jrem (nI m) (nI (deg p)) = nI (m % deg p) := pk_rem (by omega) d1 (by omega)
      rw [if_pos c, i20, if_neg (in25 (by omega)), nI_clamp (by omega), dgi, if_neg (nI_ne0 d1 (by omega)), jr]
      have ml : m % deg p < deg p := Nat.mod_lt _ d1
      by_cases c2 : m % deg p = 0
      · rw [if_pos (by rw [c2]; rfl), Option.bind_some, Option.bind_some]
        exact fin 0 ⟨fun q => absurd rfl q, fun q => q.elim (fun q => absurd c q) (fun q => absurd (Nat.dvd_of_mod_eq_zero c2) q)⟩
      · rw [if_neg (nI_ne0 (by omega) (by omega)), Option.bind_some, Option.bind_some]
        exact fin 1 ⟨fun _ => Or.inr (fun q => c2 (Nat.mod_eq_zero_of_dvd q)), fun _ => by decide⟩
    · rw [if_neg c, Option.bind_some]
      exact fin 1 ⟨fun _ => Or.inl c, fun _ => by decide⟩
theorem P_rcom_o {K R : Type} [Lean.Grind.CommRing K] [Lean.Grind.CommRing R] {cf : R → Nat → K} {deg : R → Nat} {mon : R → Prop} {X : R} {Cc : K → R} {Kl : List R} {q : Nat} (hR : PR cf deg mon X Cc Kl q) {cd : K → Int32} {ps : List R} (hp : ∀ p ∈ ps, irr deg mon p ∧ deg p ≤ 5) (hp5 : ps.length ≤ 5) {rw dg : (Nat → Int32)} (hPF : PF cd cf rw dg ps) (kc : Int32 → Int32 → Option (Int32 × Int32 × (Nat → Int32) × (Nat → Int32) × Int32 × Int32 × (Nat → Int32))) (fu : Nat) (hfu : 18 ≤ fu) (th kk : Int32) (mn : Int64) (md : (Nat → Int32)) (kn : Int32) (oft : (Nat → Int32)) : ∀ (e m n : Nat) (v : Int32), ¬ v = 0 → e + m = 60 → 1 ≤ m → (∀ j, 1 ≤ j → j < m → ¬ ∀ p ∈ ps, deg p ∣ j) → e + 1 < n → ∃ r y, CDG deg ps r ∧ f_X5_splitting_l22 kc fu th kk mn md rw dg kn (nI ps.length) oft n (nI m) v = kc (nI r) y := by
  intro e
  have all60 : ∀ p ∈ ps, deg p ∣ 60 := fun p hp' => by
    have a := hp p hp'
    have d1 := a.1.2.1
    have d2 := a.2
    have : deg p = 1 ∨ deg p = 2 ∨ deg p = 3 ∨ deg p = 4 ∨ deg p = 5 := by omega
    rcases this with h | h | h | h | h <;> rw [h] <;> decide
  induction e with
  | zero =>
    intro m n v hv hm h1 hj hn
    obtain ⟨n, rfl⟩ : ∃ n', n = n' + 2 := ⟨n - 2, by omega⟩
    have em : m = 60 := by omega
    subst em
    obtain ⟨v', y, k1, k2⟩ := P_rcom_i hR hp hp5 hPF (m := 60) (by omega) (fun y16 y17 => ((if y16 = 0 then some 0 else some 1 : Option Int32)).bind (fun w18 => nm (nI 60 + w18) (fun v20 => f_X5_splitting_l22 kc fu th kk mn md rw dg kn (nI ps.length) oft (n + 1) v20 y16))) fu th kk mn md kn oft ps.length 0 fu 0 (by omega) (by omega)
    have v0 : v' = 0 := Classical.byContradiction (fun q => by
      rcases k2.mp q with q | ⟨j, p, _, hjp, hd⟩
      · exact absurd rfl q
      · exact hd (all60 p (List.mem_of_getElem? hjp)))
    refine ⟨60, v', ⟨h1, by omega, all60, hj⟩, ?_⟩
    rw [f_X5_splitting_l22, if_neg hv]
    refine (show f_X5_splitting_l30 _ fu th kk mn md rw dg kn (nI ps.length) oft (nI 60) fu 0 0 = _ from k1).trans ?_
    rw [if_pos v0, Option.bind_some]
    simp only [nm]
    rw [Int32.add_zero, f_X5_splitting_l22, if_pos v0]
  | succ e ih =>
    intro m n v hv hm h1 hj hn
    obtain ⟨n, rfl⟩ : ∃ n', n = n' + 2 := ⟨n - 2, by omega⟩
    obtain ⟨v', y, k1, k2⟩ := P_rcom_i hR hp hp5 hPF (m := m) (by omega) (fun y16 y17 => ((if y16 = 0 then some 0 else some 1 : Option Int32)).bind (fun w18 => nm (nI m + w18) (fun v20 => f_X5_splitting_l22 kc fu th kk mn md rw dg kn (nI ps.length) oft (n + 1) v20 y16))) fu th kk mn md kn oft ps.length 0 fu 0 (by omega) (by omega)
    have st : f_X5_splitting_l22 kc fu th kk mn md rw dg kn (nI ps.length) oft (n + 2) (nI m) v = ((if v' = 0 then some 0 else some 1 : Option Int32)).bind (fun w18 => nm (nI m + w18) (fun v20 => f_X5_splitting_l22 kc fu th kk mn md rw dg kn (nI ps.length) oft (n + 1) v20 v')) := by
      rw [f_X5_splitting_l22, if_neg hv]
      exact k1
    by_cases c : v' = 0
    · refine ⟨m, v', ⟨h1, by omega, fun p hp' => ?_, hj⟩, ?_⟩
      · obtain ⟨j, hjp⟩ := List.mem_iff_getElem?.mp hp'
        exact Classical.byContradiction (fun q => (k2.mpr (Or.inr ⟨j, p, Nat.zero_le _, hjp, q⟩)) c)
      · rw [st, if_pos c, Option.bind_some]
        simp only [nm]
        rw [Int32.add_zero, f_X5_splitting_l22, if_pos c]
    · obtain ⟨r, y2, t1, t2⟩ := ih (m + 1) (n + 1) v' c (by omega) (by omega) (fun j j1 j2 => by
        by_cases q : j = m
        · rw [q]
          rcases k2.mp c with q | ⟨j, p, _, hjp, hd⟩
          · exact absurd rfl q
          · exact fun all => hd (all p (List.mem_of_getElem? hjp))
        · exact hj j j1 (by omega)) (by omega)
      refine ⟨r, y2, t1, ?_⟩
      rw [st, if_neg c, Option.bind_some]
      simp only [nm]
      rw [nI_1]
      exact t2
