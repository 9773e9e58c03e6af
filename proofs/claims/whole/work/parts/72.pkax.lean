/-! The polynomials over a finite field are such a ring. -/
def pC {K : Type} [Lean.Grind.CommRing K] (a : K) : PK K := ⟨pc a, en_pc a⟩
theorem en_xp {K : Type} [Lean.Grind.CommRing K] (n : Nat) : ∃ k, dl (xp (K := K) n) k := ⟨n + 1, fun i hi => by simp [xp, show ¬ i = n by omega]⟩
def pX {K : Type} [Lean.Grind.CommRing K] : PK K := ⟨xp 1, en_xp 1⟩
theorem fermat_q {K : Type} [Lean.Grind.CommRing K] (hK : fld K) {L : List K} (hn : L.Nodup) (hl : ∀ x, x ∈ L) (a : K) : a ^ L.length = a := by
  have hd : ∀ a b : K, a * b = 0 → a = 0 ∨ b = 0 := fun a b h => fld_dom hK h
  obtain ⟨s, t, e⟩ := List.append_of_mem (hl 0)
  have hp : L.Perm (0 :: (s ++ t)) := by rw [e]; exact List.perm_middle
  have hn2 := hp.nodup_iff.mp hn
  rw [List.nodup_cons] at hn2
  have hm : ∀ x, x ∈ s ++ t ↔ ¬ x = 0 := fun x => by
    constructor
    · intro h e0
      exact hn2.1 (e0 ▸ h)
    · intro h
      have h1 := hp.mem_iff.mp (hl x)
      rcases List.mem_cons.mp h1 with h2 | h2
      · exact absurd h2 h
      · exact h2
  have hlen : L.length = (s ++ t).length + 1 := by rw [hp.length_eq]; rfl
  rw [hlen, Lean.Grind.Semiring.pow_succ]
  by_cases ha : a = 0
  · rw [ha]; grind
  · rw [fermat hd hK.1 hn2.2 hm ha]; grind
theorem pc_mul {K : Type} [Lean.Grind.CommRing K] (a b : K) : pm (pc a) (pc b) = pc (a * b) := by
  rw [pm_pc]
  funext i
  by_cases h : i = 0 <;> simp [pc, h]
  grind
theorem pdeg_le {K : Type} [Lean.Grind.CommRing K] {f : PK K} {n : Nat} (h : dl f.1 (n + 1)) : pdeg f ≤ n := by
  rcases dl_top h with h1 | ⟨e, h1, h2, h3⟩
  · rw [pdeg_zero h1]; omega
  · rw [pdeg_of h2 h3]; omega
theorem pdeg_dl {K : Type} [Lean.Grind.CommRing K] (f : PK K) : dl f.1 (pdeg f + 1) := by
  rcases pk_top f with h1 | ⟨e, h2, h3⟩
  · exact fun i _ => h1 i
  · rw [pdeg_of h2 h3]; exact h3
theorem pdeg_pC {K : Type} [Lean.Grind.CommRing K] (a : K) : pdeg (pC a) = 0 := by
  have := pdeg_le (f := pC a) (n := 0) (fun i hi => by show pc a i = 0; simp [pc, show ¬ i = 0 by omega])
  omega
theorem pC_of {K : Type} [Lean.Grind.CommRing K] {f : PK K} (h : pdeg f = 0) : f = pC (f.1 0) := by
  have h1 := pdeg_dl f
  rw [h] at h1
  refine pk_ext (fun i => ?_)
  show f.1 i = pc (f.1 0) i
  by_cases hi : i = 0
  · simp [pc, hi]
  · rw [h1 i (by omega)]; simp [pc, hi]
theorem pmon_deg {K : Type} [Lean.Grind.CommRing K] (hK : fld K) {f : PK K} (h : pmon f) : mo f.1 (pdeg f) := by
  obtain ⟨d, h1, h2⟩ := h
  have : pdeg f = d := pdeg_of (by rw [h1]; exact hK.1) h2
  rw [this]
  exact ⟨h1, h2⟩
theorem mo_deg {K : Type} [Lean.Grind.CommRing K] (hK : fld K) {f : PK K} {d : Nat} (h : mo f.1 d) : pmon f ∧ pdeg f = d := ⟨⟨d, h⟩, pdeg_of (by rw [h.1]; exact hK.1) h.2⟩
theorem pk_ax {K : Type} [Lean.Grind.CommRing K] (hK : fld K) {L : List K} (hn : L.Nodup) (hl : ∀ x, x ∈ L) {q : Nat} (hq : L.length = q) (h101 : (101 : K) = 0) (hq3 : q = 101 ∨ q = 10201 ∨ q = 1030301) : @AX (PK K) (pkRing K) pdeg pmon pX (L.map pC) q := by
  letI := pkRing K
  have mulc : ∀ (a b : PK K) (i : Nat), (a * b).1 i = pm a.1 b.1 i := fun _ _ _ => rfl
  have addc : ∀ (a b : PK K) (i : Nat), (a + b).1 i = a.1 i + b.1 i := fun _ _ _ => rfl
  have subc : ∀ (a b : PK K) (i : Nat), (a - b).1 i = a.1 i - b.1 i := fun _ _ _ => rfl
  have zc : ∀ i, (0 : PK K).1 i = 0 := fun i => pk_zero i
  have cinj : ∀ a b : K, pC a = pC b → a = b := fun a b h => by
    have h1 : (pC a).1 0 = (pC b).1 0 := by rw [h]
    simpa [pC, pc] using h1
  have cpow : ∀ (a : K) (n : Nat), (pC a) ^ n = pC (a ^ n) := fun a n => by
    induction n with
    | zero => rw [Lean.Grind.Semiring.pow_zero, Lean.Grind.Semiring.pow_zero]; rfl
    | succ n ih =>
      rw [Lean.Grind.Semiring.pow_succ, ih, Lean.Grind.Semiring.pow_succ]
      exact Subtype.ext (pc_mul _ _)
  refine ⟨pk_eu hK, fun a ha => ?_, ⟨fun a => ⟨fun h => ?_, fun h => ?_⟩, ?_, ?_⟩, fun a ha => ?_, fun c hc => ?_, fun a b ha hb => ⟨?_, ?_, ?_⟩, fun z => ?_, ?_, hq3, fun a b ha hb => ?_, fun a b ha hb hab hne => ?_, fun a b => ?_⟩
  · obtain ⟨e, h1, h2⟩ := pk_ne ha
    obtain ⟨w, hw⟩ := hK.2 (a.1 e) h1
    refine ⟨pC w, pC (a.1 e), Subtype.ext ?_, pdeg_pC w, ⟨e, ?_, ?_⟩⟩
    · show pm (pc w) (pc (a.1 e)) = pc 1
      rw [pc_mul, show w * a.1 e = 1 by grind]
    · show pm (pc w) a.1 e = 1
      rw [pm_pc]; grind
    · intro i hi
      show pm (pc w) a.1 i = 0
      rw [pm_pc]
      show w * a.1 i = 0
      rw [h2 i hi]; grind
  · obtain ⟨x, -, rfl⟩ := List.mem_map.mp h
    exact pdeg_pC x
  · exact List.mem_map.mpr ⟨a.1 0, hl _, (pC_of h).symm⟩
  · have : ∀ m : List K, m.Nodup → (m.map pC).Nodup := by
      intro m
      induction m with
      | nil => intro _; exact List.nodup_nil
      | cons x m ih =>
        intro h
        rw [List.nodup_cons] at h
        rw [List.map_cons, List.nodup_cons]
        refine ⟨fun hm => ?_, ih h.2⟩
        obtain ⟨y, hy, e⟩ := List.mem_map.mp hm
        exact h.1 (cinj y x e ▸ hy)
    exact this L hn
  · rw [List.length_map]; exact hq
  · rw [pC_of ha, cpow, ← hq, fermat_q hK hn hl]
  · have h1 : mo (pX - c).1 1 := by
      rw [pC_of hc]
      refine ⟨?_, fun i hi => ?_⟩
      · show xp 1 1 - pc (c.1 0) 1 = 1
        simp [xp, pc]; grind
      · show xp 1 i - pc (c.1 0) i = 0
        simp [xp, pc, show ¬ i = 1 by omega, show ¬ i = 0 by omega]; grind
    exact mo_deg hK h1
  · have := pdeg_le (f := a + b) (n := 0) (fun i hi => by
      have h1 := pdeg_dl a
      have h2 := pdeg_dl b
      rw [ha] at h1
      rw [hb] at h2
      rw [addc, h1 i hi, h2 i hi]; grind)
    omega
  · rw [pC_of ha, pC_of hb]
    have : pC (a.1 0) * pC (b.1 0) = pC (a.1 0 * b.1 0) := Subtype.ext (pc_mul _ _)
    rw [this]
    exact pdeg_pC _
  · have := pdeg_le (f := a - b) (n := 0) (fun i hi => by
      have h1 := pdeg_dl a
      have h2 := pdeg_dl b
      rw [ha] at h1
      rw [hb] at h2
      rw [subc, h1 i hi, h2 i hi]; grind)
    omega
  · have hφ : hom (fun a : K => pC a) := by
      refine ⟨rfl, rfl, fun a b => pk_ext (fun i => ?_), fun a b => Subtype.ext (pc_mul a b).symm⟩
      show pc (a + b) i = pc a i + pc b i
      by_cases h : i = 0 <;> simp [pc, h]
      grind
    refine ⟨fun f => evn (fun a : K => pC a) z f.1 (pdeg f + 1), fun a b => ?_, fun a b => ?_, ?_, fun c hc => ?_⟩
    · have h1 := pdeg_dl a
      have h2 := pdeg_dl b
      have h3 := pdeg_dl (a + b)
      show evn (fun a : K => pC a) z (a + b).1 (pdeg (a + b) + 1) = evn (fun a : K => pC a) z a.1 (pdeg a + 1) + evn (fun a : K => pC a) z b.1 (pdeg b + 1)
      rw [← evn_big hφ h1 (m := pdeg a + 1 + (pdeg b + 1) + (pdeg (a + b) + 1)) (by omega), ← evn_big hφ h2 (m := pdeg a + 1 + (pdeg b + 1) + (pdeg (a + b) + 1)) (by omega), ← evn_big hφ h3 (m := pdeg a + 1 + (pdeg b + 1) + (pdeg (a + b) + 1)) (by omega), ← evn_add hφ]
      rfl
    · have h1 := pdeg_dl a
      have h2 := pdeg_dl b
      have h3 := pdeg_dl (a * b)
      show evn (fun a : K => pC a) z (a * b).1 (pdeg (a * b) + 1) = evn (fun a : K => pC a) z a.1 (pdeg a + 1) * evn (fun a : K => pC a) z b.1 (pdeg b + 1)
      rw [← evn_big hφ h3 (m := pdeg a + 1 + (pdeg b + 1) + (pdeg (a * b) + 1)) (by omega)]
      exact evn_mul hφ z (pdeg a + 1) a.1 h1 b.1 (pdeg b + 1) _ h2 (by omega)
    · have hX : dl (pX (K := K)).1 2 := fun i hi => by show xp 1 i = 0; simp [xp, show ¬ i = 1 by omega]
      show evn (fun a : K => pC a) z (pX (K := K)).1 (pdeg (pX (K := K)) + 1) = z
      rw [← evn_big hφ (pdeg_dl (pX (K := K))) (m := pdeg (pX (K := K)) + 1 + 2) (by omega), evn_big hφ hX (m := pdeg (pX (K := K)) + 1 + 2) (by omega)]
      unfold evn
      rw [sm, sm, sm]
      show 0 + pC (xp (K := K) 1 0) * z ^ 0 + pC (xp (K := K) 1 1) * z ^ 1 = z
      have e0 : pC (xp (K := K) 1 0) = (0 : PK K) := by show pC _ = pC 0; simp [xp]
      have e1 : pC (xp (K := K) 1 1) = (1 : PK K) := by show pC _ = pC 1; simp [xp]
      rw [e0, e1, Lean.Grind.Semiring.pow_succ, Lean.Grind.Semiring.pow_zero]; grind
    · show evn (fun a : K => pC a) z c.1 (pdeg c + 1) = c
      rw [hc]
      unfold evn
      rw [sm, sm, Lean.Grind.Semiring.pow_zero]
      have := pC_of hc
      grind
  · show pC (OfNat.ofNat 101 : K) = pC (OfNat.ofNat 0)
    have : (OfNat.ofNat 101 : K) = OfNat.ofNat 0 := h101
    rw [this]
  · have h1 := pmon_deg hK ha
    have h2 := pdeg_dl b
    have h3 : mo (a + b).1 (pdeg a) := ⟨by rw [addc, h1.1, h2 _ (by omega)]; grind, fun i hi => by rw [addc, h1.2 i hi, h2 i (by omega)]; grind⟩
    exact mo_deg hK h3
  · have h1 := pmon_deg hK ha
    have h2 := pmon_deg hK hb
    have h3 : dl (a - b).1 (pdeg a) := fun i hi => by
      rw [subc]
      by_cases e : i = pdeg a
      · rw [e, h1.1, hab, h2.1]; grind
      · rw [h1.2 i (by omega), h2.2 i (by omega)]; grind
    rcases dl_top h3 with h4 | ⟨e, h4, h5, h6⟩
    · exact absurd (pk_ext (fun i => by have := h4 i; rw [subc] at this; grind)) hne
    · rw [pdeg_of h5 h6]; exact h4
  · refine pdeg_le (fun i hi => ?_)
    rw [addc, pdeg_dl a i (by omega), pdeg_dl b i (by omega)]; grind
