/-! The three fields and the polynomials over them keep all that was asked. -/
theorem pk_pr {K : Type} [Lean.Grind.CommRing K] (hK : fld K) {Kl : List (PK K)} {q : Nat} (h : @AX (PK K) (pkRing K) pdeg pmon pX Kl q) : @PR K (PK K) _ (pkRing K) (fun a => a.1) pdeg pmon pX pC Kl q := by
  letI := pkRing K
  refine ⟨h, hK, fun a b e => pk_ext e, fun a => a.2, fun f n hf => ⟨⟨f, n, hf⟩, fun _ => rfl⟩, fun _ _ _ => rfl, fun _ _ _ => rfl, fun _ _ _ => rfl, fun i => pk_zero i, fun _ => rfl, fun _ => rfl, fun _ _ => rfl, fun a e => ?_, fun a e h => ?_, fun a => Iff.rfl⟩
  · refine pdeg_zero (fun i => ?_)
    obtain ⟨n, hn⟩ := a.2
    rcases dl_top hn with h1 | ⟨d, h1, h2, h3⟩
    · exact h1 i
    · rw [sq_of h2 h3] at e
      omega
  · obtain ⟨n, hn⟩ := a.2
    rcases dl_top hn with h1 | ⟨d, h1, h2, h3⟩
    · rw [sq_0 h1] at h
      omega
    · rw [sq_of h2 h3] at h
      rw [pdeg_of h2 h3]
      omega
theorem ex_D {K R : Type} [Lean.Grind.CommRing K] [Lean.Grind.CommRing R] {cf : R → Nat → K} {deg : R → Nat} {mon : R → Prop} {X : R} {Cc : K → R} {Kl : List R} {q : Nat} (hR : PR cf deg mon X Cc Kl q) : ∃ D, DR cf D := by
  have h : ∀ a : R, ∃ b : R, cf b = pd (cf a) := fun a => by
    obtain ⟨n, hn⟩ := pr_en hR a
    exact pr_ex hR (n := n) (fun i hi => by
      show OfNat.ofNat (i + 1) * cf a (i + 1) = 0
      rw [hn (i + 1) (by omega)]; grind)
  exact ⟨fun a => (h a).choose, fun a => (h a).choose_spec⟩
theorem ex_F {K R : Type} [Lean.Grind.CommRing K] [Lean.Grind.CommRing R] {cf : R → Nat → K} {deg : R → Nat} {mon : R → Prop} {X : R} {Cc : K → R} {Kl : List R} {q : Nat} (hR : PR cf deg mon X Cc Kl q) : ∃ F, MR cf F := by
  have h : ∀ a : R, ∃ b : R, cf b = fun t => (cf a t) ^ 101 := fun a => by
    obtain ⟨n, hn⟩ := pr_en hR a
    exact pr_ex hR (n := n) (fun i hi => by
      show cf a i ^ 101 = 0
      rw [hn i hi]
      rw [show 101 = 100 + 1 from rfl, Lean.Grind.Semiring.pow_succ]; grind)
  exact ⟨fun a => (h a).choose, fun a => (h a).choose_spec⟩
/-- a field, the polynomials over it, and how class and reference hold them -/
def SY {K R : Type} [Lean.Grind.CommRing K] [Lean.Grind.CommRing R] (cd : K → Int32) (E : (Nat → Int32)) (kk : Int32) (md : (Nat → Int32)) (mn : Int64) (q k : Nat) (T : K) (cf : R → Nat → K) (deg : R → Nat) (mon : R → Prop) (X : R) (Cc : K → R) (Kl : List R) (D F : R → R) : Prop := FL cd E kk md mn q k T ∧ PR cf deg mon X Cc Kl q ∧ DR cf D ∧ MR cf F
theorem z_fer (x : Z1) : x ^ 101 = x := by
  have := fermat_q z_fld zl_nd zl_mem x
  rw [zl_len] at this
  exact this
theorem fx1 {E : (Nat → Int32)} {mn : Int64} (h1 : E 1 = nI 101) (hm : mn = lN 101) : FX Z1 101 E mn := ⟨z_fld, z_fer, Or.inl rfl, h1, hm⟩
theorem fl1 {E md : (Nat → Int32)} {mn : Int64} {m0 T : Z1} (h0 : E 0 = nI 1) (h1 : E 1 = nI 101) (hm : mn = lN 101) (g0 : md 0 = nI m0.val) (h5 : E 5 = e3 T 0 0) (h6 : E 6 = e3 (T ^ 101) 0 0) (h7 : E 7 = e3 (T ^ 101 * T ^ 101) 0 0) : FL (fun x : Z1 => e3 x 0 0) E (nI 1) md mn 101 1 T := by
  refine ⟨cx1 g0, fx1 h1 hm, by decide, ⟨h0, rfl, by omega, by omega, rfl⟩, ⟨h5, h6, h7⟩, fun a => ⟨a, 0, 0, by grind, z_fer a, z_fer 0, z_fer 0, e3_0 a 0 0, e3_1 a 0 0, e3_2 a 0 0⟩, fun a => ⟨a.val, a.isLt, rfl⟩, fun n hn => ⟨⟨n, hn⟩, rfl⟩⟩
theorem k2_p {m0 m1 : Z1} (x : Z1) (n : Nat) : letI := k2Ring m0 m1; (show K2 m0 m1 from (x, 0)) ^ n = (show K2 m0 m1 from (x ^ n, 0)) := by
  show rp (k2m m0 m1) (1, 0) (x, 0) n = (x ^ n, 0)
  induction n with
  | zero => rw [Lean.Grind.Semiring.pow_zero]; rfl
  | succ n ih =>
    rw [rp, ih, Lean.Grind.Semiring.pow_succ]
    apply Prod.ext <;> simp only [k2m] <;> grind
theorem k2_f {m0 m1 : Z1} (h : ∀ x : Z1, ¬ x * x + m1 * x + m0 = 0) : letI := k2Ring m0 m1; ∀ a : K2 m0 m1, a ^ 10201 = a := by
  letI := k2Ring m0 m1
  intro a
  have key : ∀ n, (show List (K2 m0 m1) from prl zl zl).length = n → a ^ n = a := fun n hn => hn ▸ fermat_q (K := K2 m0 m1) (k2_fld h) (L := prl zl zl) (prl_nd zl_nd zl zl_nd) (prl_mem zl_mem zl_mem) a
  exact key 10201 len2
theorem fl2 {E md : (Nat → Int32)} {mn : Int64} {m0 m1 : Z1} (h : ∀ x : Z1, ¬ x * x + m1 * x + m0 = 0) (h0 : E 0 = nI 2) (h1 : E 1 = nI 10201) (h2 : E 2 = nI m0.val) (h3 : E 3 = nI m1.val) (hm : mn = lN 10201) (g0 : md 0 = nI m0.val) (g1 : md 1 = nI m1.val) : letI := k2Ring m0 m1; ∀ T : K2 m0 m1, T = ((0, 1) : Z1 × Z1) → E 5 = e3 T.1 T.2 0 → E 6 = e3 (T ^ 101).1 (T ^ 101).2 0 → E 7 = e3 (T ^ 101 * T ^ 101).1 (T ^ 101 * T ^ 101).2 0 → FL (fun p : K2 m0 m1 => e3 p.1 p.2 0) E (nI 2) md mn 10201 2 T := by
  letI := k2Ring m0 m1
  intro T hT h5 h6 h7
  have pw : ∀ x : Z1, (show K2 m0 m1 from (x, 0)) ^ 101 = (show K2 m0 m1 from (x, 0)) := fun x => by
    refine (k2_p x 101).trans ?_
    rw [z_fer]
  refine ⟨cx2 h0 h2 h3 g0 g1, ⟨k2_fld h, k2_f h, Or.inr (Or.inl rfl), h1, hm⟩, rfl, ⟨h0, rfl, by omega, by omega, rfl⟩, ⟨h5, h6, h7⟩, fun a => ⟨(show K2 m0 m1 from (a.1, 0)), (show K2 m0 m1 from (a.2, 0)), (show K2 m0 m1 from (0, 0)), ?_, pw _, pw _, pw _, e3_0 a.1 a.2 0, e3_1 a.1 a.2 0, e3_2 a.1 a.2 0⟩, fun a => ⟨a.1.val + 101 * a.2.val + 10201 * (0 : Z1).val, ?_, rfl⟩, fun n hn => ⟨(show K2 m0 m1 from (zc n, zc (n / 101))), ?_⟩⟩
  · rw [hT]
    show a = (a.1 + ((k2m m0 m1 (a.2, 0) (0, 1)).1 + (k2m m0 m1 (0, 0) (k2m m0 m1 (0, 1) (0, 1))).1), 0 + ((k2m m0 m1 (a.2, 0) (0, 1)).2 + (k2m m0 m1 (0, 0) (k2m m0 m1 (0, 1) (0, 1))).2))
    apply Prod.ext <;> simp only [k2m] <;> grind
  · have := a.1.isLt
    have := a.2.isLt
    show a.1.val + 101 * a.2.val + 10201 * 0 < 10201
    omega
  · show nI (n % 101 + 101 * (n / 101 % 101) + 10201 * 0) = nI n
    rw [show n % 101 + 101 * (n / 101 % 101) + 10201 * 0 = n by omega]
theorem k3_p {m0 m1 m2 : Z1} (x : Z1) (n : Nat) : letI := k3Ring m0 m1 m2; (show K3 m0 m1 m2 from (x, 0, 0)) ^ n = (show K3 m0 m1 m2 from (x ^ n, 0, 0)) := by
  show rp (k3m m0 m1 m2) (1, 0, 0) (x, 0, 0) n = (x ^ n, 0, 0)
  induction n with
  | zero => rw [Lean.Grind.Semiring.pow_zero]; rfl
  | succ n ih =>
    rw [rp, ih, Lean.Grind.Semiring.pow_succ]
    apply k3_ext <;> simp only [k3m, k3o3, k3o4] <;> grind
theorem k3_f {m0 m1 m2 : Z1} (h : ∀ x : Z1, ¬ x * x * x + m2 * x * x + m1 * x + m0 = 0) : letI := k3Ring m0 m1 m2; ∀ a : K3 m0 m1 m2, a ^ 1030301 = a := by
  letI := k3Ring m0 m1 m2
  intro a
  have key : ∀ n, (show List (K3 m0 m1 m2) from prl zl (prl zl zl)).length = n → a ^ n = a := fun n hn => hn ▸ fermat_q (K := K3 m0 m1 m2) (k3_fld h) (L := prl zl (prl zl zl)) (prl_nd (prl_nd zl_nd zl zl_nd) zl zl_nd) (prl_mem zl_mem (prl_mem zl_mem zl_mem)) a
  exact key 1030301 len3
theorem fl3 {E md : (Nat → Int32)} {mn : Int64} {m0 m1 m2 : Z1} (h : ∀ x : Z1, ¬ x * x * x + m2 * x * x + m1 * x + m0 = 0) (h0 : E 0 = nI 3) (h1 : E 1 = nI 1030301) (h2 : E 2 = nI m0.val) (h3 : E 3 = nI m1.val) (h4 : E 4 = nI m2.val) (hm : mn = lN 1030301) (g0 : md 0 = nI m0.val) (g1 : md 1 = nI m1.val) (g2 : md 2 = nI m2.val) : letI := k3Ring m0 m1 m2; ∀ T : K3 m0 m1 m2, T = ((0, 1, 0) : Z1 × Z1 × Z1) → E 5 = e3 T.1 T.2.1 T.2.2 → E 6 = e3 (T ^ 101).1 (T ^ 101).2.1 (T ^ 101).2.2 → E 7 = e3 (T ^ 101 * T ^ 101).1 (T ^ 101 * T ^ 101).2.1 (T ^ 101 * T ^ 101).2.2 → FL (fun p : K3 m0 m1 m2 => e3 p.1 p.2.1 p.2.2) E (nI 3) md mn 1030301 3 T := by
  letI := k3Ring m0 m1 m2
  intro T hT h5 h6 h7
  have pw : ∀ x : Z1, (show K3 m0 m1 m2 from (x, 0, 0)) ^ 101 = (show K3 m0 m1 m2 from (x, 0, 0)) := fun x => by
    refine (k3_p x 101).trans ?_
    rw [z_fer]
  refine ⟨cx3 h0 h2 h3 h4 g0 g1 g2, ⟨k3_fld h, k3_f h, Or.inr (Or.inr rfl), h1, hm⟩, rfl, ⟨h0, rfl, by omega, by omega, rfl⟩, ⟨h5, h6, h7⟩, fun a => ⟨(show K3 m0 m1 m2 from (a.1, 0, 0)), (show K3 m0 m1 m2 from (a.2.1, 0, 0)), (show K3 m0 m1 m2 from (a.2.2, 0, 0)), ?_, pw _, pw _, pw _, e3_0 a.1 a.2.1 a.2.2, e3_1 a.1 a.2.1 a.2.2, e3_2 a.1 a.2.1 a.2.2⟩, fun a => ⟨a.1.val + 101 * a.2.1.val + 10201 * a.2.2.val, ?_, rfl⟩, fun n hn => ⟨(show K3 m0 m1 m2 from (zc n, zc (n / 101), zc (n / 10201))), ?_⟩⟩
  · rw [hT]
    show a = (a.1 + ((k3m m0 m1 m2 (a.2.1, 0, 0) (0, 1, 0)).1 + (k3m m0 m1 m2 (a.2.2, 0, 0) (k3m m0 m1 m2 (0, 1, 0) (0, 1, 0))).1), 0 + ((k3m m0 m1 m2 (a.2.1, 0, 0) (0, 1, 0)).2.1 + (k3m m0 m1 m2 (a.2.2, 0, 0) (k3m m0 m1 m2 (0, 1, 0) (0, 1, 0))).2.1), 0 + ((k3m m0 m1 m2 (a.2.1, 0, 0) (0, 1, 0)).2.2 + (k3m m0 m1 m2 (a.2.2, 0, 0) (k3m m0 m1 m2 (0, 1, 0) (0, 1, 0))).2.2))
    apply k3_ext <;> simp only [k3m, k3o3, k3o4] <;> grind
  · have := a.1.isLt
    have := a.2.1.isLt
    have := a.2.2.isLt
    show a.1.val + 101 * a.2.1.val + 10201 * a.2.2.val < 1030301
    omega
  · show nI (n % 101 + 101 * (n / 101 % 101) + 10201 * (n / 10201 % 101)) = nI n
    rw [show n % 101 + 101 * (n / 101 % 101) + 10201 * (n / 10201 % 101) = n by omega]
