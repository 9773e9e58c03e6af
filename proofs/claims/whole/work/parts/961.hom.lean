/-! x + c in place of x, and the mates, as maps that keep sums and products. -/
theorem pr_Xm {K R : Type} [Lean.Grind.CommRing K] [Lean.Grind.CommRing R] {cf : R → Nat → K} {deg : R → Nat} {mon : R → Prop} {X : R} {Cc : K → R} {Kl : List R} {q : Nat} (hR : PR cf deg mon X Cc Kl q) (a : R) (t : Nat) : cf (X * a) t = if t = 0 then 0 else cf a (t - 1) := by
  rw [← pr_C0 hR, pr_lin hR]
  show (if t = 0 then 0 else cf a (t - 1)) + 0 * cf a t = _
  grind
theorem pr_ind {K R : Type} [Lean.Grind.CommRing K] [Lean.Grind.CommRing R] {cf : R → Nat → K} {deg : R → Nat} {mon : R → Prop} {X : R} {Cc : K → R} {Kl : List R} {q : Nat} (hR : PR cf deg mon X Cc Kl q) {Q : R → Prop} (h0 : Q 0) (h1 : ∀ (e : K) (f : R), Q f → Q (Cc e + X * f)) (f : R) : Q f := by
  have : ∀ (n : Nat) (f : R), dl (cf f) n → Q f := by
    intro n
    induction n with
    | zero =>
      intro f h
      rw [show f = 0 from pr_ext hR (fun i => by rw [h i (by omega), pr_0 hR])]
      exact h0
    | succ n ih =>
      intro f h
      obtain ⟨f1, e1⟩ := pr_ex hR (f := sh (cf f)) (n := n) (dl_sh h)
      have : f = Cc (cf f 0) + X * f1 := pr_ext hR (fun i => by
        rw [pr_add hR, pr_C hR, pr_Xm hR, e1]
        show cf f i = (if i = 0 then cf f 0 else 0) + (if i = 0 then 0 else cf f (i - 1 + 1))
        by_cases c : i = 0
        · rw [if_pos c, if_pos c, c]; grind
        · rw [if_neg c, if_neg c, show i - 1 + 1 = i by omega]; grind)
      rw [this]
      exact h1 _ _ (ih f1 (by rw [e1]; exact dl_sh h))
  obtain ⟨n, hn⟩ := pr_en hR f
  exact this n f hn
theorem pr_dC {K R : Type} [Lean.Grind.CommRing K] [Lean.Grind.CommRing R] {cf : R → Nat → K} {deg : R → Nat} {mon : R → Prop} {X : R} {Cc : K → R} {Kl : List R} {q : Nat} (hR : PR cf deg mon X Cc Kl q) (e : K) : deg (Cc e) = 0 := by
  have h : dl (cf (Cc e)) 1 := fun i hi => by
    rw [pr_C hR]
    show (if i = 0 then e else 0) = 0
    rw [if_neg (by omega)]
  have := sq_le h
  by_cases z : Cc e = 0
  · rw [z]; exact pr_d0 hR
  · have := pr_sq hR z
    omega
theorem pr_Ca {K R : Type} [Lean.Grind.CommRing K] [Lean.Grind.CommRing R] {cf : R → Nat → K} {deg : R → Nat} {mon : R → Prop} {X : R} {Cc : K → R} {Kl : List R} {q : Nat} (hR : PR cf deg mon X Cc Kl q) (a b : K) : Cc (a + b) = Cc a + Cc b := pr_ext hR (fun i => by
  rw [pr_add hR, pr_C hR, pr_C hR, pr_C hR]
  show (if i = 0 then a + b else 0) = (if i = 0 then a else 0) + (if i = 0 then b else 0)
  by_cases c : i = 0
  · rw [if_pos c, if_pos c, if_pos c]
  · rw [if_neg c, if_neg c, if_neg c]; grind)
theorem pr_Cz {K R : Type} [Lean.Grind.CommRing K] [Lean.Grind.CommRing R] {cf : R → Nat → K} {deg : R → Nat} {mon : R → Prop} {X : R} {Cc : K → R} {Kl : List R} {q : Nat} (hR : PR cf deg mon X Cc Kl q) : Cc 0 = 0 := pr_ext hR (fun i => by
  rw [pr_C hR, pr_0 hR]
  show (if i = 0 then 0 else 0) = 0
  by_cases c : i = 0
  · rw [if_pos c]
  · rw [if_neg c])
theorem pr_Co {K R : Type} [Lean.Grind.CommRing K] [Lean.Grind.CommRing R] {cf : R → Nat → K} {deg : R → Nat} {mon : R → Prop} {X : R} {Cc : K → R} {Kl : List R} {q : Nat} (hR : PR cf deg mon X Cc Kl q) : Cc 1 = 1 := pr_ext hR (fun i => by rw [pr_C hR, pr_1 hR])
/-- x + c in place of x -/
def HM {K R : Type} [Lean.Grind.CommRing K] [Lean.Grind.CommRing R] (X : R) (Cc : K → R) (σ : R → R) (c : K) : Prop := (∀ a b, σ (a + b) = σ a + σ b) ∧ (∀ a b, σ (a * b) = σ a * σ b) ∧ σ X = X + Cc c ∧ ∀ e, σ (Cc e) = Cc e
theorem hm_ex {K R : Type} [Lean.Grind.CommRing K] [Lean.Grind.CommRing R] {cf : R → Nat → K} {deg : R → Nat} {mon : R → Prop} {X : R} {Cc : K → R} {Kl : List R} {q : Nat} (hR : PR cf deg mon X Cc Kl q) (c : K) : ∃ σ, HM X Cc σ c := by
  obtain ⟨σ, h1, h2, h3, h4⟩ := (pr_ax hR).2.2.2.2.2.2.1 (X + Cc c)
  exact ⟨σ, h1, h2, h3, fun e => h4 _ (pr_dC hR e)⟩
theorem hm_0 {K R : Type} [Lean.Grind.CommRing K] [Lean.Grind.CommRing R] {cf : R → Nat → K} {deg : R → Nat} {mon : R → Prop} {X : R} {Cc : K → R} {Kl : List R} {q : Nat} (hR : PR cf deg mon X Cc Kl q) {σ : R → R} {c : K} (h : HM X Cc σ c) : σ 0 = 0 := by
  rw [← pr_Cz hR]; exact h.2.2.2 0
theorem hm_1 {K R : Type} [Lean.Grind.CommRing K] [Lean.Grind.CommRing R] {cf : R → Nat → K} {deg : R → Nat} {mon : R → Prop} {X : R} {Cc : K → R} {Kl : List R} {q : Nat} (hR : PR cf deg mon X Cc Kl q) {σ : R → R} {c : K} (h : HM X Cc σ c) : σ 1 = 1 := by
  rw [← pr_Co hR]; exact h.2.2.2 1
theorem hm_st {K R : Type} [Lean.Grind.CommRing K] [Lean.Grind.CommRing R] {cf : R → Nat → K} {deg : R → Nat} {mon : R → Prop} {X : R} {Cc : K → R} {Kl : List R} {q : Nat} (hR : PR cf deg mon X Cc Kl q) {σ : R → R} {c : K} (h : HM X Cc σ c) (e : K) (f : R) : σ (Cc e + X * f) = Cc e + (X + Cc c) * σ f := by rw [h.1, h.2.1, h.2.2.1, h.2.2.2]
theorem hm_cf {K R : Type} [Lean.Grind.CommRing K] [Lean.Grind.CommRing R] {cf : R → Nat → K} {deg : R → Nat} {mon : R → Prop} {X : R} {Cc : K → R} {Kl : List R} {q : Nat} (hR : PR cf deg mon X Cc Kl q) {σ : R → R} {c : K} (h : HM X Cc σ c) (e : K) (f : R) (t : Nat) : cf (σ (Cc e + X * f)) t = pc e t + lin c (cf (σ f)) t := by rw [hm_st hR h, pr_add hR, pr_C hR, pr_lin hR]
theorem pr_spl {K R : Type} [Lean.Grind.CommRing K] [Lean.Grind.CommRing R] {cf : R → Nat → K} {deg : R → Nat} {mon : R → Prop} {X : R} {Cc : K → R} {Kl : List R} {q : Nat} (hR : PR cf deg mon X Cc Kl q) (f : R) {n : Nat} (h : dl (cf f) (n + 1)) : ∃ f1, f = Cc (cf f 0) + X * f1 ∧ dl (cf f1) n ∧ ∀ t, cf f1 t = cf f (t + 1) := by
  obtain ⟨f1, e1⟩ := pr_ex hR (f := sh (cf f)) (n := n) (dl_sh h)
  refine ⟨f1, pr_ext hR (fun i => ?_), by rw [e1]; exact dl_sh h, fun t => by rw [e1]; rfl⟩
  rw [pr_add hR, pr_C hR, pr_Xm hR, e1]
  show cf f i = (if i = 0 then cf f 0 else 0) + (if i = 0 then 0 else cf f (i - 1 + 1))
  by_cases c : i = 0
  · rw [if_pos c, if_pos c, c]; grind
  · rw [if_neg c, if_neg c, show i - 1 + 1 = i by omega]; grind
theorem hm_tau {K R : Type} [Lean.Grind.CommRing K] [Lean.Grind.CommRing R] {cf : R → Nat → K} {deg : R → Nat} {mon : R → Prop} {X : R} {Cc : K → R} {Kl : List R} {q : Nat} (hR : PR cf deg mon X Cc Kl q) {σ : R → R} {c : K} (h : HM X Cc σ c) : ∀ (n : Nat) (f : R), dl (cf f) n → cf (σ f) = tau c n (cf f) := by
  intro n
  induction n with
  | zero =>
    intro f hf
    rw [show f = 0 from pr_ext hR (fun i => by rw [hf i (by omega), pr_0 hR]), hm_0 hR h, pr_0 hR]
    rfl
  | succ n ih =>
    intro f hf
    obtain ⟨f1, e1, e2, e3⟩ := pr_spl hR f hf
    funext t
    rw [tau_s, show sh (cf f) = cf f1 from funext (fun t => (e3 t).symm), ← ih f1 e2, ← hm_cf hR h, ← e1]
theorem hm_top {K R : Type} [Lean.Grind.CommRing K] [Lean.Grind.CommRing R] {cf : R → Nat → K} {deg : R → Nat} {mon : R → Prop} {X : R} {Cc : K → R} {Kl : List R} {q : Nat} (hR : PR cf deg mon X Cc Kl q) {σ : R → R} {c : K} (h : HM X Cc σ c) : ∀ (n : Nat) (f : R), dl (cf f) (n + 1) → dl (cf (σ f)) (n + 1) ∧ cf (σ f) n = cf f n ∧ (1 ≤ n → cf (σ f) (n - 1) = cf f (n - 1) + OfNat.ofNat n * c * cf f n) := by
  intro n
  induction n with
  | zero =>
    intro f hf
    obtain ⟨f1, e1, e2, e3⟩ := pr_spl hR f hf
    have z1 : f1 = 0 := pr_ext hR (fun i => by rw [e2 i (by omega), pr_0 hR])
    have : σ f = f := by
      rw [e1, hm_st hR h, z1, hm_0 hR h]; grind
    rw [this]
    exact ⟨hf, rfl, fun q => by omega⟩
  | succ n ih =>
    intro f hf
    obtain ⟨f1, e1, e2, e3⟩ := pr_spl hR f hf
    obtain ⟨a1, a2, a3⟩ := ih f1 e2
    have ec : ∀ t, cf (σ f) t = (if t = 0 then cf f 0 else 0) + ((if t = 0 then 0 else cf (σ f1) (t - 1)) + c * cf (σ f1) t) := fun t => by
      have := hm_cf hR h (cf f 0) f1 t
      rw [← e1] at this
      exact this
    refine ⟨fun i hi => ?_, ?_, fun _ => ?_⟩
    · rw [ec, if_neg (by omega), if_neg (by omega), a1 (i - 1) (by omega), a1 i (by omega)]; grind
    · rw [ec, if_neg (by omega), if_neg (by omega), Nat.add_sub_cancel, a2, a1 (n + 1) (by omega), e3]; grind
    · rw [Nat.add_sub_cancel, ec, a2, e3]
      by_cases n0 : n = 0
      · subst n0
        rw [if_pos rfl, if_pos rfl, show (OfNat.ofNat (0 + 1) : K) = 1 from rfl]; grind
      · have b3 := a3 (by omega)
        rw [if_neg n0, if_neg n0, b3, e3, e3, show n - 1 + 1 = n by omega, show (OfNat.ofNat (n + 1) : K) = OfNat.ofNat n + 1 from Lean.Grind.Semiring.ofNat_succ n]; grind
theorem hm_deg {K R : Type} [Lean.Grind.CommRing K] [Lean.Grind.CommRing R] {cf : R → Nat → K} {deg : R → Nat} {mon : R → Prop} {X : R} {Cc : K → R} {Kl : List R} {q : Nat} (hR : PR cf deg mon X Cc Kl q) {σ : R → R} {c : K} (h : HM X Cc σ c) (f : R) : deg (σ f) = deg f := by
  by_cases z : f = 0
  · rw [z, hm_0 hR h]
  · have hs := pr_sq hR z
    have hd := pr_dl hR f
    rw [hs] at hd
    obtain ⟨a1, a2, _⟩ := hm_top hR h (deg f) f hd
    have ne : ¬ cf f (deg f) = 0 := sq_ne hd hs
    have := sq_of (by rw [a2]; exact ne) a1
    exact hR.2.2.2.2.2.2.2.2.2.2.2.2.2.1 _ _ this
theorem hm_mon {K R : Type} [Lean.Grind.CommRing K] [Lean.Grind.CommRing R] {cf : R → Nat → K} {deg : R → Nat} {mon : R → Prop} {X : R} {Cc : K → R} {Kl : List R} {q : Nat} (hR : PR cf deg mon X Cc Kl q) {σ : R → R} {c : K} (h : HM X Cc σ c) {f : R} (hf : mon f) : mon (σ f) := by
  obtain ⟨d, h1, h2⟩ := (pr_mon hR f).mp hf
  obtain ⟨a1, a2, _⟩ := hm_top hR h d f h2
  exact (pr_mon hR _).mpr ⟨d, by rw [a2]; exact h1, a1⟩
theorem hm_inv {K R : Type} [Lean.Grind.CommRing K] [Lean.Grind.CommRing R] {cf : R → Nat → K} {deg : R → Nat} {mon : R → Prop} {X : R} {Cc : K → R} {Kl : List R} {q : Nat} (hR : PR cf deg mon X Cc Kl q) {σ σ' : R → R} {c c' : K} (h : HM X Cc σ c) (h' : HM X Cc σ' c') (e : c + c' = 0) (f : R) : σ (σ' f) = f := by
  refine pr_ind hR (Q := fun f => σ (σ' f) = f) ?_ (fun a f ih => ?_) f
  · show σ (σ' 0) = 0
    rw [hm_0 hR h', hm_0 hR h]
  · show σ (σ' (Cc a + X * f)) = Cc a + X * f
    have e2 : Cc c + Cc c' = 0 := by rw [← pr_Ca hR, e, pr_Cz hR]
    rw [hm_st hR h', h.1, h.2.1, h.2.2.2, h.1, h.2.2.1, h.2.2.2, ih]; grind
theorem hm_irr {K R : Type} [Lean.Grind.CommRing K] [Lean.Grind.CommRing R] {cf : R → Nat → K} {deg : R → Nat} {mon : R → Prop} {X : R} {Cc : K → R} {Kl : List R} {q : Nat} (hR : PR cf deg mon X Cc Kl q) {σ : R → R} {c : K} (h : HM X Cc σ c) {p : R} (hp : irr deg mon p) : irr deg mon (σ p) := by
  obtain ⟨σ', h'⟩ := hm_ex hR (0 - c)
  refine ⟨hm_mon hR h hp.1, by rw [hm_deg hR h]; exact hp.2.1, fun a b e => ?_⟩
  have e2 : p = σ' a * σ' b := by rw [← h'.2.1, ← e, hm_inv hR h' h (by grind)]
  have := hp.2.2 _ _ e2
  rw [hm_deg hR h', hm_deg hR h'] at this
  exact this
theorem pr_Da {K R : Type} [Lean.Grind.CommRing K] [Lean.Grind.CommRing R] {cf : R → Nat → K} {deg : R → Nat} {mon : R → Prop} {X : R} {Cc : K → R} {Kl : List R} {q : Nat} (hR : PR cf deg mon X Cc Kl q) {D : R → R} (hD : DR cf D) (a b : R) : D (a + b) = D a + D b := pr_ext hR (fun i => by
  rw [pr_add hR, hD, hD, hD]
  show OfNat.ofNat (i + 1) * cf (a + b) (i + 1) = OfNat.ofNat (i + 1) * cf a (i + 1) + OfNat.ofNat (i + 1) * cf b (i + 1)
  rw [pr_add hR]; grind)
theorem pr_DC {K R : Type} [Lean.Grind.CommRing K] [Lean.Grind.CommRing R] {cf : R → Nat → K} {deg : R → Nat} {mon : R → Prop} {X : R} {Cc : K → R} {Kl : List R} {q : Nat} (hR : PR cf deg mon X Cc Kl q) {D : R → R} (hD : DR cf D) (e : K) : D (Cc e) = 0 := pr_ext hR (fun i => by
  rw [hD, pr_0 hR]
  show OfNat.ofNat (i + 1) * cf (Cc e) (i + 1) = 0
  rw [pr_C hR]
  show OfNat.ofNat (i + 1) * (if i + 1 = 0 then e else 0) = 0
  rw [if_neg (by omega)]; grind)
theorem pr_DX {K R : Type} [Lean.Grind.CommRing K] [Lean.Grind.CommRing R] {cf : R → Nat → K} {deg : R → Nat} {mon : R → Prop} {X : R} {Cc : K → R} {Kl : List R} {q : Nat} (hR : PR cf deg mon X Cc Kl q) {D : R → R} (hD : DR cf D) : D X = 1 := pr_ext hR (fun i => by
  rw [hD, pr_1 hR]
  show OfNat.ofNat (i + 1) * cf X (i + 1) = (if i = 0 then 1 else 0)
  rw [pr_X hR]
  show OfNat.ofNat (i + 1) * (if i + 1 = 1 then 1 else 0) = (if i = 0 then 1 else 0)
  by_cases c : i = 0
  · subst c
    rw [if_pos rfl, if_pos rfl, show (OfNat.ofNat (0 + 1) : K) = 1 from rfl]; grind
  · rw [if_neg (by omega), if_neg c]; grind)
theorem hm_D {K R : Type} [Lean.Grind.CommRing K] [Lean.Grind.CommRing R] {cf : R → Nat → K} {deg : R → Nat} {mon : R → Prop} {X : R} {Cc : K → R} {Kl : List R} {q : Nat} (hR : PR cf deg mon X Cc Kl q) {D : R → R} (hD : DR cf D) {σ : R → R} {c : K} (h : HM X Cc σ c) (f : R) : D (σ f) = σ (D f) := by
  have d0 : D 0 = 0 := by rw [← pr_Cz hR]; rw [pr_DC hR hD]; exact (pr_Cz hR).symm
  refine pr_ind hR (Q := fun f => D (σ f) = σ (D f)) ?_ (fun a f ih => ?_) f
  · show D (σ 0) = σ (D 0)
    rw [hm_0 hR h, d0, hm_0 hR h]
  · show D (σ (Cc a + X * f)) = σ (D (Cc a + X * f))
    rw [hm_st hR h, pr_Da hR hD, pr_DC hR hD, pr_lei hR hD, pr_Da hR hD X, pr_DX hR hD, pr_DC hR hD, pr_Da hR hD (Cc a), pr_DC hR hD, pr_lei hR hD X, pr_DX hR hD, h.1, h.1, h.2.1, h.2.1, hm_0 hR h, hm_1 hR h, h.2.2.1, ih]
    grind
theorem one_p {K : Type} [Lean.Grind.CommRing K] (n : Nat) : (1 : K) ^ n = 1 := by
  induction n with
  | zero => exact Lean.Grind.Semiring.pow_zero _
  | succ m ih => rw [Lean.Grind.Semiring.pow_succ, ih]; grind
theorem nc_fer {K : Type} [Lean.Grind.CommRing K] (h : (101 : K) = 0) (n : Nat) : (OfNat.ofNat n : K) ^ 101 = OfNat.ofNat n := by
  induction n with
  | zero => exact z101
  | succ n ih =>
    rw [show (OfNat.ofNat (n + 1) : K) = OfNat.ofNat n + 1 from Lean.Grind.Semiring.ofNat_succ n, frob h, ih, one_p]
theorem pr_Fa {K R : Type} [Lean.Grind.CommRing K] [Lean.Grind.CommRing R] {cf : R → Nat → K} {deg : R → Nat} {mon : R → Prop} {X : R} {Cc : K → R} {Kl : List R} {q : Nat} (hR : PR cf deg mon X Cc Kl q) (h101 : (101 : K) = 0) {F : R → R} (hM : MR cf F) (a b : R) : F (a + b) = F a + F b := pr_ext hR (fun i => by
  rw [pr_add hR, hM, hM, hM]
  show (cf (a + b) i) ^ 101 = _
  rw [pr_add hR, frob h101])
theorem pr_FC {K R : Type} [Lean.Grind.CommRing K] [Lean.Grind.CommRing R] {cf : R → Nat → K} {deg : R → Nat} {mon : R → Prop} {X : R} {Cc : K → R} {Kl : List R} {q : Nat} (hR : PR cf deg mon X Cc Kl q) {F : R → R} (hM : MR cf F) (e : K) : F (Cc e) = Cc (e ^ 101) := pr_ext hR (fun i => by
  rw [hM]
  show (cf (Cc e) i) ^ 101 = _
  rw [pr_C hR, pr_C hR]
  show (if i = 0 then e else 0) ^ 101 = if i = 0 then e ^ 101 else 0
  by_cases c : i = 0
  · rw [if_pos c, if_pos c]
  · rw [if_neg c, if_neg c]; exact z101)
theorem pr_FX {K R : Type} [Lean.Grind.CommRing K] [Lean.Grind.CommRing R] {cf : R → Nat → K} {deg : R → Nat} {mon : R → Prop} {X : R} {Cc : K → R} {Kl : List R} {q : Nat} (hR : PR cf deg mon X Cc Kl q) {F : R → R} (hM : MR cf F) (f : R) : F (X * f) = X * F f := pr_ext hR (fun i => by
  rw [hM, pr_Xm hR, hM]
  show (cf (X * f) i) ^ 101 = _
  rw [pr_Xm hR]
  by_cases c : i = 0
  · rw [if_pos c, if_pos c]; exact z101
  · rw [if_neg c, if_neg c])
theorem pr_Fs {K R : Type} [Lean.Grind.CommRing K] [Lean.Grind.CommRing R] {cf : R → Nat → K} {deg : R → Nat} {mon : R → Prop} {X : R} {Cc : K → R} {Kl : List R} {q : Nat} (hR : PR cf deg mon X Cc Kl q) {F : R → R} (hM : MR cf F) (e : K) (f : R) : F (Cc e * f) = Cc (e ^ 101) * F f := pr_ext hR (fun i => by
  rw [hM]
  show (cf (Cc e * f) i) ^ 101 = _
  rw [pr_scale hR, pr_scale hR, hM]
  show (e * cf f i) ^ 101 = e ^ 101 * (cf f i) ^ 101
  rw [mul_pow'])
theorem pr_F0 {K R : Type} [Lean.Grind.CommRing K] [Lean.Grind.CommRing R] {cf : R → Nat → K} {deg : R → Nat} {mon : R → Prop} {X : R} {Cc : K → R} {Kl : List R} {q : Nat} (hR : PR cf deg mon X Cc Kl q) {F : R → R} (hM : MR cf F) : F 0 = 0 := by
  have := pr_FC hR hM 0
  rw [z101, pr_Cz hR] at this
  exact this
theorem pr_F1 {K R : Type} [Lean.Grind.CommRing K] [Lean.Grind.CommRing R] {cf : R → Nat → K} {deg : R → Nat} {mon : R → Prop} {X : R} {Cc : K → R} {Kl : List R} {q : Nat} (hR : PR cf deg mon X Cc Kl q) {F : R → R} (hM : MR cf F) : F 1 = 1 := by
  have := pr_FC hR hM 1
  rw [one_p, pr_Co hR] at this
  exact this
theorem pr_Fm {K R : Type} [Lean.Grind.CommRing K] [Lean.Grind.CommRing R] {cf : R → Nat → K} {deg : R → Nat} {mon : R → Prop} {X : R} {Cc : K → R} {Kl : List R} {q : Nat} (hR : PR cf deg mon X Cc Kl q) (h101 : (101 : K) = 0) {F : R → R} (hM : MR cf F) (a b : R) : F (a * b) = F a * F b := by
  refine pr_ind hR (Q := fun a => F (a * b) = F a * F b) ?_ (fun e f ih => ?_) a
  · show F (0 * b) = F 0 * F b
    rw [show 0 * b = 0 by grind, pr_F0 hR hM]; grind
  · show F ((Cc e + X * f) * b) = F (Cc e + X * f) * F b
    rw [show (Cc e + X * f) * b = Cc e * b + X * (f * b) by grind, pr_Fa hR h101 hM, pr_Fs hR hM, pr_FX hR hM, ih, pr_Fa hR h101 hM, pr_FC hR hM, pr_FX hR hM]; grind
theorem pr_FD {K R : Type} [Lean.Grind.CommRing K] [Lean.Grind.CommRing R] {cf : R → Nat → K} {deg : R → Nat} {mon : R → Prop} {X : R} {Cc : K → R} {Kl : List R} {q : Nat} (hR : PR cf deg mon X Cc Kl q) (h101 : (101 : K) = 0) {D F : R → R} (hD : DR cf D) (hM : MR cf F) (a : R) : F (D a) = D (F a) := pr_ext hR (fun i => by
  rw [hM]
  show (cf (D a) i) ^ 101 = _
  rw [hD, hD, hM]
  show (OfNat.ofNat (i + 1) * cf a (i + 1)) ^ 101 = OfNat.ofNat (i + 1) * (cf a (i + 1)) ^ 101
  rw [mul_pow', nc_fer h101])
theorem hm_F {K R : Type} [Lean.Grind.CommRing K] [Lean.Grind.CommRing R] {cf : R → Nat → K} {deg : R → Nat} {mon : R → Prop} {X : R} {Cc : K → R} {Kl : List R} {q : Nat} (hR : PR cf deg mon X Cc Kl q) (h101 : (101 : K) = 0) {F : R → R} (hM : MR cf F) {σ σ' : R → R} {c : K} (h : HM X Cc σ c) (h' : HM X Cc σ' (c ^ 101)) (f : R) : F (σ f) = σ' (F f) := by
  refine pr_ind hR (Q := fun f => F (σ f) = σ' (F f)) ?_ (fun e f ih => ?_) f
  · show F (σ 0) = σ' (F 0)
    rw [hm_0 hR h, pr_F0 hR hM, hm_0 hR h']
  · show F (σ (Cc e + X * f)) = σ' (F (Cc e + X * f))
    rw [hm_st hR h, pr_Fa hR h101 hM, pr_FC hR hM, show (X + Cc c) * σ f = X * σ f + Cc c * σ f by grind, pr_Fa hR h101 hM, pr_FX hR hM, pr_Fs hR hM, ih, pr_Fa hR h101 hM, pr_FC hR hM, pr_FX hR hM, hm_st hR h']; grind
