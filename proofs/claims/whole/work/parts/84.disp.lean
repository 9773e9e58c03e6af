/-! x + c in place of x; a value: what the class comes to. -/
def shn {K : Type} [Lean.Grind.CommRing K] (i : Nat) (f : Nat → K) : Nat → K := fun t => f (t + i)
def tau {K : Type} [Lean.Grind.CommRing K] (c : K) : Nat → (Nat → K) → Nat → K
  | 0, _ => fun _ => 0
  | n + 1, f => fun t => pc (f 0) t + lin c (tau c n (sh f)) t
def hv {K : Type} [Lean.Grind.CommRing K] (x : K) : Nat → (Nat → K) → K
  | 0, _ => 0
  | n + 1, f => hv x n (sh f) * x + f 0
theorem tau_s {K : Type} [Lean.Grind.CommRing K] (c : K) (n : Nat) (f : Nat → K) (t : Nat) : tau c (n + 1) f t = pc (f 0) t + lin c (tau c n (sh f)) t := rfl
theorem hv_s {K : Type} [Lean.Grind.CommRing K] (x : K) (n : Nat) (f : Nat → K) : hv x (n + 1) f = hv x n (sh f) * x + f 0 := rfl
theorem tau_lin {K : Type} [Lean.Grind.CommRing K] (c d : K) : ∀ (n : Nat) (f g : Nat → K) (t : Nat), tau c n (fun t => f t - d * g t) t = tau c n f t - d * tau c n g t := by
  intro n
  induction n with
  | zero => intro f g t; show (0 : K) = 0 - d * 0; grind
  | succ n ih =>
    intro f g t
    rw [tau_s, tau_s, tau_s]
    have e : sh (fun t => f t - d * g t) = fun t => sh f t - d * sh g t := rfl
    show pc (f 0 - d * g 0) t + ((if t = 0 then 0 else tau c n (sh (fun t => f t - d * g t)) (t - 1)) + c * tau c n (sh (fun t => f t - d * g t)) t) = (pc (f 0) t + ((if t = 0 then 0 else tau c n (sh f) (t - 1)) + c * tau c n (sh f) t)) - d * (pc (g 0) t + ((if t = 0 then 0 else tau c n (sh g) (t - 1)) + c * tau c n (sh g) t))
    rw [e, ih, ih]
    show (if t = 0 then f 0 - d * g 0 else 0) + _ = ((if t = 0 then f 0 else 0) + _) - d * ((if t = 0 then g 0 else 0) + _)
    by_cases h : t = 0
    · rw [if_pos h, if_pos h, if_pos h, if_pos h, if_pos h, if_pos h]; grind
    · rw [if_neg h, if_neg h, if_neg h, if_neg h, if_neg h, if_neg h]; grind
theorem tau_big {K : Type} [Lean.Grind.CommRing K] (c : K) : ∀ (n : Nat) (f : Nat → K) (t : Nat), dl f n → tau c (n + 1) f t = tau c n f t := by
  intro n
  induction n with
  | zero =>
    intro f t h
    rw [tau_s]
    show pc (f 0) t + ((if t = 0 then 0 else 0) + c * 0) = 0
    rw [h 0 (by omega)]
    show (if t = 0 then 0 else 0) + ((if t = 0 then 0 else 0) + c * 0) = (0 : K)
    by_cases q : t = 0
    · rw [if_pos q]; grind
    · rw [if_neg q]; grind
  | succ n ih =>
    intro f t h
    rw [tau_s c (n + 1) f, tau_s c n f]
    have : tau c (n + 1) (sh f) = tau c n (sh f) := funext (fun t => ih (sh f) t (dl_sh h))
    rw [this]
theorem tau_all {K : Type} [Lean.Grind.CommRing K] (c : K) {f : Nat → K} {n m : Nat} (h : dl f n) (hm : n ≤ m) : tau c m f = tau c n f := by
  obtain ⟨d, rfl⟩ : ∃ d, m = n + d := ⟨m - n, by omega⟩
  clear hm
  induction d with
  | zero => rfl
  | succ d ih => rw [← ih]; exact funext (fun t => tau_big c (n + d) f t (dl_mono h (by omega)))
theorem hv_big {K : Type} [Lean.Grind.CommRing K] (x : K) : ∀ (n : Nat) (f : Nat → K), dl f n → hv x (n + 1) f = hv x n f := by
  intro n
  induction n with
  | zero =>
    intro f h
    show 0 * x + f 0 = 0
    rw [h 0 (by omega)]; grind
  | succ n ih =>
    intro f h
    rw [hv_s x (n + 1) f, hv_s x n f, ih (sh f) (dl_sh h)]
theorem hv_all {K : Type} [Lean.Grind.CommRing K] (x : K) {f : Nat → K} {n m : Nat} (h : dl f n) (hm : n ≤ m) : hv x m f = hv x n f := by
  obtain ⟨d, rfl⟩ : ∃ d, m = n + d := ⟨m - n, by omega⟩
  clear hm
  induction d with
  | zero => rfl
  | succ d ih => rw [← ih]; exact hv_big x (n + d) f (dl_mono h (by omega))
theorem shn_s {K : Type} [Lean.Grind.CommRing K] (i : Nat) (f : Nat → K) : sh (shn i f) = shn (i + 1) f := funext (fun t => by show f (t + 1 + i) = f (t + (i + 1)); rw [show t + 1 + i = t + (i + 1) by omega])
theorem shn_0 {K : Type} [Lean.Grind.CommRing K] (f : Nat → K) : shn 0 f = f := rfl
theorem shn_v {K : Type} [Lean.Grind.CommRing K] (i : Nat) (f : Nat → K) : shn i f 0 = f i := by show f (0 + i) = f i; rw [Nat.zero_add]
/-- i passes done -/
def Tp {K : Type} [Lean.Grind.CommRing K] (c : K) : Nat → Nat → (Nat → K) → Nat → K
  | n, 0, f => tau c n f
  | n, i + 1, f => fun t => if t = 0 then f 0 else Tp c (n - 1) i (sh f) (t - 1)
theorem Tp_pass {K : Type} [Lean.Grind.CommRing K] (c : K) : ∀ (i n : Nat) (p p' : Nat → K), i < n → dl p' n → (∀ t, t < i → p t = p' t) → (∀ t, i ≤ t → p t = p' t - c * p' (t + 1)) → Tp c n i p = Tp c n (i + 1) p' := by
  intro i
  induction i with
  | zero =>
    intro n p p' hn hd h1 h2
    obtain ⟨n, rfl⟩ : ∃ n', n = n' + 1 := ⟨n - 1, by omega⟩
    funext t
    show tau c (n + 1) p t = if t = 0 then p' 0 else tau c n (sh p') (t - 1)
    have e : p = fun t => p' t - c * (sh p') t := funext (fun t => h2 t (by omega))
    rw [e, tau_lin, tau_big c n (sh p') t (dl_sh hd), tau_s]
    show (if t = 0 then p' 0 else 0) + ((if t = 0 then 0 else tau c n (sh p') (t - 1)) + c * tau c n (sh p') t) - c * tau c n (sh p') t = _
    by_cases q : t = 0
    · rw [if_pos q, if_pos q, if_pos q]; grind
    · rw [if_neg q, if_neg q, if_neg q]; grind
  | succ i ih =>
    intro n p p' hn hd h1 h2
    obtain ⟨n, rfl⟩ : ∃ n', n = n' + 1 := ⟨n - 1, by omega⟩
    funext t
    show (if t = 0 then p 0 else Tp c (n + 1 - 1) i (sh p) (t - 1)) = if t = 0 then p' 0 else Tp c (n + 1 - 1) (i + 1) (sh p') (t - 1)
    rw [h1 0 (by omega), ih (n + 1 - 1) (sh p) (sh p') (by omega) (dl_sh hd) (fun t ht => h1 (t + 1) (by omega)) (fun t ht => h2 (t + 1) (by omega))]
theorem Tp_end {K : Type} [Lean.Grind.CommRing K] (c : K) : ∀ (n : Nat) (p : Nat → K), dl p (n + 1) → Tp c (n + 1) n p = p := by
  intro n
  induction n with
  | zero =>
    intro p h
    funext t
    show pc (p 0) t + ((if t = 0 then 0 else 0) + c * 0) = p t
    show (if t = 0 then p 0 else 0) + ((if t = 0 then 0 else 0) + c * 0) = p t
    by_cases q : t = 0
    · rw [if_pos q, if_pos q, q]; grind
    · rw [if_neg q, if_neg q, h t (by omega)]; grind
  | succ n ih =>
    intro p h
    funext t
    show (if t = 0 then p 0 else Tp c (n + 1 + 1 - 1) n (sh p) (t - 1)) = p t
    rw [show n + 1 + 1 - 1 = n + 1 by omega, ih (sh p) (dl_sh h)]
    by_cases q : t = 0
    · rw [if_pos q, q]
    · rw [if_neg q]; show p (t - 1 + 1) = p t; rw [show t - 1 + 1 = t by omega]
theorem P_disp_i {K : Type} [Lean.Grind.CommRing K] {cd : K → Int32} {E : Nat → Int32} {kk : Int32} {md : Nat → Int32} (hC : CX cd E kk md) {a : Fin 20} {p : Nat → K} {c : K} {s i : Nat} (hs : s ≤ 16) (k : Int32 → (Fin 20 → Nat → Int32) → Option (Fin 20 → Nat → Int32)) (fu : Nat) (x3 : Int32) : ∀ (e j n : Nat) (M : Fin 20 → Nat → Int32) (r : Nat → K), e + i = j → j + 1 ≤ s → RW cd (M a) r → dl r s → (∀ t, t < j → r t = p t) → (∀ t, j ≤ t → p t = r t - c * r (t + 1)) → e < n → ∃ y M' p', f_X1_displace_l19 k fu E a (cd c) x3 (nI i) n (dI j) M = k y M' ∧ (∀ q, ¬ q = a → M' q = M q) ∧ RW cd (M' a) p' ∧ dl p' s ∧ (∀ t, t < i → p t = p' t) ∧ (∀ t, i ≤ t → p t = p' t - c * p' (t + 1)) := by
  intro e
  induction e with
  | zero =>
    intro j n M r hj hjs hr hd h1 h2 hn
    obtain ⟨n, rfl⟩ : ∃ n', n = n' + 1 := ⟨n - 1, by omega⟩
    refine ⟨dI j, M, r, by rw [f_X1_displace_l19, if_pos ((dI_lt (by omega) (by omega)).mpr (by omega))], fun _ _ => rfl, hr, hd, fun t ht => (h1 t (by omega)).symm, fun t ht => h2 t (by omega)⟩
  | succ e ih =>
    intro j n M r hj hjs hr hd h1 h2 hn
    obtain ⟨n, rfl⟩ : ∃ n', n = n' + 1 := ⟨n - 1, by omega⟩
    obtain ⟨j, rfl⟩ : ∃ j', j = j' + 1 := ⟨j - 1, by omega⟩
    rw [f_X1_displace_l19, if_neg (fun q => by have := (dI_lt (by omega) (by omega)).mp q; omega), dI_s, nI_1, P_get hC hr (by omega), Option.bind_some, P_get hC hr (by omega), Option.bind_some, hC.2.2.2.2.1, Option.bind_some, hC.2.2.1, Option.bind_some, P_set M a (by omega), Option.bind_some, dI_m]
    obtain ⟨y, M', p', l1, l2, l3, l4, l5, l6⟩ := ih j n (fup M a (upd (M a) j (cd (r j + c * r (j + 1))))) (fun t => if t = j then r j + c * r (j + 1) else r t) (by omega) (by omega) (by
      rw [fup_s]
      exact RW_upd hr (by omega) (if_pos rfl) (fun t ht => if_neg ht)) (fun t ht => by
      show (if t = j then _ else r t) = 0
      rw [if_neg (by omega), hd t ht]) (fun t ht => by
      show (if t = j then _ else r t) = p t
      rw [if_neg (by omega), h1 t (by omega)]) (fun t ht => by
      show p t = (if t = j then _ else r t) - c * (if t + 1 = j then _ else r (t + 1))
      rw [if_neg (show ¬ t + 1 = j by omega)]
      by_cases q : t = j
      · rw [if_pos q, q, ← h1 j (by omega)]; grind
      · rw [if_neg q, h2 t (by omega)]) (by omega)
    exact ⟨y, M', p', l1, fun q hq => by rw [l2 q hq, fup_n _ _ hq], l3, l4, l5, l6⟩
theorem P_disp_o {K : Type} [Lean.Grind.CommRing K] {cd : K → Int32} {E : Nat → Int32} {kk : Int32} {md : Nat → Int32} (hC : CX cd E kk md) {a : Fin 20} {c : K} {s : Nat} (hs : s < 16) (k : Int32 → (Fin 20 → Nat → Int32) → Option (Fin 20 → Nat → Int32)) (fu : Nat) (hfu : 18 ≤ fu) {g : Nat → K} : ∀ (e i n : Nat) (M : Fin 20 → Nat → Int32) (p : Nat → K), e + i = s → RW cd (M a) p → dl p (s + 1) → Tp c (s + 1) i p = g → e < n → ∃ y M', f_X1_displace_l8 k fu E a (cd c) (nI s) n (nI i) M = k y M' ∧ (∀ q, ¬ q = a → M' q = M q) ∧ RW cd (M' a) g := by
  intro e
  induction e with
  | zero =>
    intro i n M p hi hp hd h1 hn
    obtain ⟨n, rfl⟩ : ∃ n', n = n' + 1 := ⟨n - 1, by omega⟩
    have e : i = s := by omega
    subst e
    rw [Tp_end c i p hd] at h1
    exact ⟨nI i, M, by rw [f_X1_displace_l8, if_pos (nI_le (by omega) (by omega))], fun _ _ => rfl, h1 ▸ hp⟩
  | succ e ih =>
    intro i n M p hi hp hd h1 hn
    obtain ⟨n, rfl⟩ : ∃ n', n = n' + 1 := ⟨n - 1, by omega⟩
    obtain ⟨s, rfl⟩ : ∃ s', s = s' + 1 := ⟨s - 1, by omega⟩
    rw [f_X1_displace_l8, if_neg (nI_ge (by omega) (by omega))]
    simp only [nm]
    obtain ⟨y, M1, p', l1, l2, l3, l4, l5, l6⟩ := P_disp_i hC (a := a) (p := p) (c := c) (s := s + 1 + 1) (i := i) (by omega) (fun y16 M17 => f_X1_displace_l8 k fu E a (cd c) (nI (s + 1)) n (nI i + 1) M17) fu (nI (s + 1)) (e + 1) (s + 1) fu M p (by omega) (by omega) hp hd (fun _ _ => rfl) (fun t ht => by rw [hd (t + 1) (by omega)]; grind) (by omega)
    rw [dI_s] at l1
    rw [nI_pred, l1, nI_1]
    obtain ⟨y2, M2, m1, m2, m3⟩ := ih (i + 1) n M1 p' (by omega) l3 l4 (by rw [← h1]; exact (Tp_pass c i (s + 1 + 1) p p' (by omega) l4 l5 l6).symm) (by omega)
    exact ⟨y2, M2, m1, fun q hq => by rw [m2 q hq, l2 q hq], m3⟩
theorem P_disp {K : Type} [Lean.Grind.CommRing K] {cd : K → Int32} {E : Nat → Int32} {kk : Int32} {md : Nat → Int32} (hC : CX cd E kk md) {M : Fin 20 → Nat → Int32} {a : Fin 20} {f : Nat → K} (hf : RW cd (M a) f) (c : K) {fu : Nat} (hfu : 18 ≤ fu) : ∃ M', f_X1_displace fu M E a (cd c) = some M' ∧ (∀ q, ¬ q = a → M' q = M q) ∧ RW cd (M' a) (tau c 16 f) := by
  unfold f_X1_displace
  rw [P_deg hC hf (by omega), Option.bind_some, tau_all c (sq_dl hf.1) (sq_le hf.1)]
  have hs := sq_le hf.1
  rcases sq_cases hf.1 with ⟨h1, h2⟩ | ⟨d, h1, h2, h3, h4⟩
  · obtain ⟨n, rfl⟩ : ∃ n', fu = n' + 1 := ⟨fu - 1, by omega⟩
    rw [h1, f_X1_displace_l8, if_pos (by decide)]
    exact ⟨M, rfl, fun _ _ => rfl, RW_c hf h2⟩
  · obtain ⟨y, M', l1, l2, l3⟩ := P_disp_o hC (a := a) (c := c) (s := d) (by omega) (fun y18 M19 => some M19) fu hfu (g := tau c (d + 1) f) d 0 fu M f (by omega) hf h4 rfl (by omega)
    rw [h2, dI_s]
    exact ⟨M', l1, l2, l3⟩
theorem P_val_l {K : Type} [Lean.Grind.CommRing K] {cd : K → Int32} {E : Nat → Int32} {kk : Int32} {md : Nat → Int32} (hC : CX cd E kk md) {M : Fin 20 → Nat → Int32} {a : Fin 20} {f : Nat → K} (hf : RW cd (M a) f) (x : K) (k : Int32 → Int32 → Option Int32) (fu : Nat) {s : Nat} (hs : s ≤ 16) : ∀ (i n : Nat), i ≤ s → i < n → ∃ y, f_X1_valueOf_l8 k fu M E a (cd x) n (cd (hv x (s - i) (shn i f))) (dI i) = k (cd (hv x s f)) y := by
  intro i
  induction i with
  | zero =>
    intro n hi hn
    obtain ⟨n, rfl⟩ : ∃ n', n = n' + 1 := ⟨n - 1, by omega⟩
    exact ⟨dI 0, by rw [f_X1_valueOf_l8, if_pos dI_neg]; rfl⟩
  | succ i ih =>
    intro n hi hn
    obtain ⟨n, rfl⟩ : ∃ n', n = n' + 1 := ⟨n - 1, by omega⟩
    obtain ⟨y, h⟩ := ih n (by omega) (by omega)
    rw [f_X1_valueOf_l8, dI_s, if_neg (nI_pos (by omega)), hC.2.2.2.2.1, Option.bind_some, P_get hC hf (by omega), Option.bind_some, hC.2.2.1, Option.bind_some, dI_m]
    rw [show s - i = s - (i + 1) + 1 by omega, hv_s, shn_s, shn_v] at h
    exact ⟨y, h⟩
theorem P_val {K : Type} [Lean.Grind.CommRing K] {cd : K → Int32} {E : Nat → Int32} {kk : Int32} {md : Nat → Int32} (hC : CX cd E kk md) {M : Fin 20 → Nat → Int32} {a : Fin 20} {f : Nat → K} (hf : RW cd (M a) f) (x : K) {fu : Nat} (hfu : 18 ≤ fu) : f_X1_valueOf fu M E a (cd x) = some (cd (hv x 16 f)) := by
  unfold f_X1_valueOf
  have hs := sq_le hf.1
  rw [P_deg hC hf (by omega), Option.bind_some, hv_all x (sq_dl hf.1) hs]
  obtain ⟨y, h⟩ := P_val_l hC hf x (fun y10 y11 => some y10) fu hs (sq f) fu (by omega) (by omega)
  rw [show sq f - sq f = 0 by omega] at h
  rw [← h, show cd (hv x 0 (shn (sq f) f)) = 0 from hC.2.1.1]
