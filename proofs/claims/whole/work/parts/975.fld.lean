/-! A field is taken: the call. -/
def INV (M : (Fin 20 → Nat → Int32)) (E : (Nat → Int32)) (P : Nat → Fin 20) (C N : (Nat → Int32)) (kk : Int32) (mn : Int64) (md rw dg : (Nat → Int32)) (kn fc : Int32) (oft : (Nat → Int32)) : Prop :=
  ∃ (K R : Type) (_ : Lean.Grind.CommRing K) (_ : Lean.Grind.CommRing R) (cd : K → Int32) (q k : Nat) (T : K) (cf : R → Nat → K) (deg : R → Nat) (mon : R → Prop) (X : R) (Cc : K → R) (Kl : List R) (D F : R → R) (f : R), IN cd E kk md mn q k T cf deg mon X Cc Kl D F M P C N rw dg kn fc oft f
theorem INV_of {K R : Type} [Lean.Grind.CommRing K] [Lean.Grind.CommRing R] {cd : K → Int32} {E : Nat → Int32} {kk : Int32} {md : Nat → Int32} {mn : Int64} {q k : Nat} {T : K} (hL : FL cd E kk md mn q k T) {cf : R → Nat → K} {deg : R → Nat} {mon : R → Prop} {X : R} {Cc : K → R} {Kl : List R} (hR : PR cf deg mon X Cc Kl q) (hmd : MDX E md) (hk : k = 1 ∨ E 5 = 101) {M : (Fin 20 → Nat → Int32)} {P : Nat → Fin 20} (hP : PI P) {C N : (Nat → Int32)} {rw dg : (Nat → Int32)} {fc : Int32} {oft : (Nat → Int32)} (h1 : RW cd (M 0) (fun _ => 0)) (h2 : RX cd rw dg 0 (fun _ => 0)) (hN : N 1 = 0) : INV M E P C N kk mn md rw dg 0 fc oft := by
  obtain ⟨D, hD⟩ := ex_D hR
  obtain ⟨F, hF⟩ := ex_F hR
  refine ⟨K, R, _, _, cd, q, k, T, cf, deg, mon, X, Cc, Kl, D, F, 0, ⟨hL, hR, hD, hF⟩, ⟨hmd, hk⟩, hP, by rw [pr_0 hR]; exact h1, by rw [pr_0 hR]; exact h2, ?_, Or.inl hN, Or.inl rfl⟩
  rw [(pr_sq0 hR 0).mpr rfl]; omega
theorem mdx_of {E md : (Nat → Int32)} {k : Nat} (hk : 1 ≤ k ∧ k ≤ 3) (h0 : E 0 = nI k) (h : ∀ i, i ≤ 3 → md i = if i = k then 1 else if i = 0 then E 2 else if i = 1 then E 3 else if i = 2 then E 4 else 0) : MDX E md := fun i hi => by
  rw [h i hi]
  unfold f_X0_modulusAt
  rw [h0]
  have ek : nI i = nI k ↔ i = k := nI_eq (by omega) (by omega)
  have e0 : nI i = 0 ↔ i = 0 := nI_eq (b := 0) (by omega) (by omega)
  have e1 : nI i = 1 ↔ i = 1 := nI_eq (b := 1) (by omega) (by omega)
  have e2 : nI i = 2 ↔ i = 2 := nI_eq (b := 2) (by omega) (by omega)
  by_cases c : i = k
  · rw [if_pos (ek.mpr c), if_pos c]
  · rw [if_neg (fun z => c (ek.mp z)), if_neg c]
    by_cases c : i = 0
    · rw [if_pos (e0.mpr c), if_pos c]
    · rw [if_neg (fun z => c (e0.mp z)), if_neg c]
      by_cases c : i = 1
      · rw [if_pos (e1.mpr c), if_pos c]
      · rw [if_neg (fun z => c (e1.mp z)), if_neg c]
        by_cases c : i = 2
        · rw [if_pos (e2.mpr c), if_pos c]
        · rw [if_neg (fun z => c (e2.mp z)), if_neg c]
/-- the class's new field: its numbers -/
def EB (E : (Nat → Int32)) (a b c d e g : Int32) : (Nat → Int32) := va_up (va_up (va_up (va_up (va_up (va_up E 0 a) 1 b) 2 c) 3 d) 4 e) 5 g
theorem become_ok {K : Type} [Lean.Grind.CommRing K] {cd : K → Int32} {kk : Int32} {md : (Nat → Int32)} {E : (Nat → Int32)} {a b c d e : Int32} {T : K} (hC : CX cd (EB E a b c d e (cd T)) kk md) (hC' : ∀ x, CX cd (va_up (EB E a b c d e (cd T)) 6 x) kk md) {fu : Nat} (hfu : 64 ≤ fu) : (f_X0_power fu (EB E a b c d e (cd T)) (EB E a b c d e (cd T) 5) 101).bind (fun u12 => (f_X0_times (va_up (EB E a b c d e (cd T)) 6 u12) (va_up (EB E a b c d e (cd T)) 6 u12 6) (va_up (EB E a b c d e (cd T)) 6 u12 6)).bind (fun u14 => some ((1 : Int32), va_up (va_up (EB E a b c d e (cd T)) 6 u12) 7 u14))) = some (1, va_up (va_up (EB E a b c d e (cd T)) 6 (cd (T ^ 101))) 7 (cd (T ^ 101 * T ^ 101))) := by
  have e5 : EB E a b c d e (cd T) 5 = cd T := va_up_self _ _ _
  rw [e5, show (101 : Int32) = nI 101 from rfl, P_pow hC (by omega) T (by decide), Option.bind_some, va_up_self, (hC' _).2.2.2.2.1, Option.bind_some]
theorem EB_at (E : (Nat → Int32)) (a b c d e g x y : Int32) : (va_up (va_up (EB E a b c d e g) 6 x) 7 y) 0 = a ∧ (va_up (va_up (EB E a b c d e g) 6 x) 7 y) 1 = b ∧ (va_up (va_up (EB E a b c d e g) 6 x) 7 y) 2 = c ∧ (va_up (va_up (EB E a b c d e g) 6 x) 7 y) 3 = d ∧ (va_up (va_up (EB E a b c d e g) 6 x) 7 y) 4 = e ∧ (va_up (va_up (EB E a b c d e g) 6 x) 7 y) 5 = g ∧ (va_up (va_up (EB E a b c d e g) 6 x) 7 y) 6 = x ∧ (va_up (va_up (EB E a b c d e g) 6 x) 7 y) 7 = y := ⟨rfl, rfl, rfl, rfl, rfl, rfl, rfl, rfl⟩
theorem EB_at6 (E : (Nat → Int32)) (a b c d e g x : Int32) : (va_up (EB E a b c d e g) 6 x) 0 = a ∧ (va_up (EB E a b c d e g) 6 x) 2 = c ∧ (va_up (EB E a b c d e g) 6 x) 3 = d ∧ (va_up (EB E a b c d e g) 6 x) 4 = e := ⟨rfl, rfl, rfl, rfl⟩
theorem EB_at5 (E : (Nat → Int32)) (a b c d e g : Int32) : EB E a b c d e g 0 = a ∧ EB E a b c d e g 2 = c ∧ EB E a b c d e g 3 = d ∧ EB E a b c d e g 4 = e := ⟨rfl, rfl, rfl, rfl⟩
/-- the reference's modulus -/
def MB (md : (Nat → Int32)) (a b c d : Int32) : (Nat → Int32) := upd (upd (upd (upd md 0 a) 1 b) 2 c) 3 d
theorem MB_at (md : (Nat → Int32)) (a b c d : Int32) : MB md a b c d 0 = a ∧ MB md a b c d 1 = b ∧ MB md a b c d 2 = c ∧ MB md a b c d 3 = d := ⟨rfl, rfl, rfl, rfl⟩
theorem neg_e (m0 : Z1) : jrem (101 - nI m0.val) 101 = e3 (-m0) 0 0 := by
  have := m0.isLt
  rw [show (101 : Int32) - nI m0.val = nI (101 - m0.val) by rw [show (101 : Int32) = nI 101 from rfl, pk_sub (by omega)], jr_n (by omega), e3_lt]
  congr 1
