/-! Powers of elements, as the class takes them. -/
theorem nI_and1 {m : Nat} (h : m < 2 ^ 31) : nI m &&& 1 = nI (m % 2) := by
  have := pk_andN (n := m) (by omega) (m := 1) 1 (by decide)
  rw [this]
theorem nI_shr1 {m : Nat} (h : m < 2 ^ 31) : nI m >>> ((1 : Int32) &&& 31) = nI (m / 2) := by
  have := pk_shrN (n := m) h ((1 : Int32) &&& 31) 1 (by decide)
  rw [this]
theorem P_pow_l {K : Type} [Lean.Grind.CommRing K] {cd : K → Int32} {E : Nat → Int32} {kk : Int32} {md : Nat → Int32} (hC : CX cd E kk md) (k : Int32 → Int32 → Int32 → Option Int32) (fu : Nat) (x1 x2 : Int32) : ∀ (n m : Nat) (r s : K), m < 2 ^ 31 → m < 2 ^ n → ∃ s', f_X0_power_l8 k fu E x1 x2 (n + 1) (cd r) (cd s) (nI m) = k (cd (r * s ^ m)) (cd s') 0 := by
  intro n
  induction n with
  | zero =>
    intro m r s _ h
    have e : m = 0 := by simpa using h
    subst e
    refine ⟨s, ?_⟩
    rw [f_X0_power_l8, if_pos (show nI 0 ≤ 0 by decide), Lean.Grind.Semiring.pow_zero, show r * 1 = r by grind]
    rfl
  | succ n ih =>
    intro m r s h31 h
    by_cases e : m = 0
    · subst e
      refine ⟨s, ?_⟩
      rw [f_X0_power_l8, if_pos (show nI 0 ≤ 0 by decide), Lean.Grind.Semiring.pow_zero, show r * 1 = r by grind]
      rfl
    · have hh : m / 2 < 2 ^ n := by rw [Nat.pow_succ] at h; omega
      rw [f_X0_power_l8, if_neg (nI_nle (by omega) h31)]
      simp only [nm]
      rw [nI_and1 h31, nI_shr1 h31]
      by_cases o : m % 2 = 1
      · rw [o, if_pos (show nI 1 = 1 from rfl), hC.2.2.2.2.1, Option.bind_some, Option.bind_some, hC.2.2.2.2.1, Option.bind_some]
        obtain ⟨s', hs⟩ := ih (m / 2) (r * s) (s * s) (by omega) hh
        refine ⟨s', hs.trans ?_⟩
        have e2 : r * s * (s * s) ^ (m / 2) = r * s ^ m := by
          rw [mul_pow', show s ^ m = s ^ (m / 2 + m / 2 + 1) by rw [show m / 2 + m / 2 + 1 = m by omega], pow_add', pow_add', Lean.Grind.Semiring.pow_succ, Lean.Grind.Semiring.pow_zero]; grind
        rw [e2]
      · have o2 : m % 2 = 0 := by omega
        rw [o2, if_neg (show ¬ nI 0 = 1 by decide), Option.bind_some, hC.2.2.2.2.1, Option.bind_some]
        obtain ⟨s', hs⟩ := ih (m / 2) r (s * s) (by omega) hh
        refine ⟨s', hs.trans ?_⟩
        have e2 : r * (s * s) ^ (m / 2) = r * s ^ m := by
          rw [mul_pow', show s ^ m = s ^ (m / 2 + m / 2) by rw [show m / 2 + m / 2 = m by omega], pow_add']
        rw [e2]
theorem P_pow {K : Type} [Lean.Grind.CommRing K] {cd : K → Int32} {E : Nat → Int32} {kk : Int32} {md : Nat → Int32} (hC : CX cd E kk md) {fu : Nat} (hfu : 32 ≤ fu) (a : K) {m : Nat} (hm : m < 2 ^ 31) : f_X0_power fu E (cd a) (nI m) = some (cd (a ^ m)) := by
  unfold f_X0_power
  obtain ⟨n, rfl⟩ : ∃ n, fu = n + 1 := ⟨fu - 1, by omega⟩
  obtain ⟨s', hs⟩ := P_pow_l hC (fun y9 y10 y11 => some y9) (n + 1) (cd a) (nI m) n m 1 a hm (Nat.lt_of_lt_of_le hm (Nat.pow_le_pow_right (by omega) (by omega)))
  rw [hC.2.1.2] at hs
  rw [hs, show (1 : K) * a ^ m = a ^ m by grind]
