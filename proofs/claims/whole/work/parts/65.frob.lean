/-! To the power of 101, where 101 is 0: sums go through it. -/
def bin : Nat → Nat → Nat
  | _, 0 => 1
  | 0, _ + 1 => 0
  | n + 1, k + 1 => bin n k + bin n (k + 1)
theorem bin_0 (n : Nat) : bin n 0 = 1 := by cases n <;> rfl
theorem bin_big : ∀ (n k : Nat), n < k → bin n k = 0 := by
  intro n
  induction n with
  | zero => intro k h; cases k with
    | zero => omega
    | succ k => rfl
  | succ n ih => intro k h; cases k with
    | zero => omega
    | succ k => rw [bin, ih k (by omega), ih (k + 1) (by omega)]
theorem bin_self (n : Nat) : bin n n = 1 := by
  induction n with
  | zero => rfl
  | succ n ih => rw [bin, ih, bin_big n (n + 1) (by omega)]
theorem bin_abs : ∀ (n k : Nat), (k + 1) * bin (n + 1) (k + 1) = (n + 1) * bin n k := by
  intro n
  induction n with
  | zero => intro k; cases k with
    | zero => rfl
    | succ k => rw [bin_big (0 + 1) (k + 1 + 1) (by omega), bin_big 0 (k + 1) (by omega), Nat.mul_zero, Nat.mul_zero]
  | succ n ih =>
    intro k
    cases k with
    | zero =>
      have h := ih 0
      rw [bin_0] at h ⊢
      rw [bin, bin_0]
      omega
    | succ k =>
      have h1 := ih k
      have h2 := ih (k + 1)
      rw [bin, Nat.mul_add, h2, show (k + 1 + 1) * bin (n + 1) (k + 1) = (k + 1) * bin (n + 1) (k + 1) + bin (n + 1) (k + 1) by rw [Nat.add_mul, Nat.one_mul], h1]
      rw [show bin (n + 1) (k + 1) = bin n k + bin n (k + 1) from rfl]
      rw [show n + 1 + 1 = (n + 1) + 1 from rfl, Nat.add_mul (n + 1) 1, Nat.mul_add]
      omega
theorem bin_101 (k : Nat) (h0 : 0 < k) (h1 : k < 101) : 101 ∣ bin 101 k := by
  obtain ⟨j, rfl⟩ : ∃ j, k = j + 1 := ⟨k - 1, by omega⟩
  have h := bin_abs 100 j
  have hc : Nat.Coprime 101 (j + 1) := by
    have : ∀ i, i < 101 → 0 < i → Nat.gcd 101 i = 1 := by decide
    exact this (j + 1) h1 h0
  exact Nat.Coprime.dvd_of_dvd_mul_left hc ⟨bin 100 j, h⟩
/-- numbers in the ring -/
theorem nc_mul {R : Type} [Lean.Grind.CommRing R] (m n : Nat) : (OfNat.ofNat (m * n) : R) = OfNat.ofNat m * OfNat.ofNat n := by
  induction n with
  | zero => rw [Nat.mul_zero]; grind
  | succ n ih =>
    have h : ∀ a b : Nat, (OfNat.ofNat (a + b) : R) = OfNat.ofNat a + OfNat.ofNat b := by
      intro a b
      induction b with
      | zero => rw [Nat.add_zero]; grind
      | succ b ih => rw [← Nat.add_assoc, Lean.Grind.Semiring.ofNat_succ (α := R) (a + b), ih, Lean.Grind.Semiring.ofNat_succ (α := R) b]; grind
    rw [Nat.mul_succ, h, ih, Lean.Grind.Semiring.ofNat_succ (α := R) n]; grind
theorem nc_add {R : Type} [Lean.Grind.CommRing R] (a b : Nat) : (OfNat.ofNat (a + b) : R) = OfNat.ofNat a + OfNat.ofNat b := by
  induction b with
  | zero => rw [Nat.add_zero]; grind
  | succ b ih => rw [← Nat.add_assoc, Lean.Grind.Semiring.ofNat_succ (α := R) (a + b), ih, Lean.Grind.Semiring.ofNat_succ (α := R) b]; grind
theorem nc_dvd {R : Type} [Lean.Grind.CommRing R] (hc : (101 : R) = 0) {n : Nat} (h : 101 ∣ n) : (OfNat.ofNat n : R) = 0 := by
  obtain ⟨k, rfl⟩ := h
  rw [nc_mul]
  have : (OfNat.ofNat 101 : R) = 0 := hc
  rw [this]; grind
theorem binom {R : Type} [Lean.Grind.CommRing R] (a b : R) (n : Nat) : (a + b) ^ n = sm (fun k => OfNat.ofNat (bin n k) * (a ^ k * b ^ (n - k))) (n + 1) := by
  induction n with
  | zero =>
    rw [Lean.Grind.Semiring.pow_zero, sm, sm]
    show (1 : R) = 0 + OfNat.ofNat 1 * (a ^ 0 * b ^ 0)
    rw [Lean.Grind.Semiring.pow_zero, Lean.Grind.Semiring.pow_zero]; grind
  | succ n ih =>
    rw [Lean.Grind.Semiring.pow_succ, ih]
    have e1 : sm (fun k => OfNat.ofNat (bin (n + 1) k) * (a ^ k * b ^ (n + 1 - k))) (n + 1 + 1) = b ^ (n + 1) + sm (fun k => OfNat.ofNat (bin n k) * (a ^ (k + 1) * b ^ (n - k)) + OfNat.ofNat (bin n (k + 1)) * (a ^ (k + 1) * b ^ (n - k))) (n + 1) := by
      rw [sm_first]
      congr 1
      · show (OfNat.ofNat (bin (n + 1) 0) : R) * (a ^ 0 * b ^ (n + 1 - 0)) = _
        rw [bin_0, Lean.Grind.Semiring.pow_zero]; grind
      · refine sm_congr (fun k hk => ?_)
        show (OfNat.ofNat (bin n k + bin n (k + 1)) : R) * (a ^ (k + 1) * b ^ (n + 1 - (k + 1))) = _
        rw [nc_add, show n + 1 - (k + 1) = n - k by omega]; grind
    rw [e1, sm_add]
    have e2 : sm (fun k => OfNat.ofNat (bin n k) * (a ^ (k + 1) * b ^ (n - k))) (n + 1) = a * sm (fun k => OfNat.ofNat (bin n k) * (a ^ k * b ^ (n - k))) (n + 1) := by
      rw [← sm_mul]
      exact sm_congr (fun k _ => by rw [Lean.Grind.Semiring.pow_succ]; grind)
    have e3 : b ^ (n + 1) + sm (fun k => OfNat.ofNat (bin n (k + 1)) * (a ^ (k + 1) * b ^ (n - k))) (n + 1) = b * sm (fun k => OfNat.ofNat (bin n k) * (a ^ k * b ^ (n - k))) (n + 1) := by
      rw [sm_first (fun k => OfNat.ofNat (bin n k) * (a ^ k * b ^ (n - k))) n, sm]
      have e4 : sm (fun k => OfNat.ofNat (bin n (k + 1)) * (a ^ (k + 1) * b ^ (n - k))) n = b * sm (sh (fun k => OfNat.ofNat (bin n k) * (a ^ k * b ^ (n - k)))) n := by
        rw [← sm_mul]
        refine sm_congr (fun k hk => ?_)
        show _ = b * (OfNat.ofNat (bin n (k + 1)) * (a ^ (k + 1) * b ^ (n - (k + 1))))
        rw [show n - k = (n - (k + 1)) + 1 by omega, Lean.Grind.Semiring.pow_succ]; grind
      rw [e4, bin_big n (n + 1) (by omega), bin_0, Lean.Grind.Semiring.pow_zero, Lean.Grind.Semiring.pow_succ]
      show _ = b * (OfNat.ofNat 1 * (1 * b ^ (n - 0)) + _)
      rw [Nat.sub_zero]; grind
    rw [e2]
    grind
theorem frob {R : Type} [Lean.Grind.CommRing R] (hc : (101 : R) = 0) (a b : R) : (a + b) ^ 101 = a ^ 101 + b ^ 101 := by
  rw [binom, sm, sm_first]
  have e : sm (sh (fun k => OfNat.ofNat (bin 101 k) * (a ^ k * b ^ (101 - k)))) 100 = 0 := sm_zero (fun k hk => by
    show (OfNat.ofNat (bin 101 (k + 1)) : R) * (a ^ (k + 1) * b ^ (101 - (k + 1))) = 0
    rw [nc_dvd hc (bin_101 (k + 1) (by omega) (by omega))]; grind)
  rw [e, bin_0, bin_self, Lean.Grind.Semiring.pow_zero, Lean.Grind.Semiring.pow_zero]
  show OfNat.ofNat 1 * (1 * b ^ (101 - 0)) + 0 + OfNat.ofNat 1 * (a ^ 101 * 1) = _
  rw [Nat.sub_zero]; grind
