/-! Parts of one degree are taken apart: all elements. -/
theorem md_w {a b q : Nat} (ha : a < q) (hb : b < q) (h : ¬ a + b < q) : (a + b) % q = a + b - q := by rw [Nat.mod_eq_sub_mod (by omega), Nat.mod_eq_of_lt (by omega)]
def stq (q : Nat) : Nat := q * 382 / 1000
theorem walk {q n : Nat} (hq : q = 101 ∨ q = 10201 ∨ q = 1030301) (hn : n < q) : ∃ u, u < q ∧ (u + 1) * stq q % q = n := by
  have gen : ∀ w, w * stq q % q = 1 → ∃ u, u < q ∧ (u + 1) * stq q % q = n := fun w hw => by
    have q0 : 0 < q := by omega
    refine ⟨(n * w + q - 1) % q, Nat.mod_lt _ q0, ?_⟩
    have h1 : ((n * w + q - 1) % q + 1) % q = n * w % q := by
      rw [Nat.mod_add_mod, show n * w + q - 1 + 1 = n * w + q by omega, Nat.add_mod_right]
    rw [Nat.mul_mod, h1, ← Nat.mul_mod, Nat.mul_assoc, Nat.mul_mod, hw, Nat.mul_one, Nat.mod_mod, Nat.mod_eq_of_lt hn]
  rcases hq with h | h | h <;> subst h
  · exact gen 8 (by decide)
  · exact gen 3286 (by decide)
  · exact gen 1013513 (by decide)
theorem pr_cst {K R : Type} [Lean.Grind.CommRing K] [Lean.Grind.CommRing R] {cf : R → Nat → K} {deg : R → Nat} {mon : R → Prop} {X : R} {Cc : K → R} {Kl : List R} {q : Nat} (hR : PR cf deg mon X Cc Kl q) {e : R} (h : deg e = 0) : e = Cc (cf e 0) := pr_ext hR (fun i => by
  rw [pr_C hR]
  show cf e i = if i = 0 then cf e 0 else 0
  by_cases c : i = 0
  · rw [if_pos c, c]
  · rw [if_neg c]
    by_cases z : e = 0
    · rw [z, pr_0 hR]
    · have := pr_dl hR e
      rw [pr_sq hR z, h] at this
      exact this i (by omega))
theorem sepd {K R : Type} [Lean.Grind.CommRing K] [Lean.Grind.CommRing R] {cf : R → Nat → K} {deg : R → Nat} {mon : R → Prop} {X : R} {Cc : K → R} {Kl : List R} {q : Nat} (hR : PR cf deg mon X Cc Kl q) {d : Nat} (hd : d = 1 ∨ d = 2) {p r : R} (hp : irr deg mon p) (hr : irr deg mon r) (dp : deg p = d) (dr : deg r = d) (hne : ¬ p = r) : ∃ a : K, ¬ (dv p ((X + Cc a) ^ ((q ^ d - 1) / 2) - 1) ↔ dv r ((X + Cc a) ^ ((q ^ d - 1) / 2) - 1)) := by
  have hA := pr_ax hR
  obtain ⟨m, hm⟩ : ∃ m, q = 2 * m + 1 := ⟨q / 2, by rcases hA.2.2.2.2.2.2.2.2.1 with h | h | h <;> rw [h]⟩
  rcases hd with h | h
  · subst h
    obtain ⟨a, ha, ea⟩ := lin_form hA hp.1 dp
    obtain ⟨b, hb, eb⟩ := lin_form hA hr.1 dr
    obtain ⟨e, he, h1⟩ := sep1 hA hm ha hb (fun q => hne (by rw [ea, eb, q]))
    refine ⟨cf e 0, ?_⟩
    rw [← pr_cst hR he, show (q ^ 1 - 1) / 2 = m by rw [Nat.pow_one]; omega, ea, eb]
    exact h1
  · subst h
    obtain ⟨e, he, h1⟩ := sep2 hA hm hp hr dp dr hne
    refine ⟨cf e 0, ?_⟩
    have e2 : (q ^ 2 - 1) / 2 = (q + 1) * m := by
      have : q ^ 2 = 2 * ((q + 1) * m) + 1 := by
        rw [hm, Nat.pow_two]
        have e1 : (2 * m + 1) * (2 * m + 1) = 2 * m * (2 * m) + 2 * m + 2 * m + 1 := by
          rw [Nat.mul_add, Nat.add_mul, Nat.mul_one, Nat.one_mul]; omega
        have e2 : (2 * m + 1 + 1) * m = 2 * m * m + 2 * m := by
          rw [Nat.add_mul, Nat.add_mul, Nat.one_mul]; omega
        have e3 : 2 * m * (2 * m) = 2 * (2 * m * m) := by rw [Nat.mul_comm (2 * m) (2 * m), Nat.mul_assoc 2 m (2 * m), Nat.mul_comm m (2 * m)]
        omega
      omega
    rw [← pr_cst hR he, e2]
    exact h1
theorem AG_sub {R : Type} [Lean.Grind.CommRing R] {V : R} {l l' : List R} (h : AG V l) (hs : ∀ p ∈ l', p ∈ l) : AG V l' := fun p hp p' hp' => h p (hs p hp) p' (hs p' hp')
theorem P_sep_o {K R : Type} [Lean.Grind.CommRing K] [Lean.Grind.CommRing R] {cd : K → Int32} {E : Nat → Int32} {kk : Int32} {md : Nat → Int32} {mn : Int64} {q k : Nat} {T : K} (hL : FL cd E kk md mn q k T) {cf : R → Nat → K} {deg : R → Nat} {mon : R → Prop} {X : R} {Cc : K → R} {Kl : List R} (hR : PR cf deg mon X Cc Kl q) {d : Nat} (hd : d = 1 ∨ d = 2) {P : Nat → Fin 20} (hP : PI P) {L : List R} (hL1 : ∀ p ∈ L, irr deg mon p) (hL2 : L.Nodup) (hdu : deg (lp L) ≤ 5) {first : Nat} (kc : Int32 → Int32 → Int32 → (Fin 20 → Nat → Int32) → (Nat → Int32) → Option ((Fin 20 → Nat → Int32) × (Nat → Int32))) (fu : Nat) (hfu : 42 ≤ fu) : ∀ (e t n : Nat) (M : (Fin 20 → Nat → Int32)) (N : (Nat → Int32)) (W : List (List R)) (x9 : Int32), e + t = q → first ≤ W.length → WS deg W L first d → PL cd cf M P (W.map lp) → N 0 = nI W.length → (∀ u, u < t → ∀ a : K, cd a = nI ((u + 1) * stq q % q) → ∀ j l, first ≤ j → W[j]? = some l → AG ((X + Cc a) ^ ((q ^ d - 1) / 2) - 1) l) → (x9 = 0 → ∀ j l, first ≤ j → W[j]? = some l → l.length ≤ 1) → e < n → ∃ y1 y2 y3 M' N' W', f_X3_separate_l44 kc fu E P (nI first) (nI d) (nI q) (nI (stq q)) (lN ((q ^ d - 1) / 2)) n (nI ((t + 1) * stq q % q)) x9 (nI t) M N = kc y1 y2 y3 M' N' ∧ SO cd cf deg P L first d M N W M' N' W' ∧ ∀ j l, first ≤ j → W'[j]? = some l → l.length ≤ 1 := by
  have hC := hL.1
  have hE := pr_eu hR
  have hq := q_d hL hd
  intro e
  induction e with
  | zero =>
    intro t n M N W x9 ht hfW hW hPL hN hA hx hn
    obtain ⟨n, rfl⟩ : ∃ n', n = n' + 1 := ⟨n - 1, by omega⟩
    refine ⟨nI ((t + 1) * stq q % q), x9, nI t, M, N, W, by rw [f_X3_separate_l44, if_pos (nI_le (by omega) (by omega))], SO_rf hW hPL hN, fun j l hj hl => ?_⟩
    match l, hl with
    | [], _ => exact Nat.zero_le _
    | [x], _ => exact Nat.le_refl _
    | x :: y :: l, hl =>
      exfalso
      have lnd : (x :: y :: l).Nodup := fl_nd (hW.2.1.symm.nodup hL2) hl
      have li : ∀ p ∈ x :: y :: l, irr deg mon p ∧ deg p = d := fun p hp => ⟨hL1 p (hW.2.1.mem_iff.mp (fl_mem hl hp)), hW.2.2 j _ hj hl p hp⟩
      have hx := li x List.mem_cons_self
      have hy := li y (List.mem_cons_of_mem _ List.mem_cons_self)
      have hne : ¬ x = y := fun q => by
        rw [List.nodup_cons] at lnd
        exact lnd.1 (q ▸ List.mem_cons_self)
      obtain ⟨a, ha⟩ := sepd hR hd hx.1 hy.1 hx.2 hy.2 hne
      obtain ⟨m, hm, em⟩ := hL.2.2.2.2.2.2.1 a
      obtain ⟨u, hu, eu⟩ := walk hL.2.1.2.2.1 hm
      exact ha (hA u (by omega) a (by rw [eu]; exact em) j _ hj hl x List.mem_cons_self y (List.mem_cons_of_mem _ List.mem_cons_self))
  | succ e ih =>
    intro t n M N W x9 ht hfW hW hPL hN hA hx hn
    obtain ⟨n, rfl⟩ : ∃ n', n = n' + 1 := ⟨n - 1, by omega⟩
    rw [f_X3_separate_l44, if_neg (nI_ge (by omega) (by omega))]
    by_cases c0 : x9 = 0
    · rw [if_pos c0]
      exact ⟨_, _, _, M, N, W, rfl, SO_rf hW hPL hN, hx c0⟩
    · rw [if_neg c0]
      simp only [nm]
      have hl5 := WS_len hE hW hL1
      have hlt : (t + 1) * stq q % q < q := Nat.mod_lt _ (by omega)
      obtain ⟨a, ha⟩ := hL.2.2.2.2.2.2.2 _ hlt
      have hh : (q ^ d - 1) / 2 < 2 ^ 41 := by omega
      obtain ⟨x9', y, M', N', W', b1, b2, b3, b4⟩ := P_sep_i hL hR hd hP hL1 hL2 hdu (first := first) (e := W.length) hh a (fun y52 y53 M54 N55 => ((if nI ((t + 1) * stq q % q) + nI (stq q) < nI q then some (nI ((t + 1) * stq q % q) + nI (stq q)) else some (nI ((t + 1) * stq q % q) + nI (stq q) - nI q) : Option Int32)).bind (fun w57 => f_X3_separate_l44 kc fu E P (nI first) (nI d) (nI q) (nI (stq q)) (lN ((q ^ d - 1) / 2)) n w57 y52 (nI t + 1) M54 N55)) fu hfu (nI q) (nI (stq q)) (nI t) (W.length - first) first fu M N W 0 (by omega) (Nat.le_refl _) (Nat.le_refl _) hW hPL hN (fun j l hj hj2 hl => by
          have := (List.getElem?_eq_some_iff.mp hl).1
          omega) (fun _ => ⟨rfl, fun j l hj hj2 hl => by omega⟩) (by omega)
      rw [ha] at b1
      rw [hN, b1, nI_1]
      have hst : stq q < q := by unfold stq; omega
      have nx : ((if nI ((t + 1) * stq q % q) + nI (stq q) < nI q then some (nI ((t + 1) * stq q % q) + nI (stq q)) else some (nI ((t + 1) * stq q % q) + nI (stq q) - nI q) : Option Int32)) = some (nI ((t + 1 + 1) * stq q % q)) := by
        have e1 : (t + 1 + 1) * stq q % q = ((t + 1) * stq q % q + stq q) % q := by
          rw [Nat.add_mul (t + 1) 1, Nat.one_mul, Nat.mod_add_mod]
        rw [e1, nI_add]
        by_cases c2 : (t + 1) * stq q % q + stq q < q
        · rw [if_pos (nI_lt c2 (by omega)), Nat.mod_eq_of_lt c2]
        · rw [if_neg (nI_nlt (by omega) (by omega)), pk_sub (by omega), md_w hlt hst c2]
      rw [nx, Option.bind_some]
      have pre : first ≤ W'.length := by
        by_cases c3 : first ≤ W'.length
        · exact c3
        · have h6 := b2.2.2.2.2.2.1 W'.length (by omega)
          rw [List.getElem?_eq_none (Nat.le_refl _)] at h6
          have := List.getElem?_eq_none_iff.mp h6.symm
          omega
      obtain ⟨y1, y2, y3, M'', N'', W'', d1, d2, d3⟩ := ih (t + 1) n M' N' W' x9' (by omega) pre b2.1 b2.2.1 b2.2.2.1 (fun u hu a' ha' j l hj hl => by
        by_cases c3 : u = t
        · have : a' = a := hC.1 _ _ (by rw [ha', ha, c3])
          rw [this]
          exact b3 j l hj hl
        · obtain ⟨j0, l0, q1, q2, q3⟩ := b2.2.2.2.2.1 j l hj hl
          exact AG_sub (hA u (by omega) a' ha' j0 l0 q1 q2) q3) b4 (by omega)
      exact ⟨y1, y2, y3, M'', N'', W'', d1, SO_tr b2 d2, d3⟩
theorem P_sep {K R : Type} [Lean.Grind.CommRing K] [Lean.Grind.CommRing R] {cd : K → Int32} {E : Nat → Int32} {kk : Int32} {md : Nat → Int32} {mn : Int64} {q k : Nat} {T : K} (hL : FL cd E kk md mn q k T) {cf : R → Nat → K} {deg : R → Nat} {mon : R → Prop} {X : R} {Cc : K → R} {Kl : List R} (hR : PR cf deg mon X Cc Kl q) {d : Nat} (hd : d = 1 ∨ d = 2) {P : Nat → Fin 20} (hP : PI P) {L : List R} (hL1 : ∀ p ∈ L, irr deg mon p) (hL2 : L.Nodup) (hdu : deg (lp L) ≤ 5) {first : Nat} {M : (Fin 20 → Nat → Int32)} {N : (Nat → Int32)} {W : List (List R)} (hfW : first ≤ W.length) (hW : WS deg W L first d) (hPL : PL cd cf M P (W.map lp)) (hN : N 0 = nI W.length) {fu : Nat} (hfu : 1030400 ≤ fu) : ∃ M' N' W', f_X3_separate fu M E P N (nI first) (nI d) = some (M', N') ∧ SO cd cf deg P L first d M N W M' N' W' ∧ ∀ j l, first ≤ j → W'[j]? = some l → l.length ≤ 1 := by
  have hq := q_d hL hd
  have hq1 : q ≤ 1030301 := by rcases hL.2.1.2.2.1 with h | h | h <;> omega
  unfold f_X3_separate
  simp only [nm]
  have e1 : nI q * 382 / 1000 = nI (stq q) := by
    rw [show (382 : Int32) = nI 382 from rfl, show (1000 : Int32) = nI 1000 from rfl, pk_mul, pk_div (by omega) (by omega) (by omega)]; rfl
  have e2 : (lN (q ^ d) - 1) / 2 = lN ((q ^ d - 1) / 2) := by
    rw [show (1 : Int64) = lN 1 from rfl, show (2 : Int64) = lN 2 from rfl, lN_sub (by omega), pk_lDiv (by omega) (by omega) (by omega)]
  rw [hL.2.1.2.2.2.1, P_size hL hd, Option.bind_some, e1, e2]
  obtain ⟨y1, y2, y3, M'', N'', W'', d1, d2, d3⟩ := P_sep_o hL hR hd hP hL1 hL2 hdu (fun y59 y60 y61 M62 N63 => some (M62, N63)) fu (by omega) q 0 fu M N W 1 (by omega) hfW hW hPL hN (fun u hu => by omega) (fun q => absurd q (by decide)) (by omega)
  have e3 : (0 + 1) * stq q % q = stq q := by
    rw [Nat.zero_add, Nat.one_mul, Nat.mod_eq_of_lt (by unfold stq; omega)]
  rw [e3] at d1
  exact ⟨M'', N'', W'', d1, d2, d3⟩
