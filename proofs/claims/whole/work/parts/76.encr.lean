/-! The reference's products are the same. -/
theorem acc_n (u x y : Z1) : jrem (nI u.val + nI x.val * nI y.val) 101 = nI (u + x * y).val := by
  have b := bnd x y
  have := u.isLt
  rw [pk_mul, nI_add, jr_n (by omega), ← zc_val, zc_add, zc_mul, zc_of, zc_of, zc_of]
theorem acc_0 (x y : Z1) : jrem (0 + nI x.val * nI y.val) 101 = nI (x * y).val := by
  have h := acc_n 0 x y
  rw [show nI (0 : Z1).val = 0 from rfl] at h
  rw [h]
  congr 2; grind
theorem mds_n (u m c : Z1) : md_s (nI u.val) (nI m.val) (nI c.val) = nI (u - m * c).val := by
  have := u.isLt; have := m.isLt; have := c.isLt
  have b : (101 - m.val) * c.val ≤ 101 * 100 := Nat.mul_le_mul (by omega) (by omega)
  unfold md_s
  rw [i101, pk_sub (by omega), pk_mul, nI_add, ← i101, jr_n (by omega), ← zc_val, zc_add, zc_mul, zc_neg (by omega), zc_of, zc_of, zc_of]
  congr 2; grind
theorem e3_sum (x y z : Z1) : nI x.val + 101 * nI y.val + 10201 * nI z.val = e3 x y z := by
  rw [i101, i10201, pk_mul, pk_mul, nI_add, nI_add]; rfl
theorem e3_sum2 (x y : Z1) : nI x.val + 101 * nI y.val = e3 x y 0 := by
  rw [i101, pk_mul, nI_add]; rfl
theorem md_a0_e (x y z : Z1) : md_a0 (e3 x y z) = nI x.val := e3_0 x y z
theorem md_a1_e (x y z : Z1) : md_a1 (e3 x y z) = nI y.val := e3_1 x y z
theorem md_a2_e (x y z : Z1) : md_a2 (e3 x y z) = nI z.val := e3_2 x y z
theorem md_d0_e (x y z x' y' z' : Z1) : md_d0 (e3 x y z) (e3 x' y' z') = nI (x * x').val := by
  unfold md_d0; rw [md_a0_e, md_a0_e, acc_0]
theorem md_d1_e (x y z x' y' z' : Z1) : md_d1 (e3 x y z) (e3 x' y' z') = nI (x * y' + y * x').val := by
  unfold md_d1; rw [md_a0_e, md_a0_e, md_a1_e, md_a1_e, acc_0, acc_n]
theorem md_d2_e (x y z x' y' z' : Z1) : md_d2 (e3 x y z) (e3 x' y' z') = nI (x * z' + y * y' + z * x').val := by
  unfold md_d2; rw [md_a0_e, md_a0_e, md_a1_e, md_a1_e, md_a2_e, md_a2_e, acc_0, acc_n, acc_n]
theorem md_d3_e (x y z x' y' z' : Z1) : md_d3 (e3 x y z) (e3 x' y' z') = nI (y * z' + z * y').val := by
  unfold md_d3; rw [md_a1_e, md_a1_e, md_a2_e, md_a2_e, acc_0, acc_n]
theorem md_d4_e (x y z x' y' z' : Z1) : md_d4 (e3 x y z) (e3 x' y' z') = nI (z * z').val := by
  unfold md_d4; rw [md_a2_e, md_a2_e, acc_0]
theorem P_rtimes3 {fu : Nat} (hfu : 10 ≤ fu) {md : Nat → Int32} {m0 m1 m2 : Z1} (h0 : md 0 = nI m0.val) (h1 : md 1 = nI m1.val) (h2 : md 2 = nI m2.val) (a b : Z1 × Z1 × Z1) : f_X5_times fu 3 md (e3 a.1 a.2.1 a.2.2) (e3 b.1 b.2.1 b.2.2) = some (e3 (k3m m0 m1 m2 a b).1 (k3m m0 m1 m2 a b).2.1 (k3m m0 m1 m2 a b).2.2) := by
  unfold f_X5_times
  rw [if_neg (by omega), if_neg (by decide), if_neg (by decide), if_pos rfl]
  unfold md_r3 md_r3b
  rw [md_d0_e, md_d1_e, md_d2_e, md_d3_e, md_d4_e, h0, h1, h2, mds_n, mds_n, mds_n, mds_n, mds_n, mds_n, e3_sum]
  obtain ⟨x, y, z⟩ := a
  obtain ⟨x', y', z'⟩ := b
  simp only [k3m, k3o3, k3o4]
  congr 2 <;> grind
theorem P_rtimes2 {fu : Nat} (hfu : 10 ≤ fu) {md : Nat → Int32} {m0 m1 : Z1} (h0 : md 0 = nI m0.val) (h1 : md 1 = nI m1.val) (a b : Z1 × Z1) : f_X5_times fu 2 md (e3 a.1 a.2 0) (e3 b.1 b.2 0) = some (e3 (k2m m0 m1 a b).1 (k2m m0 m1 a b).2 0) := by
  unfold f_X5_times
  rw [if_neg (by omega), if_neg (by decide), if_pos rfl]
  unfold md_r2 md_r2c md_r2b
  rw [md_d0_e, md_d1_e, md_d2_e, md_d3_e, md_d4_e, h0, h1]
  obtain ⟨x, y⟩ := a
  obtain ⟨x', y'⟩ := b
  simp only [mds_n]
  rw [e3_sum2]
  simp only [k2m]
  congr 2 <;> grind
theorem P_rtimes1 {fu : Nat} (hfu : 10 ≤ fu) {md : Nat → Int32} {m0 : Z1} (h0 : md 0 = nI m0.val) (x x' : Z1) : f_X5_times fu 1 md (e3 x 0 0) (e3 x' 0 0) = some (e3 (x * x') 0 0) := by
  unfold f_X5_times
  rw [if_neg (by omega), if_pos rfl]
  unfold md_r1
  rw [md_d0_e, md_d1_e, md_d2_e, md_d3_e, md_d4_e, h0]
  simp only [mds_n]
  rw [e3_lt]
  congr 3; grind
/-- all elements, once each -/
def prl {α β : Type} (l : List α) (m : List β) : List (α × β) := l.flatMap (fun x => m.map (fun y => (x, y)))
theorem prl_mem {α β : Type} {l : List α} {m : List β} (hl : ∀ x, x ∈ l) (hm : ∀ y, y ∈ m) : ∀ q, q ∈ prl l m := fun q => List.mem_flatMap.mpr ⟨q.1, hl _, List.mem_map.mpr ⟨q.2, hm _, rfl⟩⟩
theorem prl_len {α β : Type} (l : List α) (m : List β) : (prl l m).length = l.length * m.length := by
  induction l with
  | nil => simp [prl]
  | cons a l ih =>
    have : prl (a :: l) m = m.map (fun y => (a, y)) ++ prl l m := by simp [prl]
    rw [this, List.length_append, List.length_map, ih, List.length_cons, Nat.succ_mul, Nat.add_comm]
theorem prl_nd {α β : Type} {m : List β} (hm : m.Nodup) : ∀ l : List α, l.Nodup → (prl l m).Nodup := by
  intro l
  induction l with
  | nil => intro _; simp [prl]
  | cons a l ih =>
    intro h
    rw [List.nodup_cons] at h
    have e : prl (a :: l) m = m.map (fun y => (a, y)) ++ prl l m := by simp [prl]
    rw [e]
    refine List.nodup_append.mpr ⟨?_, ih h.2, fun p hp q hq hpq => ?_⟩
    · have : ∀ k : List β, k.Nodup → (k.map (fun y => (a, y))).Nodup := by
        intro k
        induction k with
        | nil => intro _; exact List.nodup_nil
        | cons y k ih2 =>
          intro h2
          rw [List.nodup_cons] at h2
          rw [List.map_cons, List.nodup_cons]
          refine ⟨fun hm2 => ?_, ih2 h2.2⟩
          obtain ⟨w, hw, e2⟩ := List.mem_map.mp hm2
          exact h2.1 ((Prod.mk.inj e2).2 ▸ hw)
      exact this m hm
    · obtain ⟨y, -, e2⟩ := List.mem_map.mp hp
      obtain ⟨x, hx, hq2⟩ := List.mem_flatMap.mp hq
      obtain ⟨w, -, e3⟩ := List.mem_map.mp hq2
      have : a = x := by
        have h3 : (a, y) = (x, w) := by rw [e2, hpq, ← e3]
        exact (Prod.mk.inj h3).1
      exact h.1 (this ▸ hx)
def zl : List Z1 := List.finRange 101
theorem zl_mem (x : Z1) : x ∈ zl := List.mem_finRange x
theorem zl_nd : zl.Nodup := List.nodup_finRange 101
theorem zl_len : zl.length = 101 := List.length_finRange
theorem ax1 : @AX (PK Z1) (pkRing Z1) pdeg pmon pX (zl.map pC) 101 := pk_ax z_fld zl_nd zl_mem zl_len (by decide) (Or.inl rfl)
theorem len2 : (prl zl zl).length = 10201 := by rw [prl_len, zl_len]
theorem len3 : (prl zl (prl zl zl)).length = 1030301 := by rw [prl_len, prl_len, zl_len]
theorem ax2 {m0 m1 : Z1} (h : ∀ x : Z1, ¬ x * x + m1 * x + m0 = 0) : letI := k2Ring m0 m1; @AX (PK (K2 m0 m1)) (pkRing (K2 m0 m1)) pdeg pmon pX ((show List (K2 m0 m1) from prl zl zl).map pC) 10201 := by
  letI := k2Ring m0 m1
  exact pk_ax (K := K2 m0 m1) (k2_fld h) (L := prl zl zl) (prl_nd zl_nd zl zl_nd) (prl_mem zl_mem zl_mem) len2 rfl (Or.inr (Or.inl rfl))
theorem ax3 {m0 m1 m2 : Z1} (h : ∀ x : Z1, ¬ x * x * x + m2 * x * x + m1 * x + m0 = 0) : letI := k3Ring m0 m1 m2; @AX (PK (K3 m0 m1 m2)) (pkRing (K3 m0 m1 m2)) pdeg pmon pX ((show List (K3 m0 m1 m2) from prl zl (prl zl zl)).map pC) 1030301 := by
  letI := k3Ring m0 m1 m2
  exact pk_ax (K := K3 m0 m1 m2) (k3_fld h) (L := prl zl (prl zl zl)) (prl_nd (prl_nd zl_nd zl zl_nd) zl zl_nd) (prl_mem zl_mem (prl_mem zl_mem zl_mem)) len3 rfl (Or.inr (Or.inr rfl))
