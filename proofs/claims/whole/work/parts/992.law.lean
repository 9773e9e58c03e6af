/-! The law: its loop and its start. -/
theorem gt_test {i L : Nat} (hi : i ≤ 4096) (hL : L ≤ 4096) : nI L - nI 8 < nI i ↔ L < i + 8 := by
  by_cases c : 8 ≤ L
  · rw [pk_sub c, nI_ltI (by omega) (by omega)]; omega
  · have h1 : nI L - nI 8 < 0 := pk_sneg (by omega) (by omega)
    have h2 : (0 : Int32) ≤ nI i := nI_pos' (by omega)
    exact ⟨fun _ => by omega, fun _ => Int32.lt_of_lt_of_le h1 h2⟩
set_option maxHeartbeats 4000000 in
set_option maxRecDepth 100000 in
theorem law_loop {p : Program} {l : Launch} {e : Env} {s : State} {m : MethodId} {below : List Frame} {meth : Method} {c : Code} {b L : Nat} {xs : Nat → Int32} (hst : l.stackTraces = false) (hL : L ≤ 4096) (C0 : lw_At p s m meth c b L xs) {D : va_G} {cI cR cL : ClassId} (hK : va_K D vwCl [(cI, .int), (cR, .object RX2), (cL, .long)] s) (hN : nw_ok nw1 s) (hT : ts_ok (fun q : Nat => s.heap.size ≤ q) s s.heap) (hc : nc_ok s) {adC adR : Nat → Nat} {o : Nat} (hW : LW s adC adR o) : ∀ (n j : Nat) (M : Fin 20 → Nat → Int32) (E : Nat → Int32) (P : Nat → Fin 20) (C N : Nat → Int32) (th kk : Int32) (mn : Int64) (md rw dg : Nat → Int32) (kn fc : Int32) (oft : Nat → Int32) (H : Heap) (locs : List Loc) (ls : Array Slot), L < 8 * j + n → 8 * j ≤ 4096 → INV M E P C N kk mn md rw dg kn fc oft → LH D cI cR cL adC adR o (cellC cI cR adC M E P C N) th kk mn md rw dg kn fc oft H → va_S (fun q : Nat => s.heap.size ≤ q) s.heap H locs → lv_has ls 7 [(0, .ref b), (1, .ref (adC 45)), (2, .ref (adR 0)), (3, .ref o), (4, .int (nI (8 * j)))] → W p l e room_1 s m #[Value.ref b] below meth c H locs (53 + j) (831 + 6 * j) (lw_Z below #[Value.ref b] s) (F0 m 23 ls []) := by
  have C1 := C0
  obtain ⟨hx, hb, hr, hml, hown, hts, hX, hbl, hlocks, hgv⟩ := C1
  have hb : c.code = cL_law := hb
  have hbA : ¬ (fun q : Nat => s.heap.size ≤ q) b := Nat.not_le.mpr hbl
  intro n
  induction n with
  | zero =>
    intro j M E P C N th kk mn md rw dg kn fc oft H locs ls hn hj hI hH hS hl
    refine lv_iload hx hb dL_law_23 (lv_at hl 4 rfl) ?_
    refine lv_aload_n hx hb dL_law_25 rfl (lv_at hl 0 rfl) ?_
    refine va_slen hx hb hX hbl hbA hS dL_law_26 ?_
    refine lv_bipush (v := nI 8) hx hb dL_law_27 (by decide) ?_
    refine lv_isub hx hb dL_law_29 ?_
    refine lv_icmp_gt (tgt := 1137) hx hb dL_law_30 (by decide) (fun c9 => ?_) (fun c9 => absurd ((gt_test hj hL).mpr (by omega)) c9)
    refine lv_iconst (v := 1) hx hb dL_law_1137 (by decide) ?_
    refine va_forget (fun q h => hS.2.2 q h) ?_
    refine W.widen (k := 636428) (n := 7186819) (by omega) (by omega) ?_
    exact lw_ret hx hb hr hlocks dL_law_1138
  | succ n ih =>
    intro j M E P C N th kk mn md rw dg kn fc oft H locs ls hn hj hI hH hS hl
    refine lv_iload hx hb dL_law_23 (lv_at hl 4 rfl) ?_
    refine lv_aload_n hx hb dL_law_25 rfl (lv_at hl 0 rfl) ?_
    refine va_slen hx hb hX hbl hbA hS dL_law_26 ?_
    refine lv_bipush (v := nI 8) hx hb dL_law_27 (by decide) ?_
    refine lv_isub hx hb dL_law_29 ?_
    refine lv_icmp_gt (tgt := 1137) hx hb dL_law_30 (by decide) (fun c9 => ?_) (fun c9 => ?_)
    · refine lv_iconst (v := 1) hx hb dL_law_1137 (by decide) ?_
      refine va_forget (fun q h => hS.2.2 q h) ?_
      refine W.widen (k := 636428) (n := 7186819) (by omega) (by omega) ?_
      exact lw_ret hx hb hr hlocks dL_law_1138
    · have hi : 8 * j + 8 ≤ L := by
        by_cases z : L < 8 * j + 8
        · exact absurd ((gt_test hj hL).mpr z) c9
        · omega
      have nx : ∀ (M : Fin 20 → Nat → Int32) (E : Nat → Int32) (P : Nat → Fin 20) (C N : Nat → Int32) (th kk : Int32) (mn : Int64) (md rw dg : Nat → Int32) (kn fc : Int32) (oft : Nat → Int32) (H : Heap) (locs : List Loc) (ls : Array Slot), INV M E P C N kk mn md rw dg kn fc oft → LH D cI cR cL adC adR o (cellC cI cR adC M E P C N) th kk mn md rw dg kn fc oft H → va_S (fun q : Nat => s.heap.size ≤ q) s.heap H locs → lv_has ls 7 [(0, .ref b), (1, .ref (adC 45)), (2, .ref (adR 0)), (3, .ref o), (4, .int (nI (8 * j)))] → W p l e room_1 s m #[Value.ref b] below meth c H locs (53 + j + 1) (831 + 6 * j + 6) (lw_Z below #[Value.ref b] s) (F0 m 1131 ls []) := by
        intro M E P C N th kk mn md rw dg kn fc oft H locs ls hI hH hS hl
        refine lv_iinc (v := nI (8 * (j + 1))) (lv' := [(4, .int (nI (8 * (j + 1)))), (0, .ref b), (1, .ref (adC 45)), (2, .ref (adR 0)), (3, .ref o)]) hx hb dL_law_1131 hl (k := 4) rfl (by rw [show Int32.ofInt 8 = nI 8 from rfl, nI_add, show 8 * j + 8 = 8 * (j + 1) by omega]) (by decide) rfl (fun ls hl => ?_)
        refine lv_goto (tgt := 23) hx hb dL_law_1134 (by decide) ?_
        have h := ih (j + 1) M E P C N th kk mn md rw dg kn fc oft H locs ls (by omega) (by omega) hI hH hS (lv_sub hl [1, 2, 3, 4, 0] rfl)
        rw [show 53 + (j + 1) = 53 + j + 1 by omega, show 831 + 6 * (j + 1) = 831 + 6 * j + 6 by omega] at h
        exact h
      refine lv_aload_n hx hb dL_law_33 rfl (lv_at hl 0 rfl) ?_
      refine lv_iload hx hb dL_law_34 (lv_at hl 4 rfl) ?_
      refine va_sld hx hb hX hbl hbA hS (vp_in_nI (n := 8 * j) (by omega) (by omega)) dL_law_36 ?_
      refine lv_bipush (v := 15) hx hb dL_law_37 (by decide) ?_
      refine lv_iand hx hb dL_law_39 ?_
      obtain ⟨t, ht, et⟩ := pk_andE (xs (nI (8 * j)).toNatClampNeg) (m := 15) 4 (by decide)
      refine tp_I et ?_
      have hce : 53 + j + 1 ≤ 636428 := by omega
      have hsl : 831 + 6 * j + 6 ≤ 7186819 := by omega
      match t, ht with
      | 0, _ =>
        refine lv_tableIn (off := 80) (tgt := 120) hx hb dL_law_40 (by decide) (by decide) rfl (by decide) ?_
        exact LC_field hst hL C0 hK hN hT hc hW hI hi hce hsl hH hS hl nx
      | 1, _ =>
        refine lv_tableIn (off := 279) (tgt := 319) hx hb dL_law_40 (by decide) (by decide) rfl (by decide) ?_
        exact LC_modulus hst hL C0 hK hN hT hc hW hI hi hce hsl hH hS hl nx
      | 2, _ =>
        refine lv_tableIn (off := 335) (tgt := 375) hx hb dL_law_40 (by decide) (by decide) rfl (by decide) ?_
        exact LC_put hst hL C0 hK hN hT hc hW hI hi hce hsl hH hS hl nx
      | 3, _ =>
        refine lv_tableIn (off := 410) (tgt := 450) hx hb dL_law_40 (by decide) (by decide) rfl (by decide) ?_
        exact LC_at hst hL C0 hK hN hT hc hW hI hi hce hsl hH hS hl nx
      | 4, _ =>
        refine lv_tableIn (off := 466) (tgt := 506) hx hb dL_law_40 (by decide) (by decide) rfl (by decide) ?_
        exact LC_reckon hst hL C0 hK hN hT hc hW hI hi hce hsl hH hS hl nx
      | 5, _ =>
        refine lv_tableIn (off := 546) (tgt := 586) hx hb dL_law_40 (by decide) (by decide) rfl (by decide) ?_
        exact LC_known hst hL C0 hK hN hT hc hW hI hi hce hsl hH hS hl nx
      | 6, _ =>
        refine lv_tableIn (off := 614) (tgt := 654) hx hb dL_law_40 (by decide) (by decide) rfl (by decide) ?_
        exact LC_minimal hst hL C0 hK hN hT hc hW hI hi hce hsl hH hS hl nx
      | 7, _ =>
        refine lv_tableIn (off := 682) (tgt := 722) hx hb dL_law_40 (by decide) (by decide) rfl (by decide) ?_
        exact LC_value hst hL C0 hK hN hT hc hW hI hi hce hsl hH hS hl nx
      | 8, _ =>
        refine lv_tableIn (off := 738) (tgt := 778) hx hb dL_law_40 (by decide) (by decide) rfl (by decide) ?_
        exact LC_norm hst hL C0 hK hN hT hc hW hI hi hce hsl hH hS hl nx
      | 9, _ =>
        refine lv_tableIn (off := 763) (tgt := 803) hx hb dL_law_40 (by decide) (by decide) rfl (by decide) ?_
        exact LC_shift hst hL C0 hK hN hT hc hW hI hi hce hsl hH hS hl nx
      | 10, _ =>
        refine lv_tableIn (off := 807) (tgt := 847) hx hb dL_law_40 (by decide) (by decide) rfl (by decide) ?_
        exact LC_factors hst hL C0 hK hN hT hc hW hI hi hce hsl hH hS hl nx
      | 11, _ =>
        refine lv_tableIn (off := 851) (tgt := 891) hx hb dL_law_40 (by decide) (by decide) rfl (by decide) ?_
        exact LC_factor hst hL C0 hK hN hT hc hW hI hi hce hsl hH hS hl nx
      | 12, _ =>
        refine lv_tableIn (off := 919) (tgt := 959) hx hb dL_law_40 (by decide) (by decide) rfl (by decide) ?_
        exact LC_often hst hL C0 hK hN hT hc hW hI hi hce hsl hH hS hl nx
      | 13, _ =>
        refine lv_tableIn (off := 975) (tgt := 1015) hx hb dL_law_40 (by decide) (by decide) rfl (by decide) ?_
        exact LC_splitting hst hL C0 hK hN hT hc hW hI hi hce hsl hH hS hl nx
      | 14, _ =>
        refine lv_tableIn (off := 1019) (tgt := 1059) hx hb dL_law_40 (by decide) (by decide) rfl (by decide) ?_
        exact LC_move hst hL C0 hK hN hT hc hW hI hi hce hsl hH hS hl nx
      | 15, _ =>
        refine lv_tableIn (off := 1055) (tgt := 1095) hx hb dL_law_40 (by decide) (by decide) rfl (by decide) ?_
        exact LC_take hst hL C0 hK hN hT hc hW hI hi hce hsl hH hS hl nx
      | t + 16, ht => exact absurd ht (by omega)
theorem inv_0 {dg : Nat → Int32} (h : dg 0 = -1) : INV (fun _ _ => 0) E00 P00 (fun _ => 0) (fun _ => 0) 1 101 md00 (fun _ => 0) dg 0 0 (fun _ => 0) := by
  letI := pkRing Z1
  refine INV_of (K := Z1) (R := PK Z1) (cd := fun x => e3 x 0 0) (q := 101) (k := 1) (T := 0) (fl1 (m0 := 0) (T := 0) (by decide) (by decide) (by decide) (by decide) (by decide) ?_ ?_) (pk_pr z_fld ax1) (mdx_of (k := 1) (by omega) (by decide) (fun i hi => ?_)) (Or.inl rfl) ⟨fun i hi => ?_, fun i j hi hj e => ?_⟩ ⟨fun _ _ => rfl, fun _ _ => rfl⟩ ⟨⟨fun _ _ => rfl, fun _ _ => rfl⟩, ?_⟩ rfl
  · rw [z_fer]; decide
  · rw [z_fer]; decide
  · have : i = 0 ∨ i = 1 ∨ i = 2 ∨ i = 3 := by omega
    rcases this with e | e | e | e <;> subst e <;> decide
  · have : i = 0 ∨ i = 1 ∨ i = 2 ∨ i = 3 ∨ i = 4 := by omega
    rcases this with e | e | e | e | e <;> subst e <;> decide
  · have h1 : (P00 i).val = 15 + i := by simp [P00, hi]
    have h2 : (P00 j).val = 15 + j := by simp [P00, hj]
    rw [e] at h1
    omega
  · rw [h, sq_0 (fun _ => rfl)]
    decide
set_option maxHeartbeats 4000000 in
set_option maxRecDepth 100000 in
/-- from the entry, for every script of at most 4096 ints, the law comes to its end with true -/
theorem whole_start {p : Program} {e : Env} {s : State} {m : MethodId} {below : List Frame} {meth : Method} {c : Code} (l : Launch) (hst : l.stackTraces = false) {b L : Nat} {xs : Nat → Int32} (hL : L ≤ 4096) (C0 : lw_At p s m meth c b L xs) : W p l e room_1 s m #[Value.ref b] below meth c s.heap [] 0 0 (lw_Z below #[Value.ref b] s) (entryFrame m ([Value.ref b] : List Value).toArray 7) := by
  have C1 := C0
  obtain ⟨hx, hb, hr, hml, hown, hts, hX, hbl, hlocks, hgv⟩ := C1
  have hb : c.code = cL_law := hb
  have htsB := law_hts hts
  obtain ⟨D, cI, cR, cL, hK, hN, hAO, hT, hc⟩ := law_facts C0
  have hAA : ∀ q : Nat, s.heap.size ≤ q → (fun q : Nat => s.heap.size ≤ q) q := fun _ h => h
  have hS : va_S (fun q : Nat => s.heap.size ≤ q) s.heap s.heap [] := va_S.rf
  have hP : va_P D vwCl [] s.heap := fun k q h => by simp at h
  have hD : va_D (fun q : Nat => s.heap.size ≤ q) [] := ⟨fun i j p q h => by simp at h, fun k q h => by simp at h⟩
  have hl := lv_entry ([.ref b]) (n := 7) (Nat.le_of_ble_eq_true rfl)
  rw [lg_entry_eq]
  generalize (lg_sl ([.ref b]) ++ List.replicate (7 - (lg_sl ([.ref b])).length) Slot.unset).toArray = ls at hl ⊢
  have hl : lv_has ls 7 [(0, .ref b)] := hl
  refine k_new (ci := 4) (fs := [.null, .null, .null]) (C := RX4) (T := TX4) (N := 3) (S := Nat → Nat) (mc := 45) (ms := 377) hx hb htsB (fun w h => BW_in (in_wsX40 w h)) tyX4 tyX4_ok hown (htsB (.classLink RL 8 RX4) (BW_in mw_539)) (htsB (.instantiable RX4 3) (BW_in mw_540)) (htsB (.initialized RX4) (BW_in mw_222)) hK hP hD hS hAA rfl (fun j hj => by rcases (show j = 0 ∨ j = 1 ∨ j = 2 by omega) with rfl | rfl | rfl <;> rfl) (Nat.le_of_ble_eq_true rfl) (Nat.le_of_ble_eq_true rfl) dL_law_0 dL_law_3 nw1_kind hN hAO (fun (q : Nat) (a : Nat → Nat) => ww 46 (mnI q a) (cellC cI cR (mnI q a) (fun _ _ => 0) E00 P00 (fun _ => 0) (fun _ => 0))) (fun q H hp => va_runI (As := []) (rest := [.ref q]) ⟨hx, hb, hml, hown, htsB⟩ (K_X4 l D _ nw1 nw1_kind (fun _ h => h) rfl rfl q H.size) (cwI 0 htsB (gu_m mw_215) rfl rfl rfl (htsB (.initialized RX4) (BW_in mw_222)) (htsB (.methodLink RL 69 yX4_init) (BW_in mw_545)) (htsB (.instanceMethod yX4_init) (BW_in mw_546)) rfl (by decide +kernel) ⟨Nat.le_of_ble_eq_true rfl, Nat.le_of_ble_eq_true rfl⟩) hp rfl rfl hl.1 rfl (lv_room (Nat.le_of_ble_eq_true rfl)) dL_law_4 ⟨Nat.le_of_ble_eq_true rfl, Nat.le_of_ble_eq_true rfl⟩) (fun x1 u1 H locs hP hD hS => ?_)
  refine lv_astore_n (lv' := [(1, .ref x1), (0, .ref b)]) hx hb dL_law_7 rfl hl (by decide) rfl (fun ls hl => ?_)
  refine k_new (ci := 5) (fs := [.int 0, .int 0, .long 0, .null, .null, .null, .null, .int 0, .int 0, .null]) (C := RX5) (T := TX5) (N := 10) (S := S5) (mc := 5) (ms := 440) hx hb htsB (fun w h => BW_in (in_wsX50 w h)) tyX5 tyX5_ok hown (htsB (.classLink RL 70 RX5) (BW_in mw_541)) (htsB (.instantiable RX5 10) (BW_in mw_542)) (htsB (.initialized RX5) (BW_in mw_330)) hK hP hD hS hAA rfl (fun j hj => by rcases (show j = 0 ∨ j = 1 ∨ j = 2 ∨ j = 3 ∨ j = 4 ∨ j = 5 ∨ j = 6 ∨ j = 7 ∨ j = 8 ∨ j = 9 by omega) with rfl | rfl | rfl | rfl | rfl | rfl | rfl | rfl | rfl | rfl <;> rfl) (Nat.le_of_ble_eq_true rfl) (Nat.le_of_ble_eq_true rfl) dL_law_8 dL_law_11 nw1_kind hN hAO (fun (q : Nat) (u : S5) => ww 6 (mdI q u.1.1) (cellR cI (mdI q u.1.1) 0 1 101 md00 (fun _ => 0) u.1.2 0 0 (fun _ => 0) (fun _ => 0))) (fun q H hp => va_runI (As := []) (rest := [.ref q]) ⟨hx, hb, hml, hown, htsB⟩ (K_X5 l D _ nw1 nw1_kind (fun _ h => h) rfl (cR := cR) rfl q H.size) (cwI 0 htsB (gu_m mw_310) rfl rfl rfl (htsB (.initialized RX5) (BW_in mw_330)) (htsB (.methodLink RL 72 yX5_init) (BW_in mw_547)) (htsB (.instanceMethod yX5_init) (BW_in mw_548)) rfl (by decide +kernel) ⟨Nat.le_of_ble_eq_true rfl, Nat.le_of_ble_eq_true rfl⟩) hp rfl rfl hl.1 rfl (lv_room (Nat.le_of_ble_eq_true rfl)) dL_law_12 ⟨Nat.le_of_ble_eq_true rfl, Nat.le_of_ble_eq_true rfl⟩) (fun x2 u2 H locs hP hD hS => ?_)
  refine lv_astore_n (lv' := [(2, .ref x2), (1, .ref x1), (0, .ref b)]) hx hb dL_law_15 rfl hl (by decide) rfl (fun ls hl => ?_)
  refine lv_iconst (v := 1) hx hb dL_law_16 (by decide) ?_
  refine va_newa (atype := .long) (a0 := (1, .inr (.inl (fun _ => 0)))) (ty := .long) hx hb (htsB (.arrayClass .long) (BW_in mw_543)) rfl hK hP hD hS hAA (fun cA => by rw [vp_cell_l]; rfl) (by decide) (by decide) (by decide) (Nat.le_of_ble_eq_true rfl) (Nat.le_of_ble_eq_true rfl) dL_law_17 (fun o cA H hK1 hP hD hS => ?_)
  have h1 := (hK1.2 3 (cA, .long) rfl).2
  have h2 := (hK.2 2 (cL, .long) rfl).2
  have eL : cA = cL := Option.some.inj ((show s.vm.findClass _ = some cA from h1).symm.trans (show s.vm.findClass _ = some cL from h2))
  subst eL
  refine lv_astore_n (lv' := [(3, .ref o), (2, .ref x2), (1, .ref x1), (0, .ref b)]) hx hb dL_law_19 rfl hl (by decide) rfl (fun ls hl => ?_)
  refine lv_iconst (v := 0) hx hb dL_law_20 (by decide) ?_
  refine lv_istore (lv' := [(4, .int 0), (3, .ref o), (2, .ref x2), (1, .ref x1), (0, .ref b)]) hx hb dL_law_21 hl (by decide) rfl (fun ls hl => ?_)
  have l1 : (ww 46 (mnI x1 u1) (cellC cI cR (mnI x1 u1) (fun _ _ => 0) E00 P00 (fun _ => 0) (fun _ => 0))).length = 46 := ww_len
  have l2 : (ww 6 (mdI x2 u2.1.1) (cellR cI (mdI x2 u2.1.1) 0 1 101 md00 (fun _ => 0) u2.1.2 0 0 (fun _ => 0) (fun _ => 0))).length = 6 := ww_len
  have a1 : ∀ (k : Nat) (q : Nat × va_E), (ww 46 (mnI x1 u1) (cellC cI cR (mnI x1 u1) (fun _ _ => 0) E00 P00 (fun _ => 0) (fun _ => 0)))[k]? = some q → ([] ++ ww 46 (mnI x1 u1) (cellC cI cR (mnI x1 u1) (fun _ _ => 0) E00 P00 (fun _ => 0) (fun _ => 0)) ++ ww 6 (mdI x2 u2.1.1) (cellR cI (mdI x2 u2.1.1) 0 1 101 md00 (fun _ => 0) u2.1.2 0 0 (fun _ => 0) (fun _ => 0)) ++ [(o, .inl (cA, 1, .inr (.inl (fun _ => 0))))])[k]? = some q := fun k q h => by
    have h9 := (List.getElem?_eq_some_iff.mp h).1
    rw [List.nil_append, List.append_assoc, List.getElem?_append_left h9]; exact h
  have a2 : ∀ (k : Nat) (q : Nat × va_E), (ww 6 (mdI x2 u2.1.1) (cellR cI (mdI x2 u2.1.1) 0 1 101 md00 (fun _ => 0) u2.1.2 0 0 (fun _ => 0) (fun _ => 0)))[k]? = some q → ([] ++ ww 46 (mnI x1 u1) (cellC cI cR (mnI x1 u1) (fun _ _ => 0) E00 P00 (fun _ => 0) (fun _ => 0)) ++ ww 6 (mdI x2 u2.1.1) (cellR cI (mdI x2 u2.1.1) 0 1 101 md00 (fun _ => 0) u2.1.2 0 0 (fun _ => 0) (fun _ => 0)) ++ [(o, .inl (cA, 1, .inr (.inl (fun _ => 0))))])[46 + k]? = some q := fun k q h => by
    have h9 := (List.getElem?_eq_some_iff.mp h).1
    rw [List.nil_append, List.append_assoc, List.getElem?_append_right (by omega), l1, Nat.add_sub_cancel_left, List.getElem?_append_left h9]; exact h
  have a3 : ([] ++ ww 46 (mnI x1 u1) (cellC cI cR (mnI x1 u1) (fun _ _ => 0) E00 P00 (fun _ => 0) (fun _ => 0)) ++ ww 6 (mdI x2 u2.1.1) (cellR cI (mdI x2 u2.1.1) 0 1 101 md00 (fun _ => 0) u2.1.2 0 0 (fun _ => 0) (fun _ => 0)) ++ [(o, (.inl (cA, 1, .inr (.inl (fun _ => 0))) : va_E))])[52]? = some (o, .inl (cA, 1, .inr (.inl (fun _ => 0)))) := by
    rw [List.nil_append, List.getElem?_append_right (by rw [List.length_append]; omega), List.length_append, l1, l2]; rfl
  have g1 : ∀ k, k < 46 → (ww 46 (mnI x1 u1) (cellC cI cR (mnI x1 u1) (fun _ _ => 0) E00 P00 (fun _ => 0) (fun _ => 0)))[k]? = some (mnI x1 u1 k, (cellC cI cR (mnI x1 u1) (fun _ _ => 0) E00 P00 (fun _ => 0) (fun _ => 0)) k) := fun k hk => ww_get hk
  have g2 : ∀ k, k < 6 → (ww 6 (mdI x2 u2.1.1) (cellR cI (mdI x2 u2.1.1) 0 1 101 md00 (fun _ => 0) u2.1.2 0 0 (fun _ => 0) (fun _ => 0)))[k]? = some (mdI x2 u2.1.1 k, (cellR cI (mdI x2 u2.1.1) 0 1 101 md00 (fun _ => 0) u2.1.2 0 0 (fun _ => 0) (fun _ => 0)) k) := fun k hk => ww_get hk
  have hLW : LW s (mnI x1 u1) (mdI x2 u2.1.1) o := by
    refine ⟨fun i j hi hj e => hD.1 i j _ _ (a1 _ _ (g1 i hi)) (a1 _ _ (g1 j hj)) e, fun i j hi hj e => ?_, fun q h => ?_, fun q h => ?_, hD.2 52 _ a3, fun q h z => ?_, fun z => ?_, fun z => ?_⟩
    · have := hD.1 (46 + i) (46 + j) _ _ (a2 _ _ (g2 i hi)) (a2 _ _ (g2 j hj)) e
      omega
    · obtain ⟨k, hk, rfl⟩ := h
      exact hD.2 k _ (a1 _ _ (g1 k hk))
    · obtain ⟨k, hk, rfl⟩ := h
      exact hD.2 (46 + k) _ (a2 _ _ (g2 k hk))
    · obtain ⟨k, hk, e1⟩ := h
      obtain ⟨k', hk', e2⟩ := z
      have := hD.1 k (46 + k') _ _ (a1 _ _ (g1 k hk)) (a2 _ _ (g2 k' hk')) (by rw [← e1, ← e2])
      omega
    · obtain ⟨k, hk, e1⟩ := z
      have := hD.1 k 52 _ _ (a1 _ _ (g1 k hk)) a3 e1.symm
      omega
    · obtain ⟨k, hk, e1⟩ := z
      have := hD.1 (46 + k) 52 _ _ (a2 _ _ (g2 k hk)) a3 e1.symm
      omega
  have hLH : LH D cI cR cA (mnI x1 u1) (mdI x2 u2.1.1) o (cellC cI cR (mnI x1 u1) (fun _ _ => 0) E00 P00 (fun _ => 0) (fun _ => 0)) 0 1 101 md00 (fun _ => 0) u2.1.2 0 0 (fun _ => 0) H := by
    refine ⟨fun k q hk => hP k q (a1 k q hk), ⟨fun _ => 0, fun k q hk => hP (46 + k) q (a2 k q hk)⟩, fun _ => 0, fun k q hk => ?_⟩
    match k, hk with
    | 0, hk => exact hP 52 q (by rw [a3]; exact hk)
    | k + 1, hk => simp at hk
  refine W.widen (k := 53 + 0) (n := 831 + 6 * 0) (by decide) (by decide) ?_
  exact law_loop hst hL C0 hK hN hT hc hLW (L + 1) 0 _ _ _ _ _ _ _ _ _ _ _ _ _ _ H locs ls (by omega) (by omega) (inv_0 u2.2) hLH hS (lv_sub hl [4, 3, 2, 1, 0] rfl)
