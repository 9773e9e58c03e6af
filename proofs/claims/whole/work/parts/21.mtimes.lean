def f_X5_digit (p0 : Int32) (p1 : Int32) : Option (Int32) :=
  if p1 = 0 then
    some (jrem p0 101)
  else
    if p1 = 1 then
      some (jrem (p0 / 101) 101)
    else
      some (p0 / 10201)
set_option maxHeartbeats 4000000 in
set_option maxRecDepth 100000 in
theorem C_X5_digit (l : Launch) (D : va_G) (tys : List (ClassId × FieldType)) (nw : List Cond) (hn : nw.all nw_kind = true) {ad : Nat → Nat} (hj : ww_inj 6 ad) {cI : ClassId} (htI : tys[0]? = some (cI, .int)) {th : Int32} {kk : Int32} {mn : Int64} {md : Nat → Int32} {rw : Nat → Int32} {dg : Nat → Int32} {kn : Int32} {fc : Int32} {oft : Nat → Int32} {di : Nat → Int32} {p0 : Int32} {p1 : Int32} {res : Int32} (hf : f_X5_digit p0 p1 = some res) :
    Met l yX5_digit usX5_digit ({ frames := 0, cells := 0, slots := 0, locals := 0 }) (va_Pc [.int p0, .int p1] (ws_B D tys nw (ww 6 ad (cellR cI ad th kk mn md rw dg kn fc oft di)))) (ct_Q D (ww 6 ad (cellR cI ad th kk mn md rw dg kn fc oft di)) (ww_A 6 ad) (some (.int res))) 0 0 (ww_A 6 ad) := by
  refine Met.ofW (cc := cX5_digit) (maxL := 2) (ret := (some .int)) (by decide) rfl ?_
  intro p e s m args below meth c s₁ B hml hv
  obtain ⟨rfl, hP, hK, hN⟩ := hv
  have hx := B.exec
  have hb := B.bytes
  have hr := B.returns
  have hts := atoms_spec (ws := usX5_digit) B.pre
  have hown : s.vm.findClass RX5 = some m.cls := findClass_of_methodNamed B.named
  have hlocks := B.notSynchronized
  have hS : va_S (ww_A 6 ad) s.heap s.heap [] := va_S.rf
  have hl := lv_entry ([.int p0, .int p1]) (n := 2) (Nat.le_of_ble_eq_true rfl)
  rw [lg_entry_eq]
  generalize (lg_sl ([.int p0, .int p1]) ++ List.replicate (2 - (lg_sl ([.int p0, .int p1])).length) Slot.unset).toArray = ls at hl ⊢
  have hl : lv_has ls 2 [(0, .int p0), (1, .int p1)] := hl
  unfold f_X5_digit at hf
  refine lv_iload_n hx hb dX5_digit_0 rfl (lv_at hl 1 rfl) ?_
  refine lv_if_ne (tgt := 11) hx hb dX5_digit_1 (by decide) (fun c1 => ?_) (fun c1 => ?_)
  · rw [if_neg c1] at hf
    refine lv_iload_n hx hb dX5_digit_11 rfl (lv_at hl 1 rfl) ?_
    refine lv_iconst (v := 1) hx hb dX5_digit_12 (by decide) ?_
    refine lv_icmp_ne (tgt := 26) hx hb dX5_digit_13 (by decide) (fun c2 => ?_) (fun c2 => ?_)
    · rw [if_neg c2] at hf
      refine lv_iload_n hx hb dX5_digit_26 rfl (lv_at hl 0 rfl) ?_
      refine lv_sipush (v := 10201) hx hb dX5_digit_27 (by decide) ?_
      refine lv_idiv hx hb dX5_digit_30 (by decide) ?_
      obtain rfl := Option.some.inj hf
      exact W.iret (v := p0 / 10201) hx hb hr (fun t ht hW => ⟨rfl, by rw [ht]; exact hP, hS.F ht⟩) hS.2.2 dX5_digit_31
    · rw [if_pos c2] at hf
      refine lv_iload_n hx hb dX5_digit_16 rfl (lv_at hl 0 rfl) ?_
      refine lv_bipush (v := 101) hx hb dX5_digit_17 (by decide) ?_
      refine lv_idiv hx hb dX5_digit_19 (by decide) ?_
      refine lv_bipush (v := 101) hx hb dX5_digit_20 (by decide) ?_
      refine jv_irem hx hb dX5_digit_22 (by decide) ?_
      refine lv_goto (tgt := 31) hx hb dX5_digit_23 (by decide) ?_
      obtain rfl := Option.some.inj hf
      exact W.iret (v := jrem (p0 / 101) 101) hx hb hr (fun t ht hW => ⟨rfl, by rw [ht]; exact hP, hS.F ht⟩) hS.2.2 dX5_digit_31
  · rw [if_pos c1] at hf
    refine lv_iload_n hx hb dX5_digit_4 rfl (lv_at hl 0 rfl) ?_
    refine lv_bipush (v := 101) hx hb dX5_digit_5 (by decide) ?_
    refine jv_irem hx hb dX5_digit_7 (by decide) ?_
    refine lv_goto (tgt := 31) hx hb dX5_digit_8 (by decide) ?_
    obtain rfl := Option.some.inj hf
    exact W.iret (v := jrem p0 101) hx hb hr (fun t ht hW => ⟨rfl, by rw [ht]; exact hP, hS.F ht⟩) hS.2.2 dX5_digit_31
def f_X5_timesD_l2 (k2 : Int32 → (Nat → Int32) → Option (Int32 × (Nat → Int32))) (fu : Nat) (kk : Int32) (md : Nat → Int32) (x1 : Int32) (x2 : Int32) : Nat → Int32 → (Nat → Int32) → Option (Int32 × (Nat → Int32))
  | 0, _, _ => none
  | n + 1, x3, di =>
    if 5 ≤ x3 then
      k2 x3 di
    else
      if x3 < 0 ∨ 6 ≤ (x3).toNatClampNeg then none else
      f_X5_timesD_l2 k2 fu kk md x1 x2 n (x3 + 1) (upd di (x3).toNatClampNeg 0)
def f_X5_timesD_l30 (k30 : Int32 → (Nat → Int32) → Option (Int32 × (Nat → Int32))) (fu : Nat) (kk : Int32) (md : Nat → Int32) (x1 : Int32) (x2 : Int32) (x3 : Int32) : Nat → Int32 → (Nat → Int32) → Option (Int32 × (Nat → Int32))
  | 0, _, _ => none
  | n + 1, x4, di =>
    if 3 ≤ x4 then
      k30 x4 di
    else
      if (x3 + x4) < 0 ∨ 6 ≤ (x3 + x4).toNatClampNeg then none else
      (f_X5_digit x1 x3).bind (fun u8 =>
      (f_X5_digit x2 x4).bind (fun u10 =>
      if (x3 + x4) < 0 ∨ 6 ≤ (x3 + x4).toNatClampNeg then none else
      f_X5_timesD_l30 k30 fu kk md x1 x2 x3 n (x4 + 1) (upd di (x3 + x4).toNatClampNeg (jrem ((di (x3 + x4).toNatClampNeg) + (u8 * u10)) 101))))
def f_X5_timesD_l22 (k22 : Int32 → (Nat → Int32) → Option (Int32 × (Nat → Int32))) (fu : Nat) (kk : Int32) (md : Nat → Int32) (x1 : Int32) (x2 : Int32) : Nat → Int32 → (Nat → Int32) → Option (Int32 × (Nat → Int32))
  | 0, _, _ => none
  | n + 1, x3, di =>
    if 3 ≤ x3 then
      k22 x3 di
    else
      f_X5_timesD_l30 (fun y13 di14 =>
        f_X5_timesD_l22 k22 fu kk md x1 x2 n (x3 + 1) di14) fu kk md x1 x2 x3 fu 0 di
def f_X5_timesD_l110 (k110 : Int32 → (Nat → Int32) → Option (Int32 × (Nat → Int32))) (fu : Nat) (kk : Int32) (md : Nat → Int32) (x1 : Int32) (x2 : Int32) (x3 : Int32) (x4 : Int32) : Nat → Int32 → (Nat → Int32) → Option (Int32 × (Nat → Int32))
  | 0, _, _ => none
  | n + 1, x5, di =>
    if kk ≤ x5 then
      k110 x5 di
    else
      if ((x3 - kk) + x5) < 0 ∨ 6 ≤ ((x3 - kk) + x5).toNatClampNeg then none else
      if x5 < 0 ∨ 4 ≤ (x5).toNatClampNeg then none else
      if ((x3 - kk) + x5) < 0 ∨ 6 ≤ ((x3 - kk) + x5).toNatClampNeg then none else
      f_X5_timesD_l110 k110 fu kk md x1 x2 x3 x4 n (x5 + 1) (upd di ((x3 - kk) + x5).toNatClampNeg (jrem ((di ((x3 - kk) + x5).toNatClampNeg) + ((101 - (md (x5).toNatClampNeg)) * x4)) 101))
def f_X5_timesD_l84 (k84 : Int32 → (Nat → Int32) → Option (Int32 × (Nat → Int32))) (fu : Nat) (kk : Int32) (md : Nat → Int32) (x1 : Int32) (x2 : Int32) : Nat → Int32 → (Nat → Int32) → Option (Int32 × (Nat → Int32))
  | 0, _, _ => none
  | n + 1, x3, di =>
    if x3 < kk then
      k84 x3 di
    else
      if x3 < 0 ∨ 6 ≤ (x3).toNatClampNeg then none else
      nm (di (x3).toNatClampNeg) (fun v19 =>
      if x3 < 0 ∨ 6 ≤ (x3).toNatClampNeg then none else
      f_X5_timesD_l110 (fun y25 di26 =>
        f_X5_timesD_l84 k84 fu kk md x1 x2 n (x3 + (-1)) di26) fu kk md x1 x2 x3 v19 fu 0 (upd di (x3).toNatClampNeg 0))
def f_X5_timesD (fu : Nat) (kk : Int32) (md : Nat → Int32) (di : Nat → Int32) (p0 : Int32) (p1 : Int32) : Option (Int32 × (Nat → Int32)) :=
  f_X5_timesD_l2 (fun y3 di4 =>
    f_X5_timesD_l22 (fun y15 di16 =>
      f_X5_timesD_l84 (fun y27 di28 =>
        if (0 : Int32) < 0 ∨ 6 ≤ (0 : Int32).toNatClampNeg then none else
        if (1 : Int32) < 0 ∨ 6 ≤ (1 : Int32).toNatClampNeg then none else
        if (2 : Int32) < 0 ∨ 6 ≤ (2 : Int32).toNatClampNeg then none else
        some (((di28 (0 : Int32).toNatClampNeg) + (101 * (di28 (1 : Int32).toNatClampNeg))) + (10201 * (di28 (2 : Int32).toNatClampNeg)), di28)) fu kk md p0 p1 fu 4 di16) fu kk md p0 p1 fu 0 di4) fu kk md p0 p1 fu 0 di
set_option maxHeartbeats 4000000 in
set_option maxRecDepth 100000 in
theorem C_X5_timesD (l : Launch) (D : va_G) (tys : List (ClassId × FieldType)) (nw : List Cond) (hn : nw.all nw_kind = true) {ad : Nat → Nat} (hj : ww_inj 6 ad) {cI : ClassId} (htI : tys[0]? = some (cI, .int)) {fu : Nat} {th : Int32} {kk : Int32} {mn : Int64} {md : Nat → Int32} {rw : Nat → Int32} {dg : Nat → Int32} {kn : Int32} {fc : Int32} {oft : Nat → Int32} {di : Nat → Int32} {p0 : Int32} {p1 : Int32} {res : Int32 × (Nat → Int32)} (hf : f_X5_timesD fu kk md di p0 p1 = some res) :
    Met l yX5_times usX5_times ({ frames := 1, cells := 0, slots := 0, locals := 21 }) (va_Pc [.ref (ad 0), .int p0, .int p1] (ws_B D tys nw (ww 6 ad (cellR cI ad th kk mn md rw dg kn fc oft di)))) (ct_Q D (ww 6 ad (cellR cI ad th kk mn md rw dg kn fc oft res.2)) (ww_A 6 ad) (some (.int res.1))) 0 0 (ww_A 6 ad) := by
  refine Met.ofW (cc := cX5_times) (maxL := 6) (ret := (some .int)) (by decide) rfl ?_
  intro p e s m args below meth c s₁ B hml hv
  obtain ⟨rfl, hP, hK, hN⟩ := hv
  have hx := B.exec
  have hb := B.bytes
  have hr := B.returns
  have hts := atoms_spec (ws := usX5_times) B.pre
  have hown : s.vm.findClass RX5 = some m.cls := findClass_of_methodNamed B.named
  have hlocks := B.notSynchronized
  have hS : va_S (ww_A 6 ad) s.heap s.heap [] := va_S.rf
  have hl := lv_entry ([.ref (ad 0), .int p0, .int p1]) (n := 6) (Nat.le_of_ble_eq_true rfl)
  rw [lg_entry_eq]
  generalize (lg_sl ([.ref (ad 0), .int p0, .int p1]) ++ List.replicate (6 - (lg_sl ([.ref (ad 0), .int p0, .int p1])).length) Slot.unset).toArray = ls at hl ⊢
  have hl : lv_has ls 6 [(0, .ref (ad 0)), (1, .int p0), (2, .int p1)] := hl
  have L2 : ∀ (x1 : Int32) (x2 : Int32) (k2 : Int32 → (Nat → Int32) → Option (Int32 × (Nat → Int32))), (∀ (x3 : Int32) (di : Nat → Int32) (H : Heap) (locs : List Loc) (ls : Array Slot), va_P D vwCl (ww 6 ad (cellR cI ad th kk mn md rw dg kn fc oft di)) H → va_S (ww_A 6 ad) s.heap H locs → lv_has ls 6 [(0, .ref (ad 0)), (1, .int x1), (2, .int x2), (3, .int x3)] →  k2 x3 di = some res → W p l e (headSpec usX5_times { frames := 1, cells := 0, slots := 0, locals := 21 }).room s m [.ref (ad 0), .int p0, .int p1].toArray below meth c H locs 0 0 (MQ below (ct_Q D (ww 6 ad (cellR cI ad th kk mn md rw dg kn fc oft res.2)) (ww_A 6 ad) (some (.int res.1))) [.ref (ad 0), .int p0, .int p1].toArray s 0 0 (ww_A 6 ad)) (F0 m 20 ls [])) → ∀ (n : Nat) (x3 : Int32) (di : Nat → Int32) (H : Heap) (locs : List Loc) (ls : Array Slot), va_P D vwCl (ww 6 ad (cellR cI ad th kk mn md rw dg kn fc oft di)) H → va_S (ww_A 6 ad) s.heap H locs → lv_has ls 6 [(0, .ref (ad 0)), (1, .int x1), (2, .int x2), (3, .int x3)] →  f_X5_timesD_l2 k2 fu kk md x1 x2 n x3 di = some res → W p l e (headSpec usX5_times { frames := 1, cells := 0, slots := 0, locals := 21 }).room s m [.ref (ad 0), .int p0, .int p1].toArray below meth c H locs 0 0 (MQ below (ct_Q D (ww 6 ad (cellR cI ad th kk mn md rw dg kn fc oft res.2)) (ww_A 6 ad) (some (.int res.1))) [.ref (ad 0), .int p0, .int p1].toArray s 0 0 (ww_A 6 ad)) (F0 m 2 ls []) := by
    intro x1 x2 k2 hk_2 n
    induction n with
    | zero => intro x3 di H locs ls hP hS hl hf; rw [f_X5_timesD_l2] at hf; cases hf
    | succ n ih =>
      intro x3 di H locs ls hP hS hl hf
      rw [f_X5_timesD_l2] at hf
      refine lv_iload_n hx hb dX5_times_2 rfl (lv_at hl 3 rfl) ?_
      refine lv_iconst (v := 5) hx hb dX5_times_3 (by decide) ?_
      refine lv_icmp_ge (tgt := 20) hx hb dX5_times_4 (by decide) (fun c1 => ?_) (fun c1 => ?_)
      · rw [if_pos c1] at hf
        exact hk_2 x3 di _ _ _ hP hS (lv_sub hl [0, 1, 2, 3] rfl) hf
      · rw [if_neg c1] at hf
        refine lv_aload_n hx hb dX5_times_7 rfl (lv_at hl 0 rfl) ?_
        refine va_get (ci := 5) (v := .ref (ad 2)) (C := RX5) (T := TX5) (N := 10) hx hb hts (fun w h => BW_in (in_wsX50 w h)) hown hK hP 0 cr_mdl rfl 4 (by decide) (hts (.fieldLink RX5 23 "NumberFieldFactorsModel" "digits" "[I") (BW_in mw_316)) (fun _ h9 => h9) rfl dX5_times_8 ?_
        refine lv_iload_n hx hb dX5_times_11 rfl (lv_at hl 3 rfl) ?_
        refine lv_iconst (v := 0) hx hb dX5_times_12 (by decide) ?_
        by_cases b2 : x3 < 0 ∨ 6 ≤ (x3).toNatClampNeg
        · rw [if_pos b2] at hf; cases hf
        rw [if_neg b2] at hf
        refine va_iast hx hb hK hP (ww_D hj) hS 2 0 cr_di htI b2 dX5_times_13 (fun H locs hP hD hS => ?_)
        have hP := cs_di hP
        refine lv_iinc (v := x3 + 1) (lv' := [(3, .int (x3 + 1)), (0, .ref (ad 0)), (1, .int x1), (2, .int x2)]) hx hb dX5_times_14 hl (k := 3) rfl rfl (by decide) rfl (fun ls hl => ?_)
        refine lv_goto (tgt := 2) hx hb dX5_times_17 (by decide) ?_
        exact ih (x3 + 1) (upd di (x3).toNatClampNeg 0) _ _ _ hP hS (lv_sub hl [1, 2, 3, 0] rfl) hf
  have L30 : ∀ (x1 : Int32) (x2 : Int32) (x3 : Int32) (k30 : Int32 → (Nat → Int32) → Option (Int32 × (Nat → Int32))), (∀ (x4 : Int32) (di : Nat → Int32) (H : Heap) (locs : List Loc) (ls : Array Slot), va_P D vwCl (ww 6 ad (cellR cI ad th kk mn md rw dg kn fc oft di)) H → va_S (ww_A 6 ad) s.heap H locs → lv_has ls 6 [(0, .ref (ad 0)), (1, .int x1), (2, .int x2), (3, .int x3), (4, .int x4)] →  k30 x4 di = some res → W p l e (headSpec usX5_times { frames := 1, cells := 0, slots := 0, locals := 21 }).room s m [.ref (ad 0), .int p0, .int p1].toArray below meth c H locs 0 0 (MQ below (ct_Q D (ww 6 ad (cellR cI ad th kk mn md rw dg kn fc oft res.2)) (ww_A 6 ad) (some (.int res.1))) [.ref (ad 0), .int p0, .int p1].toArray s 0 0 (ww_A 6 ad)) (F0 m 76 ls [])) → ∀ (n : Nat) (x4 : Int32) (di : Nat → Int32) (H : Heap) (locs : List Loc) (ls : Array Slot), va_P D vwCl (ww 6 ad (cellR cI ad th kk mn md rw dg kn fc oft di)) H → va_S (ww_A 6 ad) s.heap H locs → lv_has ls 6 [(0, .ref (ad 0)), (1, .int x1), (2, .int x2), (3, .int x3), (4, .int x4)] →  f_X5_timesD_l30 k30 fu kk md x1 x2 x3 n x4 di = some res → W p l e (headSpec usX5_times { frames := 1, cells := 0, slots := 0, locals := 21 }).room s m [.ref (ad 0), .int p0, .int p1].toArray below meth c H locs 0 0 (MQ below (ct_Q D (ww 6 ad (cellR cI ad th kk mn md rw dg kn fc oft res.2)) (ww_A 6 ad) (some (.int res.1))) [.ref (ad 0), .int p0, .int p1].toArray s 0 0 (ww_A 6 ad)) (F0 m 30 ls []) := by
    intro x1 x2 x3 k30 hk_30 n
    induction n with
    | zero => intro x4 di H locs ls hP hS hl hf; rw [f_X5_timesD_l30] at hf; cases hf
    | succ n ih =>
      intro x4 di H locs ls hP hS hl hf
      rw [f_X5_timesD_l30] at hf
      refine lv_iload hx hb dX5_times_30 (lv_at hl 4 rfl) ?_
      refine lv_iconst (v := 3) hx hb dX5_times_32 (by decide) ?_
      refine lv_icmp_ge (tgt := 76) hx hb dX5_times_33 (by decide) (fun c6 => ?_) (fun c6 => ?_)
      · rw [if_pos c6] at hf
        exact hk_30 x4 di _ _ _ hP hS (lv_sub hl [0, 1, 2, 3, 4] rfl) hf
      · rw [if_neg c6] at hf
        refine lv_aload_n hx hb dX5_times_36 rfl (lv_at hl 0 rfl) ?_
        refine va_get (ci := 5) (v := .ref (ad 2)) (C := RX5) (T := TX5) (N := 10) hx hb hts (fun w h => BW_in (in_wsX50 w h)) hown hK hP 0 cr_mdl rfl 4 (by decide) (hts (.fieldLink RX5 23 "NumberFieldFactorsModel" "digits" "[I") (BW_in mw_316)) (fun _ h9 => h9) rfl dX5_times_37 ?_
        refine lv_iload_n hx hb dX5_times_40 rfl (lv_at hl 3 rfl) ?_
        refine lv_iload hx hb dX5_times_41 (lv_at hl 4 rfl) ?_
        refine lv_iadd hx hb dX5_times_43 ?_
        refine lv_aload_n hx hb dX5_times_44 rfl (lv_at hl 0 rfl) ?_
        refine va_get (ci := 5) (v := .ref (ad 2)) (C := RX5) (T := TX5) (N := 10) hx hb hts (fun w h => BW_in (in_wsX50 w h)) hown hK hP 0 cr_mdl rfl 4 (by decide) (hts (.fieldLink RX5 23 "NumberFieldFactorsModel" "digits" "[I") (BW_in mw_316)) (fun _ h9 => h9) rfl dX5_times_45 ?_
        refine lv_iload_n hx hb dX5_times_48 rfl (lv_at hl 3 rfl) ?_
        refine lv_iload hx hb dX5_times_49 (lv_at hl 4 rfl) ?_
        refine lv_iadd hx hb dX5_times_51 ?_
        by_cases b7 : (x3 + x4) < 0 ∨ 6 ≤ (x3 + x4).toNatClampNeg
        · rw [if_pos b7] at hf; cases hf
        rw [if_neg b7] at hf
        refine va_iald hx hb hK hP 2 0 cr_di htI b7 dX5_times_52 ?_
        refine lv_iload_n hx hb dX5_times_53 rfl (lv_at hl 1 rfl) ?_
        refine lv_iload_n hx hb dX5_times_54 rfl (lv_at hl 3 rfl) ?_
        obtain ⟨u8, g9, hf⟩ := Option.bind_eq_some_iff.mp hf
        try dsimp only at hf
        refine ct_call (va_runS (As := [.int x1, .int x3]) (rest := [.int (di (x3 + x4).toNatClampNeg), .int (x3 + x4), .ref (ad 2)]) ⟨hx, hb, hml, hown, hts⟩ (C_X5_digit l D tys nw hn hj htI (res := u8) g9) (cwS 2 hts (gu_S mw_334 mw_335 mw_330 mw_324) rfl rfl rfl (by decide +kernel) ⟨Nat.le_of_ble_eq_true rfl, Nat.le_of_ble_eq_true rfl⟩) (ct_preS hn hP hK hN) rfl rfl hl.1 rfl (lv_room (Nat.le_of_ble_eq_true rfl)) dX5_times_55 ⟨Nat.zero_le _, Nat.zero_le _⟩) hS (fun H locs hP hS => ?_)
        refine lv_iload_n hx hb dX5_times_58 rfl (lv_at hl 2 rfl) ?_
        refine lv_iload hx hb dX5_times_59 (lv_at hl 4 rfl) ?_
        obtain ⟨u10, g11, hf⟩ := Option.bind_eq_some_iff.mp hf
        try dsimp only at hf
        refine ct_call (va_runS (As := [.int x2, .int x4]) (rest := [.int u8, .int (di (x3 + x4).toNatClampNeg), .int (x3 + x4), .ref (ad 2)]) ⟨hx, hb, hml, hown, hts⟩ (C_X5_digit l D tys nw hn hj htI (res := u10) g11) (cwS 2 hts (gu_S mw_334 mw_335 mw_330 mw_324) rfl rfl rfl (by decide +kernel) ⟨Nat.le_of_ble_eq_true rfl, Nat.le_of_ble_eq_true rfl⟩) (ct_preS hn hP hK hN) rfl rfl hl.1 rfl (lv_room (Nat.le_of_ble_eq_true rfl)) dX5_times_61 ⟨Nat.zero_le _, Nat.zero_le _⟩) hS (fun H locs hP hS => ?_)
        refine lv_imul hx hb dX5_times_64 ?_
        refine lv_iadd hx hb dX5_times_65 ?_
        refine lv_bipush (v := 101) hx hb dX5_times_66 (by decide) ?_
        refine jv_irem hx hb dX5_times_68 (by decide) ?_
        by_cases b12 : (x3 + x4) < 0 ∨ 6 ≤ (x3 + x4).toNatClampNeg
        · rw [if_pos b12] at hf; cases hf
        rw [if_neg b12] at hf
        refine va_iast hx hb hK hP (ww_D hj) hS 2 0 cr_di htI b12 dX5_times_69 (fun H locs hP hD hS => ?_)
        have hP := cs_di hP
        refine lv_iinc (v := x4 + 1) (lv' := [(4, .int (x4 + 1)), (0, .ref (ad 0)), (1, .int x1), (2, .int x2), (3, .int x3)]) hx hb dX5_times_70 hl (k := 4) rfl rfl (by decide) rfl (fun ls hl => ?_)
        refine lv_goto (tgt := 30) hx hb dX5_times_73 (by decide) ?_
        exact ih (x4 + 1) (upd di (x3 + x4).toNatClampNeg (jrem ((di (x3 + x4).toNatClampNeg) + (u8 * u10)) 101)) _ _ _ hP hS (lv_sub hl [1, 2, 3, 4, 0] rfl) hf
  have L22 : ∀ (x1 : Int32) (x2 : Int32) (k22 : Int32 → (Nat → Int32) → Option (Int32 × (Nat → Int32))), (∀ (x3 : Int32) (di : Nat → Int32) (H : Heap) (locs : List Loc) (ls : Array Slot), va_P D vwCl (ww 6 ad (cellR cI ad th kk mn md rw dg kn fc oft di)) H → va_S (ww_A 6 ad) s.heap H locs → lv_has ls 6 [(0, .ref (ad 0)), (1, .int x1), (2, .int x2), (3, .int x3)] →  k22 x3 di = some res → W p l e (headSpec usX5_times { frames := 1, cells := 0, slots := 0, locals := 21 }).room s m [.ref (ad 0), .int p0, .int p1].toArray below meth c H locs 0 0 (MQ below (ct_Q D (ww 6 ad (cellR cI ad th kk mn md rw dg kn fc oft res.2)) (ww_A 6 ad) (some (.int res.1))) [.ref (ad 0), .int p0, .int p1].toArray s 0 0 (ww_A 6 ad)) (F0 m 82 ls [])) → ∀ (n : Nat) (x3 : Int32) (di : Nat → Int32) (H : Heap) (locs : List Loc) (ls : Array Slot), va_P D vwCl (ww 6 ad (cellR cI ad th kk mn md rw dg kn fc oft di)) H → va_S (ww_A 6 ad) s.heap H locs → lv_has ls 6 [(0, .ref (ad 0)), (1, .int x1), (2, .int x2), (3, .int x3)] →  f_X5_timesD_l22 k22 fu kk md x1 x2 n x3 di = some res → W p l e (headSpec usX5_times { frames := 1, cells := 0, slots := 0, locals := 21 }).room s m [.ref (ad 0), .int p0, .int p1].toArray below meth c H locs 0 0 (MQ below (ct_Q D (ww 6 ad (cellR cI ad th kk mn md rw dg kn fc oft res.2)) (ww_A 6 ad) (some (.int res.1))) [.ref (ad 0), .int p0, .int p1].toArray s 0 0 (ww_A 6 ad)) (F0 m 22 ls []) := by
    intro x1 x2 k22 hk_22 n
    induction n with
    | zero => intro x3 di H locs ls hP hS hl hf; rw [f_X5_timesD_l22] at hf; cases hf
    | succ n ih =>
      intro x3 di H locs ls hP hS hl hf
      rw [f_X5_timesD_l22] at hf
      refine lv_iload_n hx hb dX5_times_22 rfl (lv_at hl 3 rfl) ?_
      refine lv_iconst (v := 3) hx hb dX5_times_23 (by decide) ?_
      refine lv_icmp_ge (tgt := 82) hx hb dX5_times_24 (by decide) (fun c5 => ?_) (fun c5 => ?_)
      · rw [if_pos c5] at hf
        exact hk_22 x3 di _ _ _ hP hS (lv_sub hl [0, 1, 2, 3] rfl) hf
      · rw [if_neg c5] at hf
        refine lv_iconst (v := 0) hx hb dX5_times_27 (by decide) ?_
        refine lv_istore (lv' := [(4, .int 0), (0, .ref (ad 0)), (1, .int x1), (2, .int x2), (3, .int x3)]) hx hb dX5_times_28 hl (by decide) rfl (fun ls hl => ?_)
        refine L30 x1 x2 x3 _ (fun y13 di14 H locs ls hP hS hl hf => ?_) fu 0 di _ _ _ hP hS (lv_sub hl [1, 2, 3, 4, 0] rfl) hf
        try dsimp only at hf
        refine lv_iinc (v := x3 + 1) (lv' := [(3, .int (x3 + 1)), (0, .ref (ad 0)), (1, .int x1), (2, .int x2), (4, .int y13)]) hx hb dX5_times_76 hl (k := 3) rfl rfl (by decide) rfl (fun ls hl => ?_)
        refine lv_goto (tgt := 22) hx hb dX5_times_79 (by decide) ?_
        exact ih (x3 + 1) di14 _ _ _ hP hS (lv_sub hl [1, 2, 3, 0] rfl) hf
  have L110 : ∀ (x1 : Int32) (x2 : Int32) (x3 : Int32) (x4 : Int32) (k110 : Int32 → (Nat → Int32) → Option (Int32 × (Nat → Int32))), (∀ (x5 : Int32) (di : Nat → Int32) (H : Heap) (locs : List Loc) (ls : Array Slot), va_P D vwCl (ww 6 ad (cellR cI ad th kk mn md rw dg kn fc oft di)) H → va_S (ww_A 6 ad) s.heap H locs → lv_has ls 6 [(0, .ref (ad 0)), (1, .int x1), (2, .int x2), (3, .int x3), (4, .int x4), (5, .int x5)] →  k110 x5 di = some res → W p l e (headSpec usX5_times { frames := 1, cells := 0, slots := 0, locals := 21 }).room s m [.ref (ad 0), .int p0, .int p1].toArray below meth c H locs 0 0 (MQ below (ct_Q D (ww 6 ad (cellR cI ad th kk mn md rw dg kn fc oft res.2)) (ww_A 6 ad) (some (.int res.1))) [.ref (ad 0), .int p0, .int p1].toArray s 0 0 (ww_A 6 ad)) (F0 m 170 ls [])) → ∀ (n : Nat) (x5 : Int32) (di : Nat → Int32) (H : Heap) (locs : List Loc) (ls : Array Slot), va_P D vwCl (ww 6 ad (cellR cI ad th kk mn md rw dg kn fc oft di)) H → va_S (ww_A 6 ad) s.heap H locs → lv_has ls 6 [(0, .ref (ad 0)), (1, .int x1), (2, .int x2), (3, .int x3), (4, .int x4), (5, .int x5)] →  f_X5_timesD_l110 k110 fu kk md x1 x2 x3 x4 n x5 di = some res → W p l e (headSpec usX5_times { frames := 1, cells := 0, slots := 0, locals := 21 }).room s m [.ref (ad 0), .int p0, .int p1].toArray below meth c H locs 0 0 (MQ below (ct_Q D (ww 6 ad (cellR cI ad th kk mn md rw dg kn fc oft res.2)) (ww_A 6 ad) (some (.int res.1))) [.ref (ad 0), .int p0, .int p1].toArray s 0 0 (ww_A 6 ad)) (F0 m 110 ls []) := by
    intro x1 x2 x3 x4 k110 hk_110 n
    induction n with
    | zero => intro x5 di H locs ls hP hS hl hf; rw [f_X5_timesD_l110] at hf; cases hf
    | succ n ih =>
      intro x5 di H locs ls hP hS hl hf
      rw [f_X5_timesD_l110] at hf
      refine lv_iload hx hb dX5_times_110 (lv_at hl 5 rfl) ?_
      refine lv_aload_n hx hb dX5_times_112 rfl (lv_at hl 0 rfl) ?_
      refine va_get (ci := 5) (v := .int kk) (C := RX5) (T := TX5) (N := 10) hx hb hts (fun w h => BW_in (in_wsX50 w h)) hown hK hP 0 cr_mdl rfl 1 (by decide) (hts (.fieldLink RX5 7 "NumberFieldFactorsModel" "k" "I") (BW_in mw_312)) (fun _ h9 => h9) rfl dX5_times_113 ?_
      refine lv_icmp_ge (tgt := 170) hx hb dX5_times_116 (by decide) (fun c21 => ?_) (fun c21 => ?_)
      · rw [if_pos c21] at hf
        exact hk_110 x5 di _ _ _ hP hS (lv_sub hl [0, 1, 2, 3, 4, 5] rfl) hf
      · rw [if_neg c21] at hf
        refine lv_aload_n hx hb dX5_times_119 rfl (lv_at hl 0 rfl) ?_
        refine va_get (ci := 5) (v := .ref (ad 2)) (C := RX5) (T := TX5) (N := 10) hx hb hts (fun w h => BW_in (in_wsX50 w h)) hown hK hP 0 cr_mdl rfl 4 (by decide) (hts (.fieldLink RX5 23 "NumberFieldFactorsModel" "digits" "[I") (BW_in mw_316)) (fun _ h9 => h9) rfl dX5_times_120 ?_
        refine lv_iload_n hx hb dX5_times_123 rfl (lv_at hl 3 rfl) ?_
        refine lv_aload_n hx hb dX5_times_124 rfl (lv_at hl 0 rfl) ?_
        refine va_get (ci := 5) (v := .int kk) (C := RX5) (T := TX5) (N := 10) hx hb hts (fun w h => BW_in (in_wsX50 w h)) hown hK hP 0 cr_mdl rfl 1 (by decide) (hts (.fieldLink RX5 7 "NumberFieldFactorsModel" "k" "I") (BW_in mw_312)) (fun _ h9 => h9) rfl dX5_times_125 ?_
        refine lv_isub hx hb dX5_times_128 ?_
        refine lv_iload hx hb dX5_times_129 (lv_at hl 5 rfl) ?_
        refine lv_iadd hx hb dX5_times_131 ?_
        refine lv_aload_n hx hb dX5_times_132 rfl (lv_at hl 0 rfl) ?_
        refine va_get (ci := 5) (v := .ref (ad 2)) (C := RX5) (T := TX5) (N := 10) hx hb hts (fun w h => BW_in (in_wsX50 w h)) hown hK hP 0 cr_mdl rfl 4 (by decide) (hts (.fieldLink RX5 23 "NumberFieldFactorsModel" "digits" "[I") (BW_in mw_316)) (fun _ h9 => h9) rfl dX5_times_133 ?_
        refine lv_iload_n hx hb dX5_times_136 rfl (lv_at hl 3 rfl) ?_
        refine lv_aload_n hx hb dX5_times_137 rfl (lv_at hl 0 rfl) ?_
        refine va_get (ci := 5) (v := .int kk) (C := RX5) (T := TX5) (N := 10) hx hb hts (fun w h => BW_in (in_wsX50 w h)) hown hK hP 0 cr_mdl rfl 1 (by decide) (hts (.fieldLink RX5 7 "NumberFieldFactorsModel" "k" "I") (BW_in mw_312)) (fun _ h9 => h9) rfl dX5_times_138 ?_
        refine lv_isub hx hb dX5_times_141 ?_
        refine lv_iload hx hb dX5_times_142 (lv_at hl 5 rfl) ?_
        refine lv_iadd hx hb dX5_times_144 ?_
        by_cases b22 : ((x3 - kk) + x5) < 0 ∨ 6 ≤ ((x3 - kk) + x5).toNatClampNeg
        · rw [if_pos b22] at hf; cases hf
        rw [if_neg b22] at hf
        refine va_iald hx hb hK hP 2 0 cr_di htI b22 dX5_times_145 ?_
        refine lv_bipush (v := 101) hx hb dX5_times_146 (by decide) ?_
        refine lv_aload_n hx hb dX5_times_148 rfl (lv_at hl 0 rfl) ?_
        refine va_get (ci := 5) (v := .ref (ad 1)) (C := RX5) (T := TX5) (N := 10) hx hb hts (fun w h => BW_in (in_wsX50 w h)) hown hK hP 0 cr_mdl rfl 3 (by decide) (hts (.fieldLink RX5 19 "NumberFieldFactorsModel" "modulus" "[I") (BW_in mw_315)) (fun _ h9 => h9) rfl dX5_times_149 ?_
        refine lv_iload hx hb dX5_times_152 (lv_at hl 5 rfl) ?_
        by_cases b23 : x5 < 0 ∨ 4 ≤ (x5).toNatClampNeg
        · rw [if_pos b23] at hf; cases hf
        rw [if_neg b23] at hf
        refine va_iald hx hb hK hP 1 0 cr_md htI b23 dX5_times_154 ?_
        refine lv_isub hx hb dX5_times_155 ?_
        refine lv_iload hx hb dX5_times_156 (lv_at hl 4 rfl) ?_
        refine lv_imul hx hb dX5_times_158 ?_
        refine lv_iadd hx hb dX5_times_159 ?_
        refine lv_bipush (v := 101) hx hb dX5_times_160 (by decide) ?_
        refine jv_irem hx hb dX5_times_162 (by decide) ?_
        by_cases b24 : ((x3 - kk) + x5) < 0 ∨ 6 ≤ ((x3 - kk) + x5).toNatClampNeg
        · rw [if_pos b24] at hf; cases hf
        rw [if_neg b24] at hf
        refine va_iast hx hb hK hP (ww_D hj) hS 2 0 cr_di htI b24 dX5_times_163 (fun H locs hP hD hS => ?_)
        have hP := cs_di hP
        refine lv_iinc (v := x5 + 1) (lv' := [(5, .int (x5 + 1)), (0, .ref (ad 0)), (1, .int x1), (2, .int x2), (3, .int x3), (4, .int x4)]) hx hb dX5_times_164 hl (k := 5) rfl rfl (by decide) rfl (fun ls hl => ?_)
        refine lv_goto (tgt := 110) hx hb dX5_times_167 (by decide) ?_
        exact ih (x5 + 1) (upd di ((x3 - kk) + x5).toNatClampNeg (jrem ((di ((x3 - kk) + x5).toNatClampNeg) + ((101 - (md (x5).toNatClampNeg)) * x4)) 101)) _ _ _ hP hS (lv_sub hl [1, 2, 3, 4, 5, 0] rfl) hf
  have L84 : ∀ (x1 : Int32) (x2 : Int32) (k84 : Int32 → (Nat → Int32) → Option (Int32 × (Nat → Int32))), (∀ (x3 : Int32) (di : Nat → Int32) (H : Heap) (locs : List Loc) (ls : Array Slot), va_P D vwCl (ww 6 ad (cellR cI ad th kk mn md rw dg kn fc oft di)) H → va_S (ww_A 6 ad) s.heap H locs → lv_has ls 6 [(0, .ref (ad 0)), (1, .int x1), (2, .int x2), (3, .int x3)] →  k84 x3 di = some res → W p l e (headSpec usX5_times { frames := 1, cells := 0, slots := 0, locals := 21 }).room s m [.ref (ad 0), .int p0, .int p1].toArray below meth c H locs 0 0 (MQ below (ct_Q D (ww 6 ad (cellR cI ad th kk mn md rw dg kn fc oft res.2)) (ww_A 6 ad) (some (.int res.1))) [.ref (ad 0), .int p0, .int p1].toArray s 0 0 (ww_A 6 ad)) (F0 m 176 ls [])) → ∀ (n : Nat) (x3 : Int32) (di : Nat → Int32) (H : Heap) (locs : List Loc) (ls : Array Slot), va_P D vwCl (ww 6 ad (cellR cI ad th kk mn md rw dg kn fc oft di)) H → va_S (ww_A 6 ad) s.heap H locs → lv_has ls 6 [(0, .ref (ad 0)), (1, .int x1), (2, .int x2), (3, .int x3)] →  f_X5_timesD_l84 k84 fu kk md x1 x2 n x3 di = some res → W p l e (headSpec usX5_times { frames := 1, cells := 0, slots := 0, locals := 21 }).room s m [.ref (ad 0), .int p0, .int p1].toArray below meth c H locs 0 0 (MQ below (ct_Q D (ww 6 ad (cellR cI ad th kk mn md rw dg kn fc oft res.2)) (ww_A 6 ad) (some (.int res.1))) [.ref (ad 0), .int p0, .int p1].toArray s 0 0 (ww_A 6 ad)) (F0 m 84 ls []) := by
    intro x1 x2 k84 hk_84 n
    induction n with
    | zero => intro x3 di H locs ls hP hS hl hf; rw [f_X5_timesD_l84] at hf; cases hf
    | succ n ih =>
      intro x3 di H locs ls hP hS hl hf
      rw [f_X5_timesD_l84] at hf
      refine lv_iload_n hx hb dX5_times_84 rfl (lv_at hl 3 rfl) ?_
      refine lv_aload_n hx hb dX5_times_85 rfl (lv_at hl 0 rfl) ?_
      refine va_get (ci := 5) (v := .int kk) (C := RX5) (T := TX5) (N := 10) hx hb hts (fun w h => BW_in (in_wsX50 w h)) hown hK hP 0 cr_mdl rfl 1 (by decide) (hts (.fieldLink RX5 7 "NumberFieldFactorsModel" "k" "I") (BW_in mw_312)) (fun _ h9 => h9) rfl dX5_times_86 ?_
      refine lv_icmp_lt (tgt := 176) hx hb dX5_times_89 (by decide) (fun c17 => ?_) (fun c17 => ?_)
      · rw [if_pos c17] at hf
        exact hk_84 x3 di _ _ _ hP hS (lv_sub hl [0, 1, 2, 3] rfl) hf
      · rw [if_neg c17] at hf
        refine lv_aload_n hx hb dX5_times_92 rfl (lv_at hl 0 rfl) ?_
        refine va_get (ci := 5) (v := .ref (ad 2)) (C := RX5) (T := TX5) (N := 10) hx hb hts (fun w h => BW_in (in_wsX50 w h)) hown hK hP 0 cr_mdl rfl 4 (by decide) (hts (.fieldLink RX5 23 "NumberFieldFactorsModel" "digits" "[I") (BW_in mw_316)) (fun _ h9 => h9) rfl dX5_times_93 ?_
        refine lv_iload_n hx hb dX5_times_96 rfl (lv_at hl 3 rfl) ?_
        by_cases b18 : x3 < 0 ∨ 6 ≤ (x3).toNatClampNeg
        · rw [if_pos b18] at hf; cases hf
        rw [if_neg b18] at hf
        refine va_iald hx hb hK hP 2 0 cr_di htI b18 dX5_times_97 ?_
        obtain ⟨v19, ev19, hf⟩ := nm_elim hf
        try dsimp only at hf
        refine tp_I ev19 ?_
        refine lv_istore (lv' := [(4, .int v19), (0, .ref (ad 0)), (1, .int x1), (2, .int x2), (3, .int x3)]) hx hb dX5_times_98 hl (by decide) rfl (fun ls hl => ?_)
        refine lv_aload_n hx hb dX5_times_100 rfl (lv_at hl 1 rfl) ?_
        refine va_get (ci := 5) (v := .ref (ad 2)) (C := RX5) (T := TX5) (N := 10) hx hb hts (fun w h => BW_in (in_wsX50 w h)) hown hK hP 0 cr_mdl rfl 4 (by decide) (hts (.fieldLink RX5 23 "NumberFieldFactorsModel" "digits" "[I") (BW_in mw_316)) (fun _ h9 => h9) rfl dX5_times_101 ?_
        refine lv_iload_n hx hb dX5_times_104 rfl (lv_at hl 4 rfl) ?_
        refine lv_iconst (v := 0) hx hb dX5_times_105 (by decide) ?_
        by_cases b20 : x3 < 0 ∨ 6 ≤ (x3).toNatClampNeg
        · rw [if_pos b20] at hf; cases hf
        rw [if_neg b20] at hf
        refine va_iast hx hb hK hP (ww_D hj) hS 2 0 cr_di htI b20 dX5_times_106 (fun H locs hP hD hS => ?_)
        have hP := cs_di hP
        refine lv_iconst (v := 0) hx hb dX5_times_107 (by decide) ?_
        refine lv_istore (lv' := [(5, .int 0), (4, .int v19), (0, .ref (ad 0)), (1, .int x1), (2, .int x2), (3, .int x3)]) hx hb dX5_times_108 hl (by decide) rfl (fun ls hl => ?_)
        refine L110 x1 x2 x3 v19 _ (fun y25 di26 H locs ls hP hS hl hf => ?_) fu 0 (upd di (x3).toNatClampNeg 0) _ _ _ hP hS (lv_sub hl [2, 3, 4, 5, 1, 0] rfl) hf
        try dsimp only at hf
        refine lv_iinc (v := x3 + (-1)) (lv' := [(3, .int (x3 + (-1))), (0, .ref (ad 0)), (1, .int x1), (2, .int x2), (4, .int v19), (5, .int y25)]) hx hb dX5_times_170 hl (k := 3) rfl rfl (by decide) rfl (fun ls hl => ?_)
        refine lv_goto (tgt := 84) hx hb dX5_times_173 (by decide) ?_
        exact ih (x3 + (-1)) di26 _ _ _ hP hS (lv_sub hl [1, 2, 3, 0] rfl) hf
  unfold f_X5_timesD at hf
  refine lv_iconst (v := 0) hx hb dX5_times_0 (by decide) ?_
  refine lv_istore_n (lv' := [(3, .int 0), (0, .ref (ad 0)), (1, .int p0), (2, .int p1)]) hx hb dX5_times_1 rfl hl (by decide) rfl (fun ls hl => ?_)
  refine L2 p0 p1 _ (fun y3 di4 H locs ls hP hS hl hf => ?_) fu 0 di _ _ _ hP hS (lv_sub hl [1, 2, 3, 0] rfl) hf
  try dsimp only at hf
  refine lv_iconst (v := 0) hx hb dX5_times_20 (by decide) ?_
  refine lv_istore_n (lv' := [(3, .int 0), (0, .ref (ad 0)), (1, .int p0), (2, .int p1)]) hx hb dX5_times_21 rfl hl (by decide) rfl (fun ls hl => ?_)
  refine L22 p0 p1 _ (fun y15 di16 H locs ls hP hS hl hf => ?_) fu 0 di4 _ _ _ hP hS (lv_sub hl [1, 2, 3, 0] rfl) hf
  try dsimp only at hf
  refine lv_iconst (v := 4) hx hb dX5_times_82 (by decide) ?_
  refine lv_istore_n (lv' := [(3, .int 4), (0, .ref (ad 0)), (1, .int p0), (2, .int p1)]) hx hb dX5_times_83 rfl hl (by decide) rfl (fun ls hl => ?_)
  refine L84 p0 p1 _ (fun y27 di28 H locs ls hP hS hl hf => ?_) fu 4 di16 _ _ _ hP hS (lv_sub hl [1, 2, 3, 0] rfl) hf
  try dsimp only at hf
  refine lv_aload_n hx hb dX5_times_176 rfl (lv_at hl 0 rfl) ?_
  refine va_get (ci := 5) (v := .ref (ad 2)) (C := RX5) (T := TX5) (N := 10) hx hb hts (fun w h => BW_in (in_wsX50 w h)) hown hK hP 0 cr_mdl rfl 4 (by decide) (hts (.fieldLink RX5 23 "NumberFieldFactorsModel" "digits" "[I") (BW_in mw_316)) (fun _ h9 => h9) rfl dX5_times_177 ?_
  refine lv_iconst (v := 0) hx hb dX5_times_180 (by decide) ?_
  by_cases b29 : (0 : Int32) < 0 ∨ 6 ≤ (0 : Int32).toNatClampNeg
  · rw [if_pos b29] at hf; cases hf
  rw [if_neg b29] at hf
  refine va_iald hx hb hK hP 2 0 cr_di htI b29 dX5_times_181 ?_
  refine lv_bipush (v := 101) hx hb dX5_times_182 (by decide) ?_
  refine lv_aload_n hx hb dX5_times_184 rfl (lv_at hl 0 rfl) ?_
  refine va_get (ci := 5) (v := .ref (ad 2)) (C := RX5) (T := TX5) (N := 10) hx hb hts (fun w h => BW_in (in_wsX50 w h)) hown hK hP 0 cr_mdl rfl 4 (by decide) (hts (.fieldLink RX5 23 "NumberFieldFactorsModel" "digits" "[I") (BW_in mw_316)) (fun _ h9 => h9) rfl dX5_times_185 ?_
  refine lv_iconst (v := 1) hx hb dX5_times_188 (by decide) ?_
  by_cases b30 : (1 : Int32) < 0 ∨ 6 ≤ (1 : Int32).toNatClampNeg
  · rw [if_pos b30] at hf; cases hf
  rw [if_neg b30] at hf
  refine va_iald hx hb hK hP 2 0 cr_di htI b30 dX5_times_189 ?_
  refine lv_imul hx hb dX5_times_190 ?_
  refine lv_iadd hx hb dX5_times_191 ?_
  refine lv_sipush (v := 10201) hx hb dX5_times_192 (by decide) ?_
  refine lv_aload_n hx hb dX5_times_195 rfl (lv_at hl 0 rfl) ?_
  refine va_get (ci := 5) (v := .ref (ad 2)) (C := RX5) (T := TX5) (N := 10) hx hb hts (fun w h => BW_in (in_wsX50 w h)) hown hK hP 0 cr_mdl rfl 4 (by decide) (hts (.fieldLink RX5 23 "NumberFieldFactorsModel" "digits" "[I") (BW_in mw_316)) (fun _ h9 => h9) rfl dX5_times_196 ?_
  refine lv_iconst (v := 2) hx hb dX5_times_199 (by decide) ?_
  by_cases b31 : (2 : Int32) < 0 ∨ 6 ≤ (2 : Int32).toNatClampNeg
  · rw [if_pos b31] at hf; cases hf
  rw [if_neg b31] at hf
  refine va_iald hx hb hK hP 2 0 cr_di htI b31 dX5_times_200 ?_
  refine lv_imul hx hb dX5_times_201 ?_
  refine lv_iadd hx hb dX5_times_202 ?_
  obtain rfl := Option.some.inj hf
  exact W.iret (v := ((di28 (0 : Int32).toNatClampNeg) + (101 * (di28 (1 : Int32).toNatClampNeg))) + (10201 * (di28 (2 : Int32).toNatClampNeg))) hx hb hr (fun t ht hW => ⟨rfl, by rw [ht]; exact hP, hS.F ht⟩) hS.2.2 dX5_times_203
/-! What times answers, by the degree of the modulus: the digits' products, and the multiples of the modulus off, each step's remainder by 101. -/
def md_a0 (a : Int32) : Int32 := jrem a 101
def md_a1 (a : Int32) : Int32 := jrem (a / 101) 101
def md_a2 (a : Int32) : Int32 := a / 10201
def md_d0 (a b : Int32) : Int32 := jrem (0 + md_a0 a * md_a0 b) 101
def md_d1 (a b : Int32) : Int32 := jrem (jrem (0 + md_a0 a * md_a1 b) 101 + md_a1 a * md_a0 b) 101
def md_d2 (a b : Int32) : Int32 := jrem (jrem (jrem (0 + md_a0 a * md_a2 b) 101 + md_a1 a * md_a1 b) 101 + md_a2 a * md_a0 b) 101
def md_d3 (a b : Int32) : Int32 := jrem (jrem (0 + md_a1 a * md_a2 b) 101 + md_a2 a * md_a1 b) 101
def md_d4 (a b : Int32) : Int32 := jrem (0 + md_a2 a * md_a2 b) 101
/-- one step: x and a multiple of the modulus' coefficient m off, c times -/
def md_s (x m c : Int32) : Int32 := jrem (x + (101 - m) * c) 101
def md_r1 (md : Nat → Int32) (a b : Int32) : Int32 :=
  md_s (md_d0 a b) (md 0) (md_s (md_d1 a b) (md 0) (md_s (md_d2 a b) (md 0) (md_s (md_d3 a b) (md 0) (md_d4 a b))))
def md_r2b (md : Nat → Int32) (a b : Int32) : Int32 := md_s (md_d3 a b) (md 1) (md_d4 a b)
def md_r2c (md : Nat → Int32) (a b : Int32) : Int32 := md_s (md_s (md_d2 a b) (md 0) (md_d4 a b)) (md 1) (md_r2b md a b)
def md_r2 (md : Nat → Int32) (a b : Int32) : Int32 :=
  md_s (md_d0 a b) (md 0) (md_r2c md a b) + 101 * md_s (md_s (md_d1 a b) (md 0) (md_r2b md a b)) (md 1) (md_r2c md a b)
def md_r3b (md : Nat → Int32) (a b : Int32) : Int32 := md_s (md_d3 a b) (md 2) (md_d4 a b)
def md_r3 (md : Nat → Int32) (a b : Int32) : Int32 :=
  md_s (md_d0 a b) (md 0) (md_r3b md a b) + 101 * md_s (md_s (md_d1 a b) (md 0) (md_d4 a b)) (md 1) (md_r3b md a b) + 10201 * md_s (md_s (md_d2 a b) (md 1) (md_d4 a b)) (md 2) (md_r3b md a b)
def f_X5_times (fu : Nat) (kk : Int32) (md : Nat → Int32) (p0 p1 : Int32) : Option Int32 :=
  if fu < 10 then none else if kk = 1 then some (md_r1 md p0 p1) else if kk = 2 then some (md_r2 md p0 p1) else if kk = 3 then some (md_r3 md p0 p1) else none
/-- a digit grows by v, modulo 101 -/
def dst (d : Nat → Int32) (j : Nat) (v : Int32) : Nat → Int32 := upd d j (jrem (d j + v) 101)
theorem dig0 (a : Int32) : f_X5_digit a 0 = some (md_a0 a) := rfl
theorem dig1 (a : Int32) : f_X5_digit a 1 = some (md_a1 a) := rfl
theorem dig2 (a : Int32) : f_X5_digit a 2 = some (md_a2 a) := rfl
theorem i32_01 : (0 : Int32) + 1 = 1 := by decide
theorem i32_11 : (1 : Int32) + 1 = 2 := by decide
theorem i32_21 : (2 : Int32) + 1 = 3 := by decide
theorem i32_31 : (3 : Int32) + 1 = 4 := by decide
theorem i32_41 : (4 : Int32) + 1 = 5 := by decide
theorem i32_4m : (4 : Int32) + (-1) = 3 := by decide
theorem i32_3m : (3 : Int32) + (-1) = 2 := by decide
theorem i32_2m : (2 : Int32) + (-1) = 1 := by decide
theorem i32_1m : (1 : Int32) + (-1) = 0 := by decide
theorem tD_l2 (k : Int32 → (Nat → Int32) → Option (Int32 × (Nat → Int32))) (fu : Nat) (kk : Int32) (md : Nat → Int32) (x1 x2 : Int32) (n : Nat) (di : Nat → Int32) : f_X5_timesD_l2 k fu kk md x1 x2 (n + 6) 0 di = k 5 (upd (upd (upd (upd (upd di 0 0) 1 0) 2 0) 3 0) 4 0) := by
  rw [f_X5_timesD_l2, if_neg (by decide), if_neg (by decide), i32_01]
  rw [f_X5_timesD_l2, if_neg (by decide), if_neg (by decide), i32_11]
  rw [f_X5_timesD_l2, if_neg (by decide), if_neg (by decide), i32_21]
  rw [f_X5_timesD_l2, if_neg (by decide), if_neg (by decide), i32_31]
  rw [f_X5_timesD_l2, if_neg (by decide), if_neg (by decide), i32_41]
  rw [f_X5_timesD_l2, if_pos (by decide)]
  rfl
theorem tD_l30_0 (k : Int32 → (Nat → Int32) → Option (Int32 × (Nat → Int32))) (fu : Nat) (kk : Int32) (md : Nat → Int32) (x1 x2 : Int32) (n : Nat) (di : Nat → Int32) : f_X5_timesD_l30 k fu kk md x1 x2 0 (n + 4) 0 di = k 3 (dst (dst (dst di 0 (md_a0 x1 * md_a0 x2)) 1 (md_a0 x1 * md_a1 x2)) 2 (md_a0 x1 * md_a2 x2)) := by
  rw [f_X5_timesD_l30, if_neg (by decide), if_neg (by decide), dig0, Option.bind_some, dig0, Option.bind_some, if_neg (by decide), i32_01]
  rw [f_X5_timesD_l30, if_neg (by decide), if_neg (by decide), dig0, Option.bind_some, dig1, Option.bind_some, if_neg (by decide), i32_11]
  rw [f_X5_timesD_l30, if_neg (by decide), if_neg (by decide), dig0, Option.bind_some, dig2, Option.bind_some, if_neg (by decide), i32_21]
  rw [f_X5_timesD_l30, if_pos (by decide)]
  rfl
theorem tD_l30_1 (k : Int32 → (Nat → Int32) → Option (Int32 × (Nat → Int32))) (fu : Nat) (kk : Int32) (md : Nat → Int32) (x1 x2 : Int32) (n : Nat) (di : Nat → Int32) : f_X5_timesD_l30 k fu kk md x1 x2 1 (n + 4) 0 di = k 3 (dst (dst (dst di 1 (md_a1 x1 * md_a0 x2)) 2 (md_a1 x1 * md_a1 x2)) 3 (md_a1 x1 * md_a2 x2)) := by
  rw [f_X5_timesD_l30, if_neg (by decide), if_neg (by decide), dig1, Option.bind_some, dig0, Option.bind_some, if_neg (by decide), i32_01]
  rw [f_X5_timesD_l30, if_neg (by decide), if_neg (by decide), dig1, Option.bind_some, dig1, Option.bind_some, if_neg (by decide), i32_11]
  rw [f_X5_timesD_l30, if_neg (by decide), if_neg (by decide), dig1, Option.bind_some, dig2, Option.bind_some, if_neg (by decide), i32_21]
  rw [f_X5_timesD_l30, if_pos (by decide)]
  rfl
theorem tD_l30_2 (k : Int32 → (Nat → Int32) → Option (Int32 × (Nat → Int32))) (fu : Nat) (kk : Int32) (md : Nat → Int32) (x1 x2 : Int32) (n : Nat) (di : Nat → Int32) : f_X5_timesD_l30 k fu kk md x1 x2 2 (n + 4) 0 di = k 3 (dst (dst (dst di 2 (md_a2 x1 * md_a0 x2)) 3 (md_a2 x1 * md_a1 x2)) 4 (md_a2 x1 * md_a2 x2)) := by
  rw [f_X5_timesD_l30, if_neg (by decide), if_neg (by decide), dig2, Option.bind_some, dig0, Option.bind_some, if_neg (by decide), i32_01]
  rw [f_X5_timesD_l30, if_neg (by decide), if_neg (by decide), dig2, Option.bind_some, dig1, Option.bind_some, if_neg (by decide), i32_11]
  rw [f_X5_timesD_l30, if_neg (by decide), if_neg (by decide), dig2, Option.bind_some, dig2, Option.bind_some, if_neg (by decide), i32_21]
  rw [f_X5_timesD_l30, if_pos (by decide)]
  rfl
theorem tD_l22 (k : Int32 → (Nat → Int32) → Option (Int32 × (Nat → Int32))) (fu : Nat) (kk : Int32) (md : Nat → Int32) (x1 x2 : Int32) (n m : Nat) (hfu : fu = m + 10) (di : Nat → Int32) : f_X5_timesD_l22 k fu kk md x1 x2 (n + 4) 0 di = k 3 (dst (dst (dst (dst (dst (dst (dst (dst (dst di 0 (md_a0 x1 * md_a0 x2)) 1 (md_a0 x1 * md_a1 x2)) 2 (md_a0 x1 * md_a2 x2)) 1 (md_a1 x1 * md_a0 x2)) 2 (md_a1 x1 * md_a1 x2)) 3 (md_a1 x1 * md_a2 x2)) 2 (md_a2 x1 * md_a0 x2)) 3 (md_a2 x1 * md_a1 x2)) 4 (md_a2 x1 * md_a2 x2)) := by
  subst hfu
  rw [f_X5_timesD_l22, if_neg (by decide), show m + 10 = (m + 6) + 4 by omega, tD_l30_0, ← show m + 10 = (m + 6) + 4 by omega, i32_01]
  rw [f_X5_timesD_l22, if_neg (by decide), show m + 10 = (m + 6) + 4 by omega, tD_l30_1, ← show m + 10 = (m + 6) + 4 by omega, i32_11]
  rw [f_X5_timesD_l22, if_neg (by decide), show m + 10 = (m + 6) + 4 by omega, tD_l30_2, ← show m + 10 = (m + 6) + 4 by omega, i32_21]
  rw [f_X5_timesD_l22, if_pos (by decide)]
theorem tD_l110_1_1 (k : Int32 → (Nat → Int32) → Option (Int32 × (Nat → Int32))) (fu : Nat) (md : Nat → Int32) (x1 x2 c : Int32) (n : Nat) (di : Nat → Int32) : f_X5_timesD_l110 k fu 1 md x1 x2 1 c (n + 2) 0 di = k 1 (dst di 0 ((101 - md 0) * c)) := by
  rw [f_X5_timesD_l110, if_neg (by decide), if_neg (by decide), if_neg (by decide), if_neg (by decide), i32_01]
  rw [f_X5_timesD_l110, if_pos (by decide)]
  rfl
theorem tD_l110_1_2 (k : Int32 → (Nat → Int32) → Option (Int32 × (Nat → Int32))) (fu : Nat) (md : Nat → Int32) (x1 x2 c : Int32) (n : Nat) (di : Nat → Int32) : f_X5_timesD_l110 k fu 1 md x1 x2 2 c (n + 2) 0 di = k 1 (dst di 1 ((101 - md 0) * c)) := by
  rw [f_X5_timesD_l110, if_neg (by decide), if_neg (by decide), if_neg (by decide), if_neg (by decide), i32_01]
  rw [f_X5_timesD_l110, if_pos (by decide)]
  rfl
theorem tD_l110_1_3 (k : Int32 → (Nat → Int32) → Option (Int32 × (Nat → Int32))) (fu : Nat) (md : Nat → Int32) (x1 x2 c : Int32) (n : Nat) (di : Nat → Int32) : f_X5_timesD_l110 k fu 1 md x1 x2 3 c (n + 2) 0 di = k 1 (dst di 2 ((101 - md 0) * c)) := by
  rw [f_X5_timesD_l110, if_neg (by decide), if_neg (by decide), if_neg (by decide), if_neg (by decide), i32_01]
  rw [f_X5_timesD_l110, if_pos (by decide)]
  rfl
theorem tD_l110_1_4 (k : Int32 → (Nat → Int32) → Option (Int32 × (Nat → Int32))) (fu : Nat) (md : Nat → Int32) (x1 x2 c : Int32) (n : Nat) (di : Nat → Int32) : f_X5_timesD_l110 k fu 1 md x1 x2 4 c (n + 2) 0 di = k 1 (dst di 3 ((101 - md 0) * c)) := by
  rw [f_X5_timesD_l110, if_neg (by decide), if_neg (by decide), if_neg (by decide), if_neg (by decide), i32_01]
  rw [f_X5_timesD_l110, if_pos (by decide)]
  rfl
theorem tD_l110_2_2 (k : Int32 → (Nat → Int32) → Option (Int32 × (Nat → Int32))) (fu : Nat) (md : Nat → Int32) (x1 x2 c : Int32) (n : Nat) (di : Nat → Int32) : f_X5_timesD_l110 k fu 2 md x1 x2 2 c (n + 3) 0 di = k 2 (dst (dst di 0 ((101 - md 0) * c)) 1 ((101 - md 1) * c)) := by
  rw [f_X5_timesD_l110, if_neg (by decide), if_neg (by decide), if_neg (by decide), if_neg (by decide), i32_01]
  rw [f_X5_timesD_l110, if_neg (by decide), if_neg (by decide), if_neg (by decide), if_neg (by decide), i32_11]
  rw [f_X5_timesD_l110, if_pos (by decide)]
  rfl
theorem tD_l110_2_3 (k : Int32 → (Nat → Int32) → Option (Int32 × (Nat → Int32))) (fu : Nat) (md : Nat → Int32) (x1 x2 c : Int32) (n : Nat) (di : Nat → Int32) : f_X5_timesD_l110 k fu 2 md x1 x2 3 c (n + 3) 0 di = k 2 (dst (dst di 1 ((101 - md 0) * c)) 2 ((101 - md 1) * c)) := by
  rw [f_X5_timesD_l110, if_neg (by decide), if_neg (by decide), if_neg (by decide), if_neg (by decide), i32_01]
  rw [f_X5_timesD_l110, if_neg (by decide), if_neg (by decide), if_neg (by decide), if_neg (by decide), i32_11]
  rw [f_X5_timesD_l110, if_pos (by decide)]
  rfl
theorem tD_l110_2_4 (k : Int32 → (Nat → Int32) → Option (Int32 × (Nat → Int32))) (fu : Nat) (md : Nat → Int32) (x1 x2 c : Int32) (n : Nat) (di : Nat → Int32) : f_X5_timesD_l110 k fu 2 md x1 x2 4 c (n + 3) 0 di = k 2 (dst (dst di 2 ((101 - md 0) * c)) 3 ((101 - md 1) * c)) := by
  rw [f_X5_timesD_l110, if_neg (by decide), if_neg (by decide), if_neg (by decide), if_neg (by decide), i32_01]
  rw [f_X5_timesD_l110, if_neg (by decide), if_neg (by decide), if_neg (by decide), if_neg (by decide), i32_11]
  rw [f_X5_timesD_l110, if_pos (by decide)]
  rfl
theorem tD_l110_3_3 (k : Int32 → (Nat → Int32) → Option (Int32 × (Nat → Int32))) (fu : Nat) (md : Nat → Int32) (x1 x2 c : Int32) (n : Nat) (di : Nat → Int32) : f_X5_timesD_l110 k fu 3 md x1 x2 3 c (n + 4) 0 di = k 3 (dst (dst (dst di 0 ((101 - md 0) * c)) 1 ((101 - md 1) * c)) 2 ((101 - md 2) * c)) := by
  rw [f_X5_timesD_l110, if_neg (by decide), if_neg (by decide), if_neg (by decide), if_neg (by decide), i32_01]
  rw [f_X5_timesD_l110, if_neg (by decide), if_neg (by decide), if_neg (by decide), if_neg (by decide), i32_11]
  rw [f_X5_timesD_l110, if_neg (by decide), if_neg (by decide), if_neg (by decide), if_neg (by decide), i32_21]
  rw [f_X5_timesD_l110, if_pos (by decide)]
  rfl
theorem tD_l110_3_4 (k : Int32 → (Nat → Int32) → Option (Int32 × (Nat → Int32))) (fu : Nat) (md : Nat → Int32) (x1 x2 c : Int32) (n : Nat) (di : Nat → Int32) : f_X5_timesD_l110 k fu 3 md x1 x2 4 c (n + 4) 0 di = k 3 (dst (dst (dst di 1 ((101 - md 0) * c)) 2 ((101 - md 1) * c)) 3 ((101 - md 2) * c)) := by
  rw [f_X5_timesD_l110, if_neg (by decide), if_neg (by decide), if_neg (by decide), if_neg (by decide), i32_01]
  rw [f_X5_timesD_l110, if_neg (by decide), if_neg (by decide), if_neg (by decide), if_neg (by decide), i32_11]
  rw [f_X5_timesD_l110, if_neg (by decide), if_neg (by decide), if_neg (by decide), if_neg (by decide), i32_21]
  rw [f_X5_timesD_l110, if_pos (by decide)]
  rfl
theorem tD_l84_1 (k : Int32 → (Nat → Int32) → Option (Int32 × (Nat → Int32))) (fu : Nat) (md : Nat → Int32) (x1 x2 : Int32) (n m : Nat) (hfu : fu = m + 10) (d0 : Nat → Int32) : ∃ d : Nat → Int32, f_X5_timesD_l84 k fu 1 md x1 x2 (n + 5) 4 d0 = k 0 d ∧ d = (dst (upd (dst (upd (dst (upd (dst (upd d0 4 0) 3 ((101 - md 0) * (d0 4))) 3 0) 2 ((101 - md 0) * ((dst (upd d0 4 0) 3 ((101 - md 0) * (d0 4))) 3))) 2 0) 1 ((101 - md 0) * ((dst (upd (dst (upd d0 4 0) 3 ((101 - md 0) * (d0 4))) 3 0) 2 ((101 - md 0) * ((dst (upd d0 4 0) 3 ((101 - md 0) * (d0 4))) 3))) 2))) 1 0) 0 ((101 - md 0) * ((dst (upd (dst (upd (dst (upd d0 4 0) 3 ((101 - md 0) * (d0 4))) 3 0) 2 ((101 - md 0) * ((dst (upd d0 4 0) 3 ((101 - md 0) * (d0 4))) 3))) 2 0) 1 ((101 - md 0) * ((dst (upd (dst (upd d0 4 0) 3 ((101 - md 0) * (d0 4))) 3 0) 2 ((101 - md 0) * ((dst (upd d0 4 0) 3 ((101 - md 0) * (d0 4))) 3))) 2))) 1))) := by
  subst hfu
  refine ⟨_, ?_, rfl⟩
  rw [f_X5_timesD_l84, if_neg (by decide), if_neg (by decide), nm, if_neg (by decide), show m + 10 = (m + 8) + 2 by omega, tD_l110_1_4, ← show m + 10 = (m + 8) + 2 by omega, i32_4m]
  rw [f_X5_timesD_l84, if_neg (by decide), if_neg (by decide), nm, if_neg (by decide), show m + 10 = (m + 8) + 2 by omega, tD_l110_1_3, ← show m + 10 = (m + 8) + 2 by omega, i32_3m]
  rw [f_X5_timesD_l84, if_neg (by decide), if_neg (by decide), nm, if_neg (by decide), show m + 10 = (m + 8) + 2 by omega, tD_l110_1_2, ← show m + 10 = (m + 8) + 2 by omega, i32_2m]
  rw [f_X5_timesD_l84, if_neg (by decide), if_neg (by decide), nm, if_neg (by decide), show m + 10 = (m + 8) + 2 by omega, tD_l110_1_1, ← show m + 10 = (m + 8) + 2 by omega, i32_1m]
  rw [f_X5_timesD_l84, if_pos (by decide)]
  rfl
theorem tD_l84_2 (k : Int32 → (Nat → Int32) → Option (Int32 × (Nat → Int32))) (fu : Nat) (md : Nat → Int32) (x1 x2 : Int32) (n m : Nat) (hfu : fu = m + 10) (d0 : Nat → Int32) : ∃ d : Nat → Int32, f_X5_timesD_l84 k fu 2 md x1 x2 (n + 4) 4 d0 = k 1 d ∧ d = (dst (dst (upd (dst (dst (upd (dst (dst (upd d0 4 0) 2 ((101 - md 0) * (d0 4))) 3 ((101 - md 1) * (d0 4))) 3 0) 1 ((101 - md 0) * ((dst (dst (upd d0 4 0) 2 ((101 - md 0) * (d0 4))) 3 ((101 - md 1) * (d0 4))) 3))) 2 ((101 - md 1) * ((dst (dst (upd d0 4 0) 2 ((101 - md 0) * (d0 4))) 3 ((101 - md 1) * (d0 4))) 3))) 2 0) 0 ((101 - md 0) * ((dst (dst (upd (dst (dst (upd d0 4 0) 2 ((101 - md 0) * (d0 4))) 3 ((101 - md 1) * (d0 4))) 3 0) 1 ((101 - md 0) * ((dst (dst (upd d0 4 0) 2 ((101 - md 0) * (d0 4))) 3 ((101 - md 1) * (d0 4))) 3))) 2 ((101 - md 1) * ((dst (dst (upd d0 4 0) 2 ((101 - md 0) * (d0 4))) 3 ((101 - md 1) * (d0 4))) 3))) 2))) 1 ((101 - md 1) * ((dst (dst (upd (dst (dst (upd d0 4 0) 2 ((101 - md 0) * (d0 4))) 3 ((101 - md 1) * (d0 4))) 3 0) 1 ((101 - md 0) * ((dst (dst (upd d0 4 0) 2 ((101 - md 0) * (d0 4))) 3 ((101 - md 1) * (d0 4))) 3))) 2 ((101 - md 1) * ((dst (dst (upd d0 4 0) 2 ((101 - md 0) * (d0 4))) 3 ((101 - md 1) * (d0 4))) 3))) 2))) := by
  subst hfu
  refine ⟨_, ?_, rfl⟩
  rw [f_X5_timesD_l84, if_neg (by decide), if_neg (by decide), nm, if_neg (by decide), show m + 10 = (m + 7) + 3 by omega, tD_l110_2_4, ← show m + 10 = (m + 7) + 3 by omega, i32_4m]
  rw [f_X5_timesD_l84, if_neg (by decide), if_neg (by decide), nm, if_neg (by decide), show m + 10 = (m + 7) + 3 by omega, tD_l110_2_3, ← show m + 10 = (m + 7) + 3 by omega, i32_3m]
  rw [f_X5_timesD_l84, if_neg (by decide), if_neg (by decide), nm, if_neg (by decide), show m + 10 = (m + 7) + 3 by omega, tD_l110_2_2, ← show m + 10 = (m + 7) + 3 by omega, i32_2m]
  rw [f_X5_timesD_l84, if_pos (by decide)]
  rfl
theorem tD_l84_3 (k : Int32 → (Nat → Int32) → Option (Int32 × (Nat → Int32))) (fu : Nat) (md : Nat → Int32) (x1 x2 : Int32) (n m : Nat) (hfu : fu = m + 10) (d0 : Nat → Int32) : ∃ d : Nat → Int32, f_X5_timesD_l84 k fu 3 md x1 x2 (n + 3) 4 d0 = k 2 d ∧ d = (dst (dst (dst (upd (dst (dst (dst (upd d0 4 0) 1 ((101 - md 0) * (d0 4))) 2 ((101 - md 1) * (d0 4))) 3 ((101 - md 2) * (d0 4))) 3 0) 0 ((101 - md 0) * ((dst (dst (dst (upd d0 4 0) 1 ((101 - md 0) * (d0 4))) 2 ((101 - md 1) * (d0 4))) 3 ((101 - md 2) * (d0 4))) 3))) 1 ((101 - md 1) * ((dst (dst (dst (upd d0 4 0) 1 ((101 - md 0) * (d0 4))) 2 ((101 - md 1) * (d0 4))) 3 ((101 - md 2) * (d0 4))) 3))) 2 ((101 - md 2) * ((dst (dst (dst (upd d0 4 0) 1 ((101 - md 0) * (d0 4))) 2 ((101 - md 1) * (d0 4))) 3 ((101 - md 2) * (d0 4))) 3))) := by
  subst hfu
  refine ⟨_, ?_, rfl⟩
  rw [f_X5_timesD_l84, if_neg (by decide), if_neg (by decide), nm, if_neg (by decide), show m + 10 = (m + 6) + 4 by omega, tD_l110_3_4, ← show m + 10 = (m + 6) + 4 by omega, i32_4m]
  rw [f_X5_timesD_l84, if_neg (by decide), if_neg (by decide), nm, if_neg (by decide), show m + 10 = (m + 6) + 4 by omega, tD_l110_3_3, ← show m + 10 = (m + 6) + 4 by omega, i32_3m]
  rw [f_X5_timesD_l84, if_pos (by decide)]
  rfl
theorem timesD_1 (n : Nat) (md di : Nat → Int32) (a b : Int32) : ∃ di', f_X5_timesD (n + 10) 1 md di a b = some (md_r1 md a b + 101 * 0 + 10201 * 0, di') := by
  unfold f_X5_timesD
  rw [show n + 10 = (n + 4) + 6 by omega, tD_l2, ← show n + 10 = (n + 4) + 6 by omega]
  rw [show n + 10 = (n + 6) + 4 by omega, tD_l22 _ _ _ _ _ _ _ n (by omega), ← show n + 10 = (n + 6) + 4 by omega]
  obtain ⟨d, h1, h2⟩ := tD_l84_1 (fun y27 di28 => if (0 : Int32) < 0 ∨ 6 ≤ (0 : Int32).toNatClampNeg then none else if (1 : Int32) < 0 ∨ 6 ≤ (1 : Int32).toNatClampNeg then none else if (2 : Int32) < 0 ∨ 6 ≤ (2 : Int32).toNatClampNeg then none else some (((di28 (0 : Int32).toNatClampNeg) + (101 * (di28 (1 : Int32).toNatClampNeg))) + (10201 * (di28 (2 : Int32).toNatClampNeg)), di28)) (n + 10) md a b (n + 4 + 1) n rfl (dst (dst (dst (dst (dst (dst (dst (dst (dst (upd (upd (upd (upd (upd di 0 0) 1 0) 2 0) 3 0) 4 0) 0 (md_a0 a * md_a0 b)) 1 (md_a0 a * md_a1 b)) 2 (md_a0 a * md_a2 b)) 1 (md_a1 a * md_a0 b)) 2 (md_a1 a * md_a1 b)) 3 (md_a1 a * md_a2 b)) 2 (md_a2 a * md_a0 b)) 3 (md_a2 a * md_a1 b)) 4 (md_a2 a * md_a2 b))
  rw [show n + 4 + 1 + 5 = n + 10 by omega] at h1
  refine ⟨d, h1.trans ?_⟩
  rw [if_neg (by decide), if_neg (by decide), if_neg (by decide), show (0 : Int32).toNatClampNeg = 0 by decide, show (1 : Int32).toNatClampNeg = 1 by decide, show (2 : Int32).toNatClampNeg = 2 by decide]
  have e0 : d 0 + 101 * d 1 + 10201 * d 2 = md_r1 md a b + 101 * 0 + 10201 * 0 := by
    rw [h2]
    simp only [dst, upd]
    simp [md_r1, md_r2, md_r2b, md_r2c, md_r3, md_r3b, md_s, md_d0, md_d1, md_d2, md_d3, md_d4]
  rw [e0]
theorem timesD_2 (n : Nat) (md di : Nat → Int32) (a b : Int32) : ∃ di', f_X5_timesD (n + 10) 2 md di a b = some (md_r2 md a b + 10201 * 0, di') := by
  unfold f_X5_timesD
  rw [show n + 10 = (n + 4) + 6 by omega, tD_l2, ← show n + 10 = (n + 4) + 6 by omega]
  rw [show n + 10 = (n + 6) + 4 by omega, tD_l22 _ _ _ _ _ _ _ n (by omega), ← show n + 10 = (n + 6) + 4 by omega]
  obtain ⟨d, h1, h2⟩ := tD_l84_2 (fun y27 di28 => if (0 : Int32) < 0 ∨ 6 ≤ (0 : Int32).toNatClampNeg then none else if (1 : Int32) < 0 ∨ 6 ≤ (1 : Int32).toNatClampNeg then none else if (2 : Int32) < 0 ∨ 6 ≤ (2 : Int32).toNatClampNeg then none else some (((di28 (0 : Int32).toNatClampNeg) + (101 * (di28 (1 : Int32).toNatClampNeg))) + (10201 * (di28 (2 : Int32).toNatClampNeg)), di28)) (n + 10) md a b (n + 4 + 2) n rfl (dst (dst (dst (dst (dst (dst (dst (dst (dst (upd (upd (upd (upd (upd di 0 0) 1 0) 2 0) 3 0) 4 0) 0 (md_a0 a * md_a0 b)) 1 (md_a0 a * md_a1 b)) 2 (md_a0 a * md_a2 b)) 1 (md_a1 a * md_a0 b)) 2 (md_a1 a * md_a1 b)) 3 (md_a1 a * md_a2 b)) 2 (md_a2 a * md_a0 b)) 3 (md_a2 a * md_a1 b)) 4 (md_a2 a * md_a2 b))
  rw [show n + 4 + 2 + 4 = n + 10 by omega] at h1
  refine ⟨d, h1.trans ?_⟩
  rw [if_neg (by decide), if_neg (by decide), if_neg (by decide), show (0 : Int32).toNatClampNeg = 0 by decide, show (1 : Int32).toNatClampNeg = 1 by decide, show (2 : Int32).toNatClampNeg = 2 by decide]
  have e0 : d 0 + 101 * d 1 + 10201 * d 2 = md_r2 md a b + 10201 * 0 := by
    rw [h2]
    simp only [dst, upd]
    simp [md_r1, md_r2, md_r2b, md_r2c, md_r3, md_r3b, md_s, md_d0, md_d1, md_d2, md_d3, md_d4]
  rw [e0]
theorem timesD_3 (n : Nat) (md di : Nat → Int32) (a b : Int32) : ∃ di', f_X5_timesD (n + 10) 3 md di a b = some (md_r3 md a b, di') := by
  unfold f_X5_timesD
  rw [show n + 10 = (n + 4) + 6 by omega, tD_l2, ← show n + 10 = (n + 4) + 6 by omega]
  rw [show n + 10 = (n + 6) + 4 by omega, tD_l22 _ _ _ _ _ _ _ n (by omega), ← show n + 10 = (n + 6) + 4 by omega]
  obtain ⟨d, h1, h2⟩ := tD_l84_3 (fun y27 di28 => if (0 : Int32) < 0 ∨ 6 ≤ (0 : Int32).toNatClampNeg then none else if (1 : Int32) < 0 ∨ 6 ≤ (1 : Int32).toNatClampNeg then none else if (2 : Int32) < 0 ∨ 6 ≤ (2 : Int32).toNatClampNeg then none else some (((di28 (0 : Int32).toNatClampNeg) + (101 * (di28 (1 : Int32).toNatClampNeg))) + (10201 * (di28 (2 : Int32).toNatClampNeg)), di28)) (n + 10) md a b (n + 4 + 3) n rfl (dst (dst (dst (dst (dst (dst (dst (dst (dst (upd (upd (upd (upd (upd di 0 0) 1 0) 2 0) 3 0) 4 0) 0 (md_a0 a * md_a0 b)) 1 (md_a0 a * md_a1 b)) 2 (md_a0 a * md_a2 b)) 1 (md_a1 a * md_a0 b)) 2 (md_a1 a * md_a1 b)) 3 (md_a1 a * md_a2 b)) 2 (md_a2 a * md_a0 b)) 3 (md_a2 a * md_a1 b)) 4 (md_a2 a * md_a2 b))
  rw [show n + 4 + 3 + 3 = n + 10 by omega] at h1
  refine ⟨d, h1.trans ?_⟩
  rw [if_neg (by decide), if_neg (by decide), if_neg (by decide), show (0 : Int32).toNatClampNeg = 0 by decide, show (1 : Int32).toNatClampNeg = 1 by decide, show (2 : Int32).toNatClampNeg = 2 by decide]
  have e0 : d 0 + 101 * d 1 + 10201 * d 2 = md_r3 md a b := by
    rw [h2]
    simp only [dst, upd]
    simp [md_r1, md_r2, md_r2b, md_r2c, md_r3, md_r3b, md_s, md_d0, md_d1, md_d2, md_d3, md_d4]
  rw [e0]
theorem C_X5_times (l : Launch) (D : va_G) (tys : List (ClassId × FieldType)) {ad : Nat → Nat} (hj : ww_inj 6 ad) {cI : ClassId} (htI : tys[0]? = some (cI, .int)) {fu : Nat} {th : Int32} {kk : Int32} {mn : Int64} {md : Nat → Int32} {rw : Nat → Int32} {dg : Nat → Int32} {kn : Int32} {fc : Int32} {oft : Nat → Int32} {p0 : Int32} {p1 : Int32} {res : Int32} (hf : f_X5_times fu kk md p0 p1 = some res) :
    Met l yX5_times usX5_times ({ frames := 1, cells := 0, slots := 0, locals := 21 }) (va_Pc [.ref (ad 0), .int p0, .int p1] (ws_Bx D tys (fun di => ww 6 ad (cellR cI ad th kk mn md rw dg kn fc oft di)))) (ct_Qx D (fun di => ww 6 ad (cellR cI ad th kk mn md rw dg kn fc oft di)) (ww_A 6 ad) (some (.int res))) 0 0 (ww_A 6 ad) := by
  have key : ∀ di, ∃ di', f_X5_timesD fu kk md di p0 p1 = some (res, di') := by
    intro di
    unfold f_X5_times at hf
    by_cases h : fu < 10
    · rw [if_pos h] at hf; cases hf
    · rw [if_neg h] at hf
      obtain ⟨n, rfl⟩ : ∃ n, fu = n + 10 := ⟨fu - 10, by omega⟩
      by_cases h1 : kk = 1
      · rw [if_pos h1] at hf; subst h1; obtain rfl := Option.some.inj hf
        obtain ⟨d, hd⟩ := timesD_1 n md di p0 p1
        exact ⟨d, by rw [hd, show md_r1 md p0 p1 + 101 * 0 + 10201 * 0 = md_r1 md p0 p1 by simp]⟩
      · rw [if_neg h1] at hf
        by_cases h2 : kk = 2
        · rw [if_pos h2] at hf; subst h2; obtain rfl := Option.some.inj hf
          obtain ⟨d, hd⟩ := timesD_2 n md di p0 p1
          exact ⟨d, by rw [hd, show md_r2 md p0 p1 + 10201 * 0 = md_r2 md p0 p1 by simp]⟩
        · rw [if_neg h2] at hf
          by_cases h3 : kk = 3
          · rw [if_pos h3] at hf; subst h3; obtain rfl := Option.some.inj hf; exact timesD_3 n md di p0 p1
          · rw [if_neg h3] at hf; cases hf
  intro p e ha hc hk s m args below hfr happ hP hK
  obtain ⟨h0, ⟨di, hPd⟩, hKd⟩ := hP
  obtain ⟨di', hd⟩ := key di
  obtain ⟨n, o, h1, h2, h3, ⟨q1, q2, q3⟩, h4⟩ := C_X5_timesD l D tys [] rfl hj htI (th := th) (mn := mn) (rw := rw) (dg := dg) (kn := kn) (fc := fc) (oft := oft) hd p e ha hc hk s m args below hfr happ ⟨h0, hPd, hKd, fun _ h => by cases h⟩ hK
  exact ⟨n, o, h1, h2, h3, ⟨q1, ⟨di', q2⟩, q3⟩, h4⟩
