def f_X5_product_l22 (k22 : Int32 → (Nat → Int32) → Option ((Nat → Int32) × (Nat → Int32))) (fu : Nat) (kk : Int32) (md : Nat → Int32) (dg : Nat → Int32) (x1 : Int32) (x2 : Int32) (x3 : Int32) (x4 : Int32) : Nat → Int32 → (Nat → Int32) → Option ((Nat → Int32) × (Nat → Int32))
  | 0, _, _ => none
  | n + 1, x5, rw =>
    if x2 < 0 ∨ 25 ≤ (x2).toNatClampNeg then none else
    if (dg (x2).toNatClampNeg) < x5 then
      k22 x5 rw
    else
      if (((16 * x3) + x4) + x5) < 0 ∨ 400 ≤ (((16 * x3) + x4) + x5).toNatClampNeg then none else
      (f_X5_cell rw x1 x4).bind (fun u8 =>
      (f_X5_cell rw x2 x5).bind (fun u10 =>
      (f_X5_times fu kk md u8 u10).bind (fun u12 =>
      (f_X5_add (rw (((16 * x3) + x4) + x5).toNatClampNeg) u12).bind (fun u14 =>
      if (((16 * x3) + x4) + x5) < 0 ∨ 400 ≤ (((16 * x3) + x4) + x5).toNatClampNeg then none else
      f_X5_product_l22 k22 fu kk md dg x1 x2 x3 x4 n (x5 + 1) (upd rw (((16 * x3) + x4) + x5).toNatClampNeg u14)))))
def f_X5_product_l8 (k8 : Int32 → (Nat → Int32) → Option ((Nat → Int32) × (Nat → Int32))) (fu : Nat) (kk : Int32) (md : Nat → Int32) (dg : Nat → Int32) (x1 : Int32) (x2 : Int32) (x3 : Int32) : Nat → Int32 → (Nat → Int32) → Option ((Nat → Int32) × (Nat → Int32))
  | 0, _, _ => none
  | n + 1, x4, rw =>
    if x1 < 0 ∨ 25 ≤ (x1).toNatClampNeg then none else
    if (dg (x1).toNatClampNeg) < x4 then
      k8 x4 rw
    else
      f_X5_product_l22 (fun y17 rw18 =>
        f_X5_product_l8 k8 fu kk md dg x1 x2 x3 n (x4 + 1) rw18) fu kk md dg x1 x2 x3 x4 fu 0 rw
def f_X5_product (fu : Nat) (kk : Int32) (md : Nat → Int32) (rw : Nat → Int32) (dg : Nat → Int32) (p0 : Int32) (p1 : Int32) (p2 : Int32) : Option ((Nat → Int32) × (Nat → Int32)) :=
  (f_X5_clear fu rw dg p2).bind (fun u1 =>
  f_X5_product_l8 (fun y19 rw20 =>
    if p0 < 0 ∨ 25 ≤ (p0).toNatClampNeg then none else
    ((
      if (u1.2 (p0).toNatClampNeg) < 0 then
        some (-1)
      else
        if p1 < 0 ∨ 25 ≤ (p1).toNatClampNeg then none else
        ((
          if 0 ≤ (u1.2 (p1).toNatClampNeg) then
            if p0 < 0 ∨ 25 ≤ (p0).toNatClampNeg then none else
            if p1 < 0 ∨ 25 ≤ (p1).toNatClampNeg then none else
            some ((u1.2 (p0).toNatClampNeg) + (u1.2 (p1).toNatClampNeg))
          else
            some (-1) : Option (Int32))).bind (fun w25 =>
        some w25) : Option (Int32))).bind (fun w22 =>
    if p2 < 0 ∨ 25 ≤ (p2).toNatClampNeg then none else
    some (rw20, upd u1.2 (p2).toNatClampNeg w22))) fu kk md u1.2 p0 p1 p2 fu 0 u1.1)
set_option maxHeartbeats 4000000 in
set_option maxRecDepth 100000 in
theorem C_X5_product (l : Launch) (D : va_G) (tys : List (ClassId × FieldType)) {ad : Nat → Nat} (hj : ww_inj 6 ad) {cI : ClassId} (htI : tys[0]? = some (cI, .int)) {fu : Nat} {th : Int32} {kk : Int32} {mn : Int64} {md : Nat → Int32} {rw : Nat → Int32} {dg : Nat → Int32} {kn : Int32} {fc : Int32} {oft : Nat → Int32} {p0 : Int32} {p1 : Int32} {p2 : Int32} {res : (Nat → Int32) × (Nat → Int32)} (hf : f_X5_product fu kk md rw dg p0 p1 p2 = some res) :
    Met l yX5_product usX5_product ({ frames := 2, cells := 0, slots := 0, locals := 46 }) (va_Pc [.ref (ad 0), .int p0, .int p1, .int p2] (ws_Bx D tys (fun di => ww 6 ad (cellR cI ad th kk mn md rw dg kn fc oft di)))) (ct_Qx D (fun di => ww 6 ad (cellR cI ad th kk mn md res.1 res.2 kn fc oft di)) (ww_A 6 ad) (none)) 0 0 (ww_A 6 ad) := by
  refine Met.ofW (cc := cX5_product) (maxL := 6) (ret := none) (by decide) rfl ?_
  intro p e s m args below meth c s₁ B hml hv
  obtain ⟨rfl, ⟨di, hP⟩, hK⟩ := hv
  have hx := B.exec
  have hb := B.bytes
  have hr := B.returns
  have hts := atoms_spec (ws := usX5_product) B.pre
  have hown : s.vm.findClass RX5 = some m.cls := findClass_of_methodNamed B.named
  have hlocks := B.notSynchronized
  have hS : va_S (ww_A 6 ad) s.heap s.heap [] := va_S.rf
  have hl := lv_entry ([.ref (ad 0), .int p0, .int p1, .int p2]) (n := 6) (Nat.le_of_ble_eq_true rfl)
  rw [lg_entry_eq]
  generalize (lg_sl ([.ref (ad 0), .int p0, .int p1, .int p2]) ++ List.replicate (6 - (lg_sl ([.ref (ad 0), .int p0, .int p1, .int p2])).length) Slot.unset).toArray = ls at hl ⊢
  have hl : lv_has ls 6 [(0, .ref (ad 0)), (1, .int p0), (2, .int p1), (3, .int p2)] := hl
  have L22 : ∀ (dg : Nat → Int32) (x1 : Int32) (x2 : Int32) (x3 : Int32) (x4 : Int32) (k22 : Int32 → (Nat → Int32) → Option ((Nat → Int32) × (Nat → Int32))), (∀ (x5 : Int32) (rw : Nat → Int32) (di : Nat → Int32) (H : Heap) (locs : List Loc) (ls : Array Slot), va_P D vwCl (ww 6 ad (cellR cI ad th kk mn md rw dg kn fc oft di)) H → va_S (ww_A 6 ad) s.heap H locs → lv_has ls 6 [(0, .ref (ad 0)), (1, .int x1), (2, .int x2), (3, .int x3), (4, .int x4), (5, .int x5)] →  k22 x5 rw = some res → W p l e (headSpec usX5_product { frames := 2, cells := 0, slots := 0, locals := 46 }).room s m [.ref (ad 0), .int p0, .int p1, .int p2].toArray below meth c H locs 0 0 (MQ below (ct_Qx D (fun di => ww 6 ad (cellR cI ad th kk mn md res.1 res.2 kn fc oft di)) (ww_A 6 ad) (none)) [.ref (ad 0), .int p0, .int p1, .int p2].toArray s 0 0 (ww_A 6 ad)) (F0 m 90 ls [])) → ∀ (n : Nat) (x5 : Int32) (rw : Nat → Int32) (di : Nat → Int32) (H : Heap) (locs : List Loc) (ls : Array Slot), va_P D vwCl (ww 6 ad (cellR cI ad th kk mn md rw dg kn fc oft di)) H → va_S (ww_A 6 ad) s.heap H locs → lv_has ls 6 [(0, .ref (ad 0)), (1, .int x1), (2, .int x2), (3, .int x3), (4, .int x4), (5, .int x5)] →  f_X5_product_l22 k22 fu kk md dg x1 x2 x3 x4 n x5 rw = some res → W p l e (headSpec usX5_product { frames := 2, cells := 0, slots := 0, locals := 46 }).room s m [.ref (ad 0), .int p0, .int p1, .int p2].toArray below meth c H locs 0 0 (MQ below (ct_Qx D (fun di => ww 6 ad (cellR cI ad th kk mn md res.1 res.2 kn fc oft di)) (ww_A 6 ad) (none)) [.ref (ad 0), .int p0, .int p1, .int p2].toArray s 0 0 (ww_A 6 ad)) (F0 m 22 ls []) := by
    intro dg x1 x2 x3 x4 k22 hk_22 n
    induction n with
    | zero => intro x5 rw di H locs ls hP hS hl hf; rw [f_X5_product_l22] at hf; cases hf
    | succ n ih =>
      intro x5 rw di H locs ls hP hS hl hf
      rw [f_X5_product_l22] at hf
      refine lv_iload hx hb dX5_product_22 (lv_at hl 5 rfl) ?_
      refine lv_aload_n hx hb dX5_product_24 rfl (lv_at hl 0 rfl) ?_
      refine va_get (ci := 5) (v := .ref (ad 4)) (C := RX5) (T := TX5) (N := 10) hx hb hts (fun w h => BW_in (in_wsX50 w h)) hown hK hP 0 cr_mdl rfl 6 (by decide) (hts (.fieldLink RX5 29 "NumberFieldFactorsModel" "degree" "[I") (BW_in mw_318)) (fun _ h9 => h9) rfl dX5_product_25 ?_
      refine lv_iload_n hx hb dX5_product_28 rfl (lv_at hl 2 rfl) ?_
      by_cases b5 : x2 < 0 ∨ 25 ≤ (x2).toNatClampNeg
      · rw [if_pos b5] at hf; cases hf
      rw [if_neg b5] at hf
      refine va_iald hx hb hK hP 4 0 cr_dg htI b5 dX5_product_29 ?_
      refine lv_icmp_gt (tgt := 90) hx hb dX5_product_30 (by decide) (fun c6 => ?_) (fun c6 => ?_)
      · rw [if_pos c6] at hf
        exact hk_22 x5 rw _ _ _ _ hP hS (lv_sub hl [0, 1, 2, 3, 4, 5] rfl) hf
      · rw [if_neg c6] at hf
        refine lv_aload_n hx hb dX5_product_33 rfl (lv_at hl 0 rfl) ?_
        refine va_get (ci := 5) (v := .ref (ad 3)) (C := RX5) (T := TX5) (N := 10) hx hb hts (fun w h => BW_in (in_wsX50 w h)) hown hK hP 0 cr_mdl rfl 5 (by decide) (hts (.fieldLink RX5 26 "NumberFieldFactorsModel" "row" "[I") (BW_in mw_317)) (fun _ h9 => h9) rfl dX5_product_34 ?_
        refine lv_bipush (v := 16) hx hb dX5_product_37 (by decide) ?_
        refine lv_iload_n hx hb dX5_product_39 rfl (lv_at hl 3 rfl) ?_
        refine lv_imul hx hb dX5_product_40 ?_
        refine lv_iload hx hb dX5_product_41 (lv_at hl 4 rfl) ?_
        refine lv_iadd hx hb dX5_product_43 ?_
        refine lv_iload hx hb dX5_product_44 (lv_at hl 5 rfl) ?_
        refine lv_iadd hx hb dX5_product_46 ?_
        refine lv_aload_n hx hb dX5_product_47 rfl (lv_at hl 0 rfl) ?_
        refine va_get (ci := 5) (v := .ref (ad 3)) (C := RX5) (T := TX5) (N := 10) hx hb hts (fun w h => BW_in (in_wsX50 w h)) hown hK hP 0 cr_mdl rfl 5 (by decide) (hts (.fieldLink RX5 26 "NumberFieldFactorsModel" "row" "[I") (BW_in mw_317)) (fun _ h9 => h9) rfl dX5_product_48 ?_
        refine lv_bipush (v := 16) hx hb dX5_product_51 (by decide) ?_
        refine lv_iload_n hx hb dX5_product_53 rfl (lv_at hl 3 rfl) ?_
        refine lv_imul hx hb dX5_product_54 ?_
        refine lv_iload hx hb dX5_product_55 (lv_at hl 4 rfl) ?_
        refine lv_iadd hx hb dX5_product_57 ?_
        refine lv_iload hx hb dX5_product_58 (lv_at hl 5 rfl) ?_
        refine lv_iadd hx hb dX5_product_60 ?_
        by_cases b7 : (((16 * x3) + x4) + x5) < 0 ∨ 400 ≤ (((16 * x3) + x4) + x5).toNatClampNeg
        · rw [if_pos b7] at hf; cases hf
        rw [if_neg b7] at hf
        refine va_iald hx hb hK hP 3 0 cr_rw htI b7 dX5_product_61 ?_
        refine lv_aload_n hx hb dX5_product_62 rfl (lv_at hl 0 rfl) ?_
        refine lv_aload_n hx hb dX5_product_63 rfl (lv_at hl 0 rfl) ?_
        refine lv_iload_n hx hb dX5_product_64 rfl (lv_at hl 1 rfl) ?_
        refine lv_iload hx hb dX5_product_65 (lv_at hl 4 rfl) ?_
        obtain ⟨u8, g9, hf⟩ := Option.bind_eq_some_iff.mp hf
        try dsimp only at hf
        refine ct_callx (va_runV (As := [.int x1, .int x4]) (rest := [.ref (ad 0), .int (rw (((16 * x3) + x4) + x5).toNatClampNeg), .int (((16 * x3) + x4) + x5), .ref (ad 3)]) ⟨hx, hb, hml, hown, hts⟩ (C_X5_cell l D tys hj htI (res := u8) g9) (cwV 2 hts (gu_V mw_369 mw_370 mw_371 mw_330 mw_367) rfl rfl rfl (by decide +kernel) ⟨Nat.le_of_ble_eq_true rfl, Nat.le_of_ble_eq_true rfl⟩) (ct_preVx (w := fun di => ww 6 ad (cellR cI ad th kk mn md rw dg kn fc oft di)) hP hK (ci := 5) (k := 0) rfl cr_mdl) rfl rfl hl.1 rfl (lv_room (Nat.le_of_ble_eq_true rfl)) dX5_product_67 ⟨Nat.zero_le _, Nat.zero_le _⟩) hS (fun di H locs hP hS => ?_)
        refine lv_aload_n hx hb dX5_product_70 rfl (lv_at hl 0 rfl) ?_
        refine lv_iload_n hx hb dX5_product_71 rfl (lv_at hl 2 rfl) ?_
        refine lv_iload hx hb dX5_product_72 (lv_at hl 5 rfl) ?_
        obtain ⟨u10, g11, hf⟩ := Option.bind_eq_some_iff.mp hf
        try dsimp only at hf
        refine ct_callx (va_runV (As := [.int x2, .int x5]) (rest := [.int u8, .ref (ad 0), .int (rw (((16 * x3) + x4) + x5).toNatClampNeg), .int (((16 * x3) + x4) + x5), .ref (ad 3)]) ⟨hx, hb, hml, hown, hts⟩ (C_X5_cell l D tys hj htI (res := u10) g11) (cwV 2 hts (gu_V mw_369 mw_370 mw_371 mw_330 mw_367) rfl rfl rfl (by decide +kernel) ⟨Nat.le_of_ble_eq_true rfl, Nat.le_of_ble_eq_true rfl⟩) (ct_preVx (w := fun di => ww 6 ad (cellR cI ad th kk mn md rw dg kn fc oft di)) hP hK (ci := 5) (k := 0) rfl cr_mdl) rfl rfl hl.1 rfl (lv_room (Nat.le_of_ble_eq_true rfl)) dX5_product_74 ⟨Nat.zero_le _, Nat.zero_le _⟩) hS (fun di H locs hP hS => ?_)
        obtain ⟨u12, g13, hf⟩ := Option.bind_eq_some_iff.mp hf
        try dsimp only at hf
        refine ct_callx (va_runV (As := [.int u8, .int u10]) (rest := [.int (rw (((16 * x3) + x4) + x5).toNatClampNeg), .int (((16 * x3) + x4) + x5), .ref (ad 3)]) ⟨hx, hb, hml, hown, hts⟩ (C_X5_times l D tys hj htI (res := u12) g13) (cwV 2 hts (gu_V mw_337 mw_338 mw_339 mw_330 mw_333) rfl rfl rfl (by decide +kernel) ⟨Nat.le_of_ble_eq_true rfl, Nat.le_of_ble_eq_true rfl⟩) (ct_preVx (w := fun di => ww 6 ad (cellR cI ad th kk mn md rw dg kn fc oft di)) hP hK (ci := 5) (k := 0) rfl cr_mdl) rfl rfl hl.1 rfl (lv_room (Nat.le_of_ble_eq_true rfl)) dX5_product_77 ⟨Nat.zero_le _, Nat.zero_le _⟩) hS (fun di H locs hP hS => ?_)
        obtain ⟨u14, g15, hf⟩ := Option.bind_eq_some_iff.mp hf
        try dsimp only at hf
        refine ct_callx (va_runS (As := [.int (rw (((16 * x3) + x4) + x5).toNatClampNeg), .int u12]) (rest := [.int (((16 * x3) + x4) + x5), .ref (ad 3)]) ⟨hx, hb, hml, hown, hts⟩ (C_X5_add l D tys hj htI (res := u14) g15) (cwS 2 hts (gu_S mw_331 mw_332 mw_330 mw_325) rfl rfl rfl (by decide +kernel) ⟨Nat.le_of_ble_eq_true rfl, Nat.le_of_ble_eq_true rfl⟩) (ct_preSx (w := fun di => ww 6 ad (cellR cI ad th kk mn md rw dg kn fc oft di)) hP hK) rfl rfl hl.1 rfl (lv_room (Nat.le_of_ble_eq_true rfl)) dX5_product_80 ⟨Nat.zero_le _, Nat.zero_le _⟩) hS (fun di H locs hP hS => ?_)
        by_cases b16 : (((16 * x3) + x4) + x5) < 0 ∨ 400 ≤ (((16 * x3) + x4) + x5).toNatClampNeg
        · rw [if_pos b16] at hf; cases hf
        rw [if_neg b16] at hf
        refine va_iast hx hb hK hP (ww_D hj) hS 3 0 cr_rw htI b16 dX5_product_83 (fun H locs hP hD hS => ?_)
        have hP := cs_rw hP
        refine lv_iinc (v := x5 + 1) (lv' := [(5, .int (x5 + 1)), (0, .ref (ad 0)), (1, .int x1), (2, .int x2), (3, .int x3), (4, .int x4)]) hx hb dX5_product_84 hl (k := 5) rfl rfl (by decide) rfl (fun ls hl => ?_)
        refine lv_goto (tgt := 22) hx hb dX5_product_87 (by decide) ?_
        exact ih (x5 + 1) (upd rw (((16 * x3) + x4) + x5).toNatClampNeg u14) _ _ _ _ hP hS (lv_sub hl [1, 2, 3, 4, 5, 0] rfl) hf
  have L8 : ∀ (dg : Nat → Int32) (x1 : Int32) (x2 : Int32) (x3 : Int32) (k8 : Int32 → (Nat → Int32) → Option ((Nat → Int32) × (Nat → Int32))), (∀ (x4 : Int32) (rw : Nat → Int32) (di : Nat → Int32) (H : Heap) (locs : List Loc) (ls : Array Slot), va_P D vwCl (ww 6 ad (cellR cI ad th kk mn md rw dg kn fc oft di)) H → va_S (ww_A 6 ad) s.heap H locs → lv_has ls 6 [(0, .ref (ad 0)), (1, .int x1), (2, .int x2), (3, .int x3), (4, .int x4)] →  k8 x4 rw = some res → W p l e (headSpec usX5_product { frames := 2, cells := 0, slots := 0, locals := 46 }).room s m [.ref (ad 0), .int p0, .int p1, .int p2].toArray below meth c H locs 0 0 (MQ below (ct_Qx D (fun di => ww 6 ad (cellR cI ad th kk mn md res.1 res.2 kn fc oft di)) (ww_A 6 ad) (none)) [.ref (ad 0), .int p0, .int p1, .int p2].toArray s 0 0 (ww_A 6 ad)) (F0 m 96 ls [])) → ∀ (n : Nat) (x4 : Int32) (rw : Nat → Int32) (di : Nat → Int32) (H : Heap) (locs : List Loc) (ls : Array Slot), va_P D vwCl (ww 6 ad (cellR cI ad th kk mn md rw dg kn fc oft di)) H → va_S (ww_A 6 ad) s.heap H locs → lv_has ls 6 [(0, .ref (ad 0)), (1, .int x1), (2, .int x2), (3, .int x3), (4, .int x4)] →  f_X5_product_l8 k8 fu kk md dg x1 x2 x3 n x4 rw = some res → W p l e (headSpec usX5_product { frames := 2, cells := 0, slots := 0, locals := 46 }).room s m [.ref (ad 0), .int p0, .int p1, .int p2].toArray below meth c H locs 0 0 (MQ below (ct_Qx D (fun di => ww 6 ad (cellR cI ad th kk mn md res.1 res.2 kn fc oft di)) (ww_A 6 ad) (none)) [.ref (ad 0), .int p0, .int p1, .int p2].toArray s 0 0 (ww_A 6 ad)) (F0 m 8 ls []) := by
    intro dg x1 x2 x3 k8 hk_8 n
    induction n with
    | zero => intro x4 rw di H locs ls hP hS hl hf; rw [f_X5_product_l8] at hf; cases hf
    | succ n ih =>
      intro x4 rw di H locs ls hP hS hl hf
      rw [f_X5_product_l8] at hf
      refine lv_iload hx hb dX5_product_8 (lv_at hl 4 rfl) ?_
      refine lv_aload_n hx hb dX5_product_10 rfl (lv_at hl 0 rfl) ?_
      refine va_get (ci := 5) (v := .ref (ad 4)) (C := RX5) (T := TX5) (N := 10) hx hb hts (fun w h => BW_in (in_wsX50 w h)) hown hK hP 0 cr_mdl rfl 6 (by decide) (hts (.fieldLink RX5 29 "NumberFieldFactorsModel" "degree" "[I") (BW_in mw_318)) (fun _ h9 => h9) rfl dX5_product_11 ?_
      refine lv_iload_n hx hb dX5_product_14 rfl (lv_at hl 1 rfl) ?_
      by_cases b3 : x1 < 0 ∨ 25 ≤ (x1).toNatClampNeg
      · rw [if_pos b3] at hf; cases hf
      rw [if_neg b3] at hf
      refine va_iald hx hb hK hP 4 0 cr_dg htI b3 dX5_product_15 ?_
      refine lv_icmp_gt (tgt := 96) hx hb dX5_product_16 (by decide) (fun c4 => ?_) (fun c4 => ?_)
      · rw [if_pos c4] at hf
        exact hk_8 x4 rw _ _ _ _ hP hS (lv_sub hl [0, 1, 2, 3, 4] rfl) hf
      · rw [if_neg c4] at hf
        refine lv_iconst (v := 0) hx hb dX5_product_19 (by decide) ?_
        refine lv_istore (lv' := [(5, .int 0), (0, .ref (ad 0)), (1, .int x1), (2, .int x2), (3, .int x3), (4, .int x4)]) hx hb dX5_product_20 hl (by decide) rfl (fun ls hl => ?_)
        refine L22 dg x1 x2 x3 x4 _ (fun y17 rw18 di H locs ls hP hS hl hf => ?_) fu 0 rw _ _ _ _ hP hS (lv_sub hl [1, 2, 3, 4, 5, 0] rfl) hf
        try dsimp only at hf
        refine lv_iinc (v := x4 + 1) (lv' := [(4, .int (x4 + 1)), (0, .ref (ad 0)), (1, .int x1), (2, .int x2), (3, .int x3), (5, .int y17)]) hx hb dX5_product_90 hl (k := 4) rfl rfl (by decide) rfl (fun ls hl => ?_)
        refine lv_goto (tgt := 8) hx hb dX5_product_93 (by decide) ?_
        exact ih (x4 + 1) rw18 _ _ _ _ hP hS (lv_sub hl [1, 2, 3, 4, 0] rfl) hf
  unfold f_X5_product at hf
  refine lv_aload_n hx hb dX5_product_0 rfl (lv_at hl 0 rfl) ?_
  refine lv_iload_n hx hb dX5_product_1 rfl (lv_at hl 3 rfl) ?_
  obtain ⟨u1, g2, hf⟩ := Option.bind_eq_some_iff.mp hf
  try dsimp only at hf
  refine ct_callx (va_runV (As := [.int p2]) (rest := []) ⟨hx, hb, hml, hown, hts⟩ (C_X5_clear l D tys hj htI (res := u1) g2) (cwV 1 hts (gu_V mw_361 mw_362 mw_363 mw_330 mw_351) rfl rfl rfl (by decide +kernel) ⟨Nat.le_of_ble_eq_true rfl, Nat.le_of_ble_eq_true rfl⟩) (ct_preVx (w := fun di => ww 6 ad (cellR cI ad th kk mn md rw dg kn fc oft di)) hP hK (ci := 5) (k := 0) rfl cr_mdl) rfl rfl hl.1 rfl (lv_room (Nat.le_of_ble_eq_true rfl)) dX5_product_2 ⟨Nat.zero_le _, Nat.zero_le _⟩) hS (fun di H locs hP hS => ?_)
  refine lv_iconst (v := 0) hx hb dX5_product_5 (by decide) ?_
  refine lv_istore (lv' := [(4, .int 0), (0, .ref (ad 0)), (1, .int p0), (2, .int p1), (3, .int p2)]) hx hb dX5_product_6 hl (by decide) rfl (fun ls hl => ?_)
  refine L8 u1.2 p0 p1 p2 _ (fun y19 rw20 di H locs ls hP hS hl hf => ?_) fu 0 u1.1 _ _ _ _ hP hS (lv_sub hl [1, 2, 3, 4, 0] rfl) hf
  try dsimp only at hf
  refine lv_aload_n hx hb dX5_product_96 rfl (lv_at hl 0 rfl) ?_
  refine va_get (ci := 5) (v := .ref (ad 4)) (C := RX5) (T := TX5) (N := 10) hx hb hts (fun w h => BW_in (in_wsX50 w h)) hown hK hP 0 cr_mdl rfl 6 (by decide) (hts (.fieldLink RX5 29 "NumberFieldFactorsModel" "degree" "[I") (BW_in mw_318)) (fun _ h9 => h9) rfl dX5_product_97 ?_
  refine lv_iload_n hx hb dX5_product_100 rfl (lv_at hl 3 rfl) ?_
  refine lv_aload_n hx hb dX5_product_101 rfl (lv_at hl 0 rfl) ?_
  refine va_get (ci := 5) (v := .ref (ad 4)) (C := RX5) (T := TX5) (N := 10) hx hb hts (fun w h => BW_in (in_wsX50 w h)) hown hK hP 0 cr_mdl rfl 6 (by decide) (hts (.fieldLink RX5 29 "NumberFieldFactorsModel" "degree" "[I") (BW_in mw_318)) (fun _ h9 => h9) rfl dX5_product_102 ?_
  refine lv_iload_n hx hb dX5_product_105 rfl (lv_at hl 1 rfl) ?_
  by_cases b21 : p0 < 0 ∨ 25 ≤ (p0).toNatClampNeg
  · rw [if_pos b21] at hf; cases hf
  rw [if_neg b21] at hf
  refine va_iald hx hb hK hP 4 0 cr_dg htI b21 dX5_product_106 ?_
  obtain ⟨w22, gw22, hf⟩ := Option.bind_eq_some_iff.mp hf
  try dsimp only at hf
  have hJ136_w22 : ∀ (di : Nat → Int32) (H : Heap) (locs : List Loc) (ls : Array Slot), va_P D vwCl (ww 6 ad (cellR cI ad th kk mn md rw20 u1.2 kn fc oft di)) H → va_S (ww_A 6 ad) s.heap H locs → lv_has ls 6 [(0, .ref (ad 0)), (1, .int p0), (2, .int p1), (3, .int p2), (4, .int y19)] → W p l e (headSpec usX5_product { frames := 2, cells := 0, slots := 0, locals := 46 }).room s m [.ref (ad 0), .int p0, .int p1, .int p2].toArray below meth c H locs 0 0 (MQ below (ct_Qx D (fun di => ww 6 ad (cellR cI ad th kk mn md res.1 res.2 kn fc oft di)) (ww_A 6 ad) (none)) [.ref (ad 0), .int p0, .int p1, .int p2].toArray s 0 0 (ww_A 6 ad)) (F0 m 136 ls [.int w22, .int p2, .ref (ad 4)]) := by
    intro di H locs ls hP hS hl
    by_cases b29 : p2 < 0 ∨ 25 ≤ (p2).toNatClampNeg
    · rw [if_pos b29] at hf; cases hf
    rw [if_neg b29] at hf
    refine va_iast hx hb hK hP (ww_D hj) hS 4 0 cr_dg htI b29 dX5_product_136 (fun H locs hP hD hS => ?_)
    have hP := cs_dg hP
    obtain rfl := Option.some.inj hf
    exact W.vret hx hb hr (fun t ht hW => ⟨rfl, ⟨di, by rw [ht]; exact hP⟩, hS.F ht⟩) hS.2.2 dX5_product_137
  refine lv_if_lt (tgt := 119) hx hb dX5_product_107 (by decide) (fun c23 => ?_) (fun c23 => ?_)
  · rw [if_pos c23] at gw22
    refine lv_iconst (v := (-1)) hx hb dX5_product_119 (by decide) ?_
    refine lv_goto (tgt := 136) hx hb dX5_product_120 (by decide) ?_
    obtain rfl := Option.some.inj gw22
    exact hJ136_w22 _ _ _ _ hP hS (lv_sub hl [0, 1, 2, 3, 4] rfl)
  · rw [if_neg c23] at gw22
    refine lv_aload_n hx hb dX5_product_110 rfl (lv_at hl 0 rfl) ?_
    refine va_get (ci := 5) (v := .ref (ad 4)) (C := RX5) (T := TX5) (N := 10) hx hb hts (fun w h => BW_in (in_wsX50 w h)) hown hK hP 0 cr_mdl rfl 6 (by decide) (hts (.fieldLink RX5 29 "NumberFieldFactorsModel" "degree" "[I") (BW_in mw_318)) (fun _ h9 => h9) rfl dX5_product_111 ?_
    refine lv_iload_n hx hb dX5_product_114 rfl (lv_at hl 2 rfl) ?_
    by_cases b24 : p1 < 0 ∨ 25 ≤ (p1).toNatClampNeg
    · rw [if_pos b24] at gw22; cases gw22
    rw [if_neg b24] at gw22
    refine va_iald hx hb hK hP 4 0 cr_dg htI b24 dX5_product_115 ?_
    obtain ⟨w25, gw25, gw22⟩ := Option.bind_eq_some_iff.mp gw22
    try dsimp only at gw22
    have hJ136_w25 : ∀ (di : Nat → Int32) (H : Heap) (locs : List Loc) (ls : Array Slot), va_P D vwCl (ww 6 ad (cellR cI ad th kk mn md rw20 u1.2 kn fc oft di)) H → va_S (ww_A 6 ad) s.heap H locs → lv_has ls 6 [(0, .ref (ad 0)), (1, .int p0), (2, .int p1), (3, .int p2), (4, .int y19)] → W p l e (headSpec usX5_product { frames := 2, cells := 0, slots := 0, locals := 46 }).room s m [.ref (ad 0), .int p0, .int p1, .int p2].toArray below meth c H locs 0 0 (MQ below (ct_Qx D (fun di => ww 6 ad (cellR cI ad th kk mn md res.1 res.2 kn fc oft di)) (ww_A 6 ad) (none)) [.ref (ad 0), .int p0, .int p1, .int p2].toArray s 0 0 (ww_A 6 ad)) (F0 m 136 ls [.int w25, .int p2, .ref (ad 4)]) := by
      intro di H locs ls hP hS hl
      obtain rfl := Option.some.inj gw22
      exact hJ136_w22 _ _ _ _ hP hS (lv_sub hl [0, 1, 2, 3, 4] rfl)
    refine lv_if_ge (tgt := 123) hx hb dX5_product_116 (by decide) (fun c26 => ?_) (fun c26 => ?_)
    · rw [if_pos c26] at gw25
      refine lv_aload_n hx hb dX5_product_123 rfl (lv_at hl 0 rfl) ?_
      refine va_get (ci := 5) (v := .ref (ad 4)) (C := RX5) (T := TX5) (N := 10) hx hb hts (fun w h => BW_in (in_wsX50 w h)) hown hK hP 0 cr_mdl rfl 6 (by decide) (hts (.fieldLink RX5 29 "NumberFieldFactorsModel" "degree" "[I") (BW_in mw_318)) (fun _ h9 => h9) rfl dX5_product_124 ?_
      refine lv_iload_n hx hb dX5_product_127 rfl (lv_at hl 1 rfl) ?_
      by_cases b27 : p0 < 0 ∨ 25 ≤ (p0).toNatClampNeg
      · rw [if_pos b27] at gw25; cases gw25
      rw [if_neg b27] at gw25
      refine va_iald hx hb hK hP 4 0 cr_dg htI b27 dX5_product_128 ?_
      refine lv_aload_n hx hb dX5_product_129 rfl (lv_at hl 0 rfl) ?_
      refine va_get (ci := 5) (v := .ref (ad 4)) (C := RX5) (T := TX5) (N := 10) hx hb hts (fun w h => BW_in (in_wsX50 w h)) hown hK hP 0 cr_mdl rfl 6 (by decide) (hts (.fieldLink RX5 29 "NumberFieldFactorsModel" "degree" "[I") (BW_in mw_318)) (fun _ h9 => h9) rfl dX5_product_130 ?_
      refine lv_iload_n hx hb dX5_product_133 rfl (lv_at hl 2 rfl) ?_
      by_cases b28 : p1 < 0 ∨ 25 ≤ (p1).toNatClampNeg
      · rw [if_pos b28] at gw25; cases gw25
      rw [if_neg b28] at gw25
      refine va_iald hx hb hK hP 4 0 cr_dg htI b28 dX5_product_134 ?_
      refine lv_iadd hx hb dX5_product_135 ?_
      obtain rfl := Option.some.inj gw25
      exact hJ136_w25 _ _ _ _ hP hS (lv_sub hl [0, 1, 2, 3, 4] rfl)
    · rw [if_neg c26] at gw25
      refine lv_iconst (v := (-1)) hx hb dX5_product_119 (by decide) ?_
      refine lv_goto (tgt := 136) hx hb dX5_product_120 (by decide) ?_
      obtain rfl := Option.some.inj gw25
      exact hJ136_w25 _ _ _ _ hP hS (lv_sub hl [0, 1, 2, 3, 4] rfl)
def f_X5_divide_l63 (k63 : Int32 → (Nat → Int32) → Option ((Nat → Int32) × (Nat → Int32))) (fu : Nat) (kk : Int32) (mn : Int64) (md : Nat → Int32) (dg : Nat → Int32) (x1 : Int32) (x2 : Int32) (x3 : Int32) (x4 : Int32) (x5 : Int32) (x6 : Int32) (x7 : Int32) : Nat → Int32 → (Nat → Int32) → Option ((Nat → Int32) × (Nat → Int32))
  | 0, _, _ => none
  | n + 1, x8, rw =>
    if x5 < x8 then
      k63 x8 rw
    else
      if x7 = 0 then
        k63 x8 rw
      else
        if ((((16 * x1) + x6) - x5) + x8) < 0 ∨ 400 ≤ ((((16 * x1) + x6) - x5) + x8).toNatClampNeg then none else
        (f_X5_cell rw x2 x8).bind (fun u20 =>
        (f_X5_times fu kk md x7 u20).bind (fun u22 =>
        (f_X5_less (rw ((((16 * x1) + x6) - x5) + x8).toNatClampNeg) u22).bind (fun u24 =>
        if ((((16 * x1) + x6) - x5) + x8) < 0 ∨ 400 ≤ ((((16 * x1) + x6) - x5) + x8).toNatClampNeg then none else
        f_X5_divide_l63 k63 fu kk mn md dg x1 x2 x3 x4 x5 x6 x7 n (x8 + 1) (upd rw ((((16 * x1) + x6) - x5) + x8).toNatClampNeg u24))))
def f_X5_divide_l38 (k38 : Int32 → (Nat → Int32) → Option ((Nat → Int32) × (Nat → Int32))) (fu : Nat) (kk : Int32) (mn : Int64) (md : Nat → Int32) (dg : Nat → Int32) (x1 : Int32) (x2 : Int32) (x3 : Int32) (x4 : Int32) (x5 : Int32) : Nat → Int32 → (Nat → Int32) → Option ((Nat → Int32) × (Nat → Int32))
  | 0, _, _ => none
  | n + 1, x6, rw =>
    if x6 < x5 then
      k38 x6 rw
    else
      (f_X5_cell rw x1 x6).bind (fun u13 =>
      (f_X5_times fu kk md u13 x4).bind (fun u15 =>
      f_X5_divide_l63 (fun y27 rw28 =>
        if (((16 * x3) + x6) - x5) < 0 ∨ 400 ≤ (((16 * x3) + x6) - x5).toNatClampNeg then none else
        f_X5_divide_l38 k38 fu kk mn md dg x1 x2 x3 x4 x5 n (x6 + (-1)) (upd rw28 (((16 * x3) + x6) - x5).toNatClampNeg u15)) fu kk mn md dg x1 x2 x3 x4 x5 x6 u15 fu 0 rw))
def f_X5_divide (fu : Nat) (kk : Int32) (mn : Int64) (md : Nat → Int32) (rw : Nat → Int32) (dg : Nat → Int32) (p0 : Int32) (p1 : Int32) (p2 : Int32) : Option ((Nat → Int32) × (Nat → Int32)) :=
  (f_X5_clear fu rw dg p2).bind (fun u1 =>
  if p1 < 0 ∨ 25 ≤ (p1).toNatClampNeg then none else
  (f_X5_cell u1.1 p1 (u1.2 (p1).toNatClampNeg)).bind (fun u4 =>
  (f_X5_inverse fu kk mn md u4).bind (fun u6 =>
  if p1 < 0 ∨ 25 ≤ (p1).toNatClampNeg then none else
  nm (u1.2 (p1).toNatClampNeg) (fun v9 =>
  if p0 < 0 ∨ 25 ≤ (p0).toNatClampNeg then none else
  nm (u1.2 (p0).toNatClampNeg) (fun v11 =>
  f_X5_divide_l38 (fun y30 rw31 =>
    (f_X5_cell rw31 p0 0).bind (fun u32 =>
    (f_X5_set fu rw31 u1.2 p0 0 u32).bind (fun u34 =>
    (f_X5_cell u34.1 p2 0).bind (fun u36 =>
    (f_X5_set fu u34.1 u34.2 p2 0 u36).bind (fun u38 =>
    some (u38.1, u38.2)))))) fu kk mn md u1.2 p0 p1 p2 u6 v9 fu v11 u1.1)))))
set_option maxHeartbeats 4000000 in
set_option maxRecDepth 100000 in
theorem C_X5_divide (l : Launch) (D : va_G) (tys : List (ClassId × FieldType)) {ad : Nat → Nat} (hj : ww_inj 6 ad) {cI : ClassId} (htI : tys[0]? = some (cI, .int)) {fu : Nat} {th : Int32} {kk : Int32} {mn : Int64} {md : Nat → Int32} {rw : Nat → Int32} {dg : Nat → Int32} {kn : Int32} {fc : Int32} {oft : Nat → Int32} {p0 : Int32} {p1 : Int32} {p2 : Int32} {res : (Nat → Int32) × (Nat → Int32)} (hf : f_X5_divide fu kk mn md rw dg p0 p1 p2 = some res) :
    Met l yX5_divide usX5_divide ({ frames := 4, cells := 0, slots := 0, locals := 94 }) (va_Pc [.ref (ad 0), .int p0, .int p1, .int p2] (ws_Bx D tys (fun di => ww 6 ad (cellR cI ad th kk mn md rw dg kn fc oft di)))) (ct_Qx D (fun di => ww 6 ad (cellR cI ad th kk mn md res.1 res.2 kn fc oft di)) (ww_A 6 ad) (none)) 0 0 (ww_A 6 ad) := by
  refine Met.ofW (cc := cX5_divide) (maxL := 9) (ret := none) (by decide) rfl ?_
  intro p e s m args below meth c s₁ B hml hv
  obtain ⟨rfl, ⟨di, hP⟩, hK⟩ := hv
  have hx := B.exec
  have hb := B.bytes
  have hr := B.returns
  have hts := atoms_spec (ws := usX5_divide) B.pre
  have hown : s.vm.findClass RX5 = some m.cls := findClass_of_methodNamed B.named
  have hlocks := B.notSynchronized
  have hS : va_S (ww_A 6 ad) s.heap s.heap [] := va_S.rf
  have hl := lv_entry ([.ref (ad 0), .int p0, .int p1, .int p2]) (n := 9) (Nat.le_of_ble_eq_true rfl)
  rw [lg_entry_eq]
  generalize (lg_sl ([.ref (ad 0), .int p0, .int p1, .int p2]) ++ List.replicate (9 - (lg_sl ([.ref (ad 0), .int p0, .int p1, .int p2])).length) Slot.unset).toArray = ls at hl ⊢
  have hl : lv_has ls 9 [(0, .ref (ad 0)), (1, .int p0), (2, .int p1), (3, .int p2)] := hl
  have L63 : ∀ (dg : Nat → Int32) (x1 : Int32) (x2 : Int32) (x3 : Int32) (x4 : Int32) (x5 : Int32) (x6 : Int32) (x7 : Int32) (k63 : Int32 → (Nat → Int32) → Option ((Nat → Int32) × (Nat → Int32))), (∀ (x8 : Int32) (rw : Nat → Int32) (di : Nat → Int32) (H : Heap) (locs : List Loc) (ls : Array Slot), va_P D vwCl (ww 6 ad (cellR cI ad th kk mn md rw dg kn fc oft di)) H → va_S (ww_A 6 ad) s.heap H locs → lv_has ls 9 [(0, .ref (ad 0)), (1, .int x1), (2, .int x2), (3, .int x3), (4, .int x4), (5, .int x5), (6, .int x6), (7, .int x7), (8, .int x8)] →  k63 x8 rw = some res → W p l e (headSpec usX5_divide { frames := 4, cells := 0, slots := 0, locals := 94 }).room s m [.ref (ad 0), .int p0, .int p1, .int p2].toArray below meth c H locs 0 0 (MQ below (ct_Qx D (fun di => ww 6 ad (cellR cI ad th kk mn md res.1 res.2 kn fc oft di)) (ww_A 6 ad) (none)) [.ref (ad 0), .int p0, .int p1, .int p2].toArray s 0 0 (ww_A 6 ad)) (F0 m 133 ls [])) → ∀ (n : Nat) (x8 : Int32) (rw : Nat → Int32) (di : Nat → Int32) (H : Heap) (locs : List Loc) (ls : Array Slot), va_P D vwCl (ww 6 ad (cellR cI ad th kk mn md rw dg kn fc oft di)) H → va_S (ww_A 6 ad) s.heap H locs → lv_has ls 9 [(0, .ref (ad 0)), (1, .int x1), (2, .int x2), (3, .int x3), (4, .int x4), (5, .int x5), (6, .int x6), (7, .int x7), (8, .int x8)] →  f_X5_divide_l63 k63 fu kk mn md dg x1 x2 x3 x4 x5 x6 x7 n x8 rw = some res → W p l e (headSpec usX5_divide { frames := 4, cells := 0, slots := 0, locals := 94 }).room s m [.ref (ad 0), .int p0, .int p1, .int p2].toArray below meth c H locs 0 0 (MQ below (ct_Qx D (fun di => ww 6 ad (cellR cI ad th kk mn md res.1 res.2 kn fc oft di)) (ww_A 6 ad) (none)) [.ref (ad 0), .int p0, .int p1, .int p2].toArray s 0 0 (ww_A 6 ad)) (F0 m 63 ls []) := by
    intro dg x1 x2 x3 x4 x5 x6 x7 k63 hk_63 n
    induction n with
    | zero => intro x8 rw di H locs ls hP hS hl hf; rw [f_X5_divide_l63] at hf; cases hf
    | succ n ih =>
      intro x8 rw di H locs ls hP hS hl hf
      rw [f_X5_divide_l63] at hf
      refine lv_iload hx hb dX5_divide_63 (lv_at hl 8 rfl) ?_
      refine lv_iload hx hb dX5_divide_65 (lv_at hl 5 rfl) ?_
      refine lv_icmp_gt (tgt := 133) hx hb dX5_divide_67 (by decide) (fun c17 => ?_) (fun c17 => ?_)
      · rw [if_pos c17] at hf
        exact hk_63 x8 rw _ _ _ _ hP hS (lv_sub hl [0, 1, 2, 3, 4, 5, 6, 7, 8] rfl) hf
      · rw [if_neg c17] at hf
        refine lv_iload hx hb dX5_divide_70 (lv_at hl 7 rfl) ?_
        refine lv_if_eq (tgt := 133) hx hb dX5_divide_72 (by decide) (fun c18 => ?_) (fun c18 => ?_)
        · rw [if_pos c18] at hf
          exact hk_63 x8 rw _ _ _ _ hP hS (lv_sub hl [0, 1, 2, 3, 4, 5, 6, 7, 8] rfl) hf
        · rw [if_neg c18] at hf
          refine lv_aload_n hx hb dX5_divide_75 rfl (lv_at hl 0 rfl) ?_
          refine va_get (ci := 5) (v := .ref (ad 3)) (C := RX5) (T := TX5) (N := 10) hx hb hts (fun w h => BW_in (in_wsX50 w h)) hown hK hP 0 cr_mdl rfl 5 (by decide) (hts (.fieldLink RX5 26 "NumberFieldFactorsModel" "row" "[I") (BW_in mw_317)) (fun _ h9 => h9) rfl dX5_divide_76 ?_
          refine lv_bipush (v := 16) hx hb dX5_divide_79 (by decide) ?_
          refine lv_iload_n hx hb dX5_divide_81 rfl (lv_at hl 1 rfl) ?_
          refine lv_imul hx hb dX5_divide_82 ?_
          refine lv_iload hx hb dX5_divide_83 (lv_at hl 6 rfl) ?_
          refine lv_iadd hx hb dX5_divide_85 ?_
          refine lv_iload hx hb dX5_divide_86 (lv_at hl 5 rfl) ?_
          refine lv_isub hx hb dX5_divide_88 ?_
          refine lv_iload hx hb dX5_divide_89 (lv_at hl 8 rfl) ?_
          refine lv_iadd hx hb dX5_divide_91 ?_
          refine lv_aload_n hx hb dX5_divide_92 rfl (lv_at hl 0 rfl) ?_
          refine va_get (ci := 5) (v := .ref (ad 3)) (C := RX5) (T := TX5) (N := 10) hx hb hts (fun w h => BW_in (in_wsX50 w h)) hown hK hP 0 cr_mdl rfl 5 (by decide) (hts (.fieldLink RX5 26 "NumberFieldFactorsModel" "row" "[I") (BW_in mw_317)) (fun _ h9 => h9) rfl dX5_divide_93 ?_
          refine lv_bipush (v := 16) hx hb dX5_divide_96 (by decide) ?_
          refine lv_iload_n hx hb dX5_divide_98 rfl (lv_at hl 1 rfl) ?_
          refine lv_imul hx hb dX5_divide_99 ?_
          refine lv_iload hx hb dX5_divide_100 (lv_at hl 6 rfl) ?_
          refine lv_iadd hx hb dX5_divide_102 ?_
          refine lv_iload hx hb dX5_divide_103 (lv_at hl 5 rfl) ?_
          refine lv_isub hx hb dX5_divide_105 ?_
          refine lv_iload hx hb dX5_divide_106 (lv_at hl 8 rfl) ?_
          refine lv_iadd hx hb dX5_divide_108 ?_
          by_cases b19 : ((((16 * x1) + x6) - x5) + x8) < 0 ∨ 400 ≤ ((((16 * x1) + x6) - x5) + x8).toNatClampNeg
          · rw [if_pos b19] at hf; cases hf
          rw [if_neg b19] at hf
          refine va_iald hx hb hK hP 3 0 cr_rw htI b19 dX5_divide_109 ?_
          refine lv_aload_n hx hb dX5_divide_110 rfl (lv_at hl 0 rfl) ?_
          refine lv_iload hx hb dX5_divide_111 (lv_at hl 7 rfl) ?_
          refine lv_aload_n hx hb dX5_divide_113 rfl (lv_at hl 0 rfl) ?_
          refine lv_iload_n hx hb dX5_divide_114 rfl (lv_at hl 2 rfl) ?_
          refine lv_iload hx hb dX5_divide_115 (lv_at hl 8 rfl) ?_
          obtain ⟨u20, g21, hf⟩ := Option.bind_eq_some_iff.mp hf
          try dsimp only at hf
          refine ct_callx (va_runV (As := [.int x2, .int x8]) (rest := [.int x7, .ref (ad 0), .int (rw ((((16 * x1) + x6) - x5) + x8).toNatClampNeg), .int ((((16 * x1) + x6) - x5) + x8), .ref (ad 3)]) ⟨hx, hb, hml, hown, hts⟩ (C_X5_cell l D tys hj htI (res := u20) g21) (cwV 2 hts (gu_V mw_369 mw_370 mw_371 mw_330 mw_367) rfl rfl rfl (by decide +kernel) ⟨Nat.le_of_ble_eq_true rfl, Nat.le_of_ble_eq_true rfl⟩) (ct_preVx (w := fun di => ww 6 ad (cellR cI ad th kk mn md rw dg kn fc oft di)) hP hK (ci := 5) (k := 0) rfl cr_mdl) rfl rfl hl.1 rfl (lv_room (Nat.le_of_ble_eq_true rfl)) dX5_divide_117 ⟨Nat.zero_le _, Nat.zero_le _⟩) hS (fun di H locs hP hS => ?_)
          obtain ⟨u22, g23, hf⟩ := Option.bind_eq_some_iff.mp hf
          try dsimp only at hf
          refine ct_callx (va_runV (As := [.int x7, .int u20]) (rest := [.int (rw ((((16 * x1) + x6) - x5) + x8).toNatClampNeg), .int ((((16 * x1) + x6) - x5) + x8), .ref (ad 3)]) ⟨hx, hb, hml, hown, hts⟩ (C_X5_times l D tys hj htI (res := u22) g23) (cwV 2 hts (gu_V mw_337 mw_338 mw_339 mw_330 mw_333) rfl rfl rfl (by decide +kernel) ⟨Nat.le_of_ble_eq_true rfl, Nat.le_of_ble_eq_true rfl⟩) (ct_preVx (w := fun di => ww 6 ad (cellR cI ad th kk mn md rw dg kn fc oft di)) hP hK (ci := 5) (k := 0) rfl cr_mdl) rfl rfl hl.1 rfl (lv_room (Nat.le_of_ble_eq_true rfl)) dX5_divide_120 ⟨Nat.zero_le _, Nat.zero_le _⟩) hS (fun di H locs hP hS => ?_)
          obtain ⟨u24, g25, hf⟩ := Option.bind_eq_some_iff.mp hf
          try dsimp only at hf
          refine ct_callx (va_runS (As := [.int (rw ((((16 * x1) + x6) - x5) + x8).toNatClampNeg), .int u22]) (rest := [.int ((((16 * x1) + x6) - x5) + x8), .ref (ad 3)]) ⟨hx, hb, hml, hown, hts⟩ (C_X5_less l D tys hj htI (res := u24) g25) (cwS 2 hts (gu_S mw_375 mw_376 mw_330 mw_327) rfl rfl rfl (by decide +kernel) ⟨Nat.le_of_ble_eq_true rfl, Nat.le_of_ble_eq_true rfl⟩) (ct_preSx (w := fun di => ww 6 ad (cellR cI ad th kk mn md rw dg kn fc oft di)) hP hK) rfl rfl hl.1 rfl (lv_room (Nat.le_of_ble_eq_true rfl)) dX5_divide_123 ⟨Nat.zero_le _, Nat.zero_le _⟩) hS (fun di H locs hP hS => ?_)
          by_cases b26 : ((((16 * x1) + x6) - x5) + x8) < 0 ∨ 400 ≤ ((((16 * x1) + x6) - x5) + x8).toNatClampNeg
          · rw [if_pos b26] at hf; cases hf
          rw [if_neg b26] at hf
          refine va_iast hx hb hK hP (ww_D hj) hS 3 0 cr_rw htI b26 dX5_divide_126 (fun H locs hP hD hS => ?_)
          have hP := cs_rw hP
          refine lv_iinc (v := x8 + 1) (lv' := [(8, .int (x8 + 1)), (0, .ref (ad 0)), (1, .int x1), (2, .int x2), (3, .int x3), (4, .int x4), (5, .int x5), (6, .int x6), (7, .int x7)]) hx hb dX5_divide_127 hl (k := 8) rfl rfl (by decide) rfl (fun ls hl => ?_)
          refine lv_goto (tgt := 63) hx hb dX5_divide_130 (by decide) ?_
          exact ih (x8 + 1) (upd rw ((((16 * x1) + x6) - x5) + x8).toNatClampNeg u24) _ _ _ _ hP hS (lv_sub hl [1, 2, 3, 4, 5, 6, 7, 8, 0] rfl) hf
  have L38 : ∀ (dg : Nat → Int32) (x1 : Int32) (x2 : Int32) (x3 : Int32) (x4 : Int32) (x5 : Int32) (k38 : Int32 → (Nat → Int32) → Option ((Nat → Int32) × (Nat → Int32))), (∀ (x6 : Int32) (rw : Nat → Int32) (di : Nat → Int32) (H : Heap) (locs : List Loc) (ls : Array Slot), va_P D vwCl (ww 6 ad (cellR cI ad th kk mn md rw dg kn fc oft di)) H → va_S (ww_A 6 ad) s.heap H locs → lv_has ls 9 [(0, .ref (ad 0)), (1, .int x1), (2, .int x2), (3, .int x3), (4, .int x4), (5, .int x5), (6, .int x6)] →  k38 x6 rw = some res → W p l e (headSpec usX5_divide { frames := 4, cells := 0, slots := 0, locals := 94 }).room s m [.ref (ad 0), .int p0, .int p1, .int p2].toArray below meth c H locs 0 0 (MQ below (ct_Qx D (fun di => ww 6 ad (cellR cI ad th kk mn md res.1 res.2 kn fc oft di)) (ww_A 6 ad) (none)) [.ref (ad 0), .int p0, .int p1, .int p2].toArray s 0 0 (ww_A 6 ad)) (F0 m 156 ls [])) → ∀ (n : Nat) (x6 : Int32) (rw : Nat → Int32) (di : Nat → Int32) (H : Heap) (locs : List Loc) (ls : Array Slot), va_P D vwCl (ww 6 ad (cellR cI ad th kk mn md rw dg kn fc oft di)) H → va_S (ww_A 6 ad) s.heap H locs → lv_has ls 9 [(0, .ref (ad 0)), (1, .int x1), (2, .int x2), (3, .int x3), (4, .int x4), (5, .int x5), (6, .int x6)] →  f_X5_divide_l38 k38 fu kk mn md dg x1 x2 x3 x4 x5 n x6 rw = some res → W p l e (headSpec usX5_divide { frames := 4, cells := 0, slots := 0, locals := 94 }).room s m [.ref (ad 0), .int p0, .int p1, .int p2].toArray below meth c H locs 0 0 (MQ below (ct_Qx D (fun di => ww 6 ad (cellR cI ad th kk mn md res.1 res.2 kn fc oft di)) (ww_A 6 ad) (none)) [.ref (ad 0), .int p0, .int p1, .int p2].toArray s 0 0 (ww_A 6 ad)) (F0 m 38 ls []) := by
    intro dg x1 x2 x3 x4 x5 k38 hk_38 n
    induction n with
    | zero => intro x6 rw di H locs ls hP hS hl hf; rw [f_X5_divide_l38] at hf; cases hf
    | succ n ih =>
      intro x6 rw di H locs ls hP hS hl hf
      rw [f_X5_divide_l38] at hf
      refine lv_iload hx hb dX5_divide_38 (lv_at hl 6 rfl) ?_
      refine lv_iload hx hb dX5_divide_40 (lv_at hl 5 rfl) ?_
      refine lv_icmp_lt (tgt := 156) hx hb dX5_divide_42 (by decide) (fun c12 => ?_) (fun c12 => ?_)
      · rw [if_pos c12] at hf
        exact hk_38 x6 rw _ _ _ _ hP hS (lv_sub hl [0, 1, 2, 3, 4, 5, 6] rfl) hf
      · rw [if_neg c12] at hf
        refine lv_aload_n hx hb dX5_divide_45 rfl (lv_at hl 0 rfl) ?_
        refine lv_aload_n hx hb dX5_divide_46 rfl (lv_at hl 0 rfl) ?_
        refine lv_iload_n hx hb dX5_divide_47 rfl (lv_at hl 1 rfl) ?_
        refine lv_iload hx hb dX5_divide_48 (lv_at hl 6 rfl) ?_
        obtain ⟨u13, g14, hf⟩ := Option.bind_eq_some_iff.mp hf
        try dsimp only at hf
        refine ct_callx (va_runV (As := [.int x1, .int x6]) (rest := [.ref (ad 0)]) ⟨hx, hb, hml, hown, hts⟩ (C_X5_cell l D tys hj htI (res := u13) g14) (cwV 2 hts (gu_V mw_369 mw_370 mw_371 mw_330 mw_367) rfl rfl rfl (by decide +kernel) ⟨Nat.le_of_ble_eq_true rfl, Nat.le_of_ble_eq_true rfl⟩) (ct_preVx (w := fun di => ww 6 ad (cellR cI ad th kk mn md rw dg kn fc oft di)) hP hK (ci := 5) (k := 0) rfl cr_mdl) rfl rfl hl.1 rfl (lv_room (Nat.le_of_ble_eq_true rfl)) dX5_divide_50 ⟨Nat.zero_le _, Nat.zero_le _⟩) hS (fun di H locs hP hS => ?_)
        refine lv_iload hx hb dX5_divide_53 (lv_at hl 4 rfl) ?_
        obtain ⟨u15, g16, hf⟩ := Option.bind_eq_some_iff.mp hf
        try dsimp only at hf
        refine ct_callx (va_runV (As := [.int u13, .int x4]) (rest := []) ⟨hx, hb, hml, hown, hts⟩ (C_X5_times l D tys hj htI (res := u15) g16) (cwV 2 hts (gu_V mw_337 mw_338 mw_339 mw_330 mw_333) rfl rfl rfl (by decide +kernel) ⟨Nat.le_of_ble_eq_true rfl, Nat.le_of_ble_eq_true rfl⟩) (ct_preVx (w := fun di => ww 6 ad (cellR cI ad th kk mn md rw dg kn fc oft di)) hP hK (ci := 5) (k := 0) rfl cr_mdl) rfl rfl hl.1 rfl (lv_room (Nat.le_of_ble_eq_true rfl)) dX5_divide_55 ⟨Nat.zero_le _, Nat.zero_le _⟩) hS (fun di H locs hP hS => ?_)
        refine lv_istore (lv' := [(7, .int u15), (0, .ref (ad 0)), (1, .int x1), (2, .int x2), (3, .int x3), (4, .int x4), (5, .int x5), (6, .int x6)]) hx hb dX5_divide_58 hl (by decide) rfl (fun ls hl => ?_)
        refine lv_iconst (v := 0) hx hb dX5_divide_60 (by decide) ?_
        refine lv_istore (lv' := [(8, .int 0), (7, .int u15), (0, .ref (ad 0)), (1, .int x1), (2, .int x2), (3, .int x3), (4, .int x4), (5, .int x5), (6, .int x6)]) hx hb dX5_divide_61 hl (by decide) rfl (fun ls hl => ?_)
        refine L63 dg x1 x2 x3 x4 x5 x6 u15 _ (fun y27 rw28 di H locs ls hP hS hl hf => ?_) fu 0 rw _ _ _ _ hP hS (lv_sub hl [2, 3, 4, 5, 6, 7, 8, 1, 0] rfl) hf
        try dsimp only at hf
        refine lv_aload_n hx hb dX5_divide_133 rfl (lv_at hl 0 rfl) ?_
        refine va_get (ci := 5) (v := .ref (ad 3)) (C := RX5) (T := TX5) (N := 10) hx hb hts (fun w h => BW_in (in_wsX50 w h)) hown hK hP 0 cr_mdl rfl 5 (by decide) (hts (.fieldLink RX5 26 "NumberFieldFactorsModel" "row" "[I") (BW_in mw_317)) (fun _ h9 => h9) rfl dX5_divide_134 ?_
        refine lv_bipush (v := 16) hx hb dX5_divide_137 (by decide) ?_
        refine lv_iload_n hx hb dX5_divide_139 rfl (lv_at hl 3 rfl) ?_
        refine lv_imul hx hb dX5_divide_140 ?_
        refine lv_iload hx hb dX5_divide_141 (lv_at hl 6 rfl) ?_
        refine lv_iadd hx hb dX5_divide_143 ?_
        refine lv_iload hx hb dX5_divide_144 (lv_at hl 5 rfl) ?_
        refine lv_isub hx hb dX5_divide_146 ?_
        refine lv_iload hx hb dX5_divide_147 (lv_at hl 7 rfl) ?_
        by_cases b29 : (((16 * x3) + x6) - x5) < 0 ∨ 400 ≤ (((16 * x3) + x6) - x5).toNatClampNeg
        · rw [if_pos b29] at hf; cases hf
        rw [if_neg b29] at hf
        refine va_iast hx hb hK hP (ww_D hj) hS 3 0 cr_rw htI b29 dX5_divide_149 (fun H locs hP hD hS => ?_)
        have hP := cs_rw hP
        refine lv_iinc (v := x6 + (-1)) (lv' := [(6, .int (x6 + (-1))), (0, .ref (ad 0)), (1, .int x1), (2, .int x2), (3, .int x3), (4, .int x4), (5, .int x5), (7, .int u15), (8, .int y27)]) hx hb dX5_divide_150 hl (k := 6) rfl rfl (by decide) rfl (fun ls hl => ?_)
        refine lv_goto (tgt := 38) hx hb dX5_divide_153 (by decide) ?_
        exact ih (x6 + (-1)) (upd rw28 (((16 * x3) + x6) - x5).toNatClampNeg u15) _ _ _ _ hP hS (lv_sub hl [1, 2, 3, 4, 5, 6, 0] rfl) hf
  unfold f_X5_divide at hf
  refine lv_aload_n hx hb dX5_divide_0 rfl (lv_at hl 0 rfl) ?_
  refine lv_iload_n hx hb dX5_divide_1 rfl (lv_at hl 3 rfl) ?_
  obtain ⟨u1, g2, hf⟩ := Option.bind_eq_some_iff.mp hf
  try dsimp only at hf
  refine ct_callx (va_runV (As := [.int p2]) (rest := []) ⟨hx, hb, hml, hown, hts⟩ (C_X5_clear l D tys hj htI (res := u1) g2) (cwV 1 hts (gu_V mw_361 mw_362 mw_363 mw_330 mw_351) rfl rfl rfl (by decide +kernel) ⟨Nat.le_of_ble_eq_true rfl, Nat.le_of_ble_eq_true rfl⟩) (ct_preVx (w := fun di => ww 6 ad (cellR cI ad th kk mn md rw dg kn fc oft di)) hP hK (ci := 5) (k := 0) rfl cr_mdl) rfl rfl hl.1 rfl (lv_room (Nat.le_of_ble_eq_true rfl)) dX5_divide_2 ⟨Nat.zero_le _, Nat.zero_le _⟩) hS (fun di H locs hP hS => ?_)
  refine lv_aload_n hx hb dX5_divide_5 rfl (lv_at hl 0 rfl) ?_
  refine lv_aload_n hx hb dX5_divide_6 rfl (lv_at hl 0 rfl) ?_
  refine lv_iload_n hx hb dX5_divide_7 rfl (lv_at hl 2 rfl) ?_
  refine lv_aload_n hx hb dX5_divide_8 rfl (lv_at hl 0 rfl) ?_
  refine va_get (ci := 5) (v := .ref (ad 4)) (C := RX5) (T := TX5) (N := 10) hx hb hts (fun w h => BW_in (in_wsX50 w h)) hown hK hP 0 cr_mdl rfl 6 (by decide) (hts (.fieldLink RX5 29 "NumberFieldFactorsModel" "degree" "[I") (BW_in mw_318)) (fun _ h9 => h9) rfl dX5_divide_9 ?_
  refine lv_iload_n hx hb dX5_divide_12 rfl (lv_at hl 2 rfl) ?_
  by_cases b3 : p1 < 0 ∨ 25 ≤ (p1).toNatClampNeg
  · rw [if_pos b3] at hf; cases hf
  rw [if_neg b3] at hf
  refine va_iald hx hb hK hP 4 0 cr_dg htI b3 dX5_divide_13 ?_
  obtain ⟨u4, g5, hf⟩ := Option.bind_eq_some_iff.mp hf
  try dsimp only at hf
  refine ct_callx (va_runV (As := [.int p1, .int (u1.2 (p1).toNatClampNeg)]) (rest := [.ref (ad 0)]) ⟨hx, hb, hml, hown, hts⟩ (C_X5_cell l D tys hj htI (res := u4) g5) (cwV 2 hts (gu_V mw_369 mw_370 mw_371 mw_330 mw_367) rfl rfl rfl (by decide +kernel) ⟨Nat.le_of_ble_eq_true rfl, Nat.le_of_ble_eq_true rfl⟩) (ct_preVx (w := fun di => ww 6 ad (cellR cI ad th kk mn md u1.1 u1.2 kn fc oft di)) hP hK (ci := 5) (k := 0) rfl cr_mdl) rfl rfl hl.1 rfl (lv_room (Nat.le_of_ble_eq_true rfl)) dX5_divide_14 ⟨Nat.zero_le _, Nat.zero_le _⟩) hS (fun di H locs hP hS => ?_)
  obtain ⟨u6, g7, hf⟩ := Option.bind_eq_some_iff.mp hf
  try dsimp only at hf
  refine ct_callx (va_runV (As := [.int u4]) (rest := []) ⟨hx, hb, hml, hown, hts⟩ (C_X5_inverse l D tys hj htI (res := u6) g7) (cwV 1 hts (gu_V mw_372 mw_373 mw_374 mw_330 mw_340) rfl rfl rfl (by decide +kernel) ⟨Nat.le_of_ble_eq_true rfl, Nat.le_of_ble_eq_true rfl⟩) (ct_preVx (w := fun di => ww 6 ad (cellR cI ad th kk mn md u1.1 u1.2 kn fc oft di)) hP hK (ci := 5) (k := 0) rfl cr_mdl) rfl rfl hl.1 rfl (lv_room (Nat.le_of_ble_eq_true rfl)) dX5_divide_17 ⟨Nat.zero_le _, Nat.zero_le _⟩) hS (fun di H locs hP hS => ?_)
  refine lv_istore (lv' := [(4, .int u6), (0, .ref (ad 0)), (1, .int p0), (2, .int p1), (3, .int p2)]) hx hb dX5_divide_20 hl (by decide) rfl (fun ls hl => ?_)
  refine lv_aload_n hx hb dX5_divide_22 rfl (lv_at hl 1 rfl) ?_
  refine va_get (ci := 5) (v := .ref (ad 4)) (C := RX5) (T := TX5) (N := 10) hx hb hts (fun w h => BW_in (in_wsX50 w h)) hown hK hP 0 cr_mdl rfl 6 (by decide) (hts (.fieldLink RX5 29 "NumberFieldFactorsModel" "degree" "[I") (BW_in mw_318)) (fun _ h9 => h9) rfl dX5_divide_23 ?_
  refine lv_iload_n hx hb dX5_divide_26 rfl (lv_at hl 3 rfl) ?_
  by_cases b8 : p1 < 0 ∨ 25 ≤ (p1).toNatClampNeg
  · rw [if_pos b8] at hf; cases hf
  rw [if_neg b8] at hf
  refine va_iald hx hb hK hP 4 0 cr_dg htI b8 dX5_divide_27 ?_
  obtain ⟨v9, ev9, hf⟩ := nm_elim hf
  try dsimp only at hf
  refine tp_I ev9 ?_
  refine lv_istore (lv' := [(5, .int v9), (4, .int u6), (0, .ref (ad 0)), (1, .int p0), (2, .int p1), (3, .int p2)]) hx hb dX5_divide_28 hl (by decide) rfl (fun ls hl => ?_)
  refine lv_aload_n hx hb dX5_divide_30 rfl (lv_at hl 2 rfl) ?_
  refine va_get (ci := 5) (v := .ref (ad 4)) (C := RX5) (T := TX5) (N := 10) hx hb hts (fun w h => BW_in (in_wsX50 w h)) hown hK hP 0 cr_mdl rfl 6 (by decide) (hts (.fieldLink RX5 29 "NumberFieldFactorsModel" "degree" "[I") (BW_in mw_318)) (fun _ h9 => h9) rfl dX5_divide_31 ?_
  refine lv_iload_n hx hb dX5_divide_34 rfl (lv_at hl 3 rfl) ?_
  by_cases b10 : p0 < 0 ∨ 25 ≤ (p0).toNatClampNeg
  · rw [if_pos b10] at hf; cases hf
  rw [if_neg b10] at hf
  refine va_iald hx hb hK hP 4 0 cr_dg htI b10 dX5_divide_35 ?_
  obtain ⟨v11, ev11, hf⟩ := nm_elim hf
  try dsimp only at hf
  refine tp_I ev11 ?_
  refine lv_istore (lv' := [(6, .int v11), (5, .int v9), (4, .int u6), (0, .ref (ad 0)), (1, .int p0), (2, .int p1), (3, .int p2)]) hx hb dX5_divide_36 hl (by decide) rfl (fun ls hl => ?_)
  refine L38 u1.2 p0 p1 p2 u6 v9 _ (fun y30 rw31 di H locs ls hP hS hl hf => ?_) fu v11 u1.1 _ _ _ _ hP hS (lv_sub hl [3, 4, 5, 6, 2, 1, 0] rfl) hf
  try dsimp only at hf
  refine lv_aload_n hx hb dX5_divide_156 rfl (lv_at hl 0 rfl) ?_
  refine lv_iload_n hx hb dX5_divide_157 rfl (lv_at hl 1 rfl) ?_
  refine lv_iconst (v := 0) hx hb dX5_divide_158 (by decide) ?_
  refine lv_aload_n hx hb dX5_divide_159 rfl (lv_at hl 0 rfl) ?_
  refine lv_iload_n hx hb dX5_divide_160 rfl (lv_at hl 1 rfl) ?_
  refine lv_iconst (v := 0) hx hb dX5_divide_161 (by decide) ?_
  obtain ⟨u32, g33, hf⟩ := Option.bind_eq_some_iff.mp hf
  try dsimp only at hf
  refine ct_callx (va_runV (As := [.int p0, .int 0]) (rest := [.int 0, .int p0, .ref (ad 0)]) ⟨hx, hb, hml, hown, hts⟩ (C_X5_cell l D tys hj htI (res := u32) g33) (cwV 2 hts (gu_V mw_369 mw_370 mw_371 mw_330 mw_367) rfl rfl rfl (by decide +kernel) ⟨Nat.le_of_ble_eq_true rfl, Nat.le_of_ble_eq_true rfl⟩) (ct_preVx (w := fun di => ww 6 ad (cellR cI ad th kk mn md rw31 u1.2 kn fc oft di)) hP hK (ci := 5) (k := 0) rfl cr_mdl) rfl rfl hl.1 rfl (lv_room (Nat.le_of_ble_eq_true rfl)) dX5_divide_162 ⟨Nat.zero_le _, Nat.zero_le _⟩) hS (fun di H locs hP hS => ?_)
  obtain ⟨u34, g35, hf⟩ := Option.bind_eq_some_iff.mp hf
  try dsimp only at hf
  refine ct_callx (va_runV (As := [.int p0, .int 0, .int u32]) (rest := []) ⟨hx, hb, hml, hown, hts⟩ (C_X5_set l D tys hj htI (res := u34) g35) (cwV 3 hts (gu_V mw_377 mw_378 mw_379 mw_330 mw_366) rfl rfl rfl (by decide +kernel) ⟨Nat.le_of_ble_eq_true rfl, Nat.le_of_ble_eq_true rfl⟩) (ct_preVx (w := fun di => ww 6 ad (cellR cI ad th kk mn md rw31 u1.2 kn fc oft di)) hP hK (ci := 5) (k := 0) rfl cr_mdl) rfl rfl hl.1 rfl (lv_room (Nat.le_of_ble_eq_true rfl)) dX5_divide_165 ⟨Nat.zero_le _, Nat.zero_le _⟩) hS (fun di H locs hP hS => ?_)
  refine lv_aload_n hx hb dX5_divide_168 rfl (lv_at hl 0 rfl) ?_
  refine lv_iload_n hx hb dX5_divide_169 rfl (lv_at hl 3 rfl) ?_
  refine lv_iconst (v := 0) hx hb dX5_divide_170 (by decide) ?_
  refine lv_aload_n hx hb dX5_divide_171 rfl (lv_at hl 0 rfl) ?_
  refine lv_iload_n hx hb dX5_divide_172 rfl (lv_at hl 3 rfl) ?_
  refine lv_iconst (v := 0) hx hb dX5_divide_173 (by decide) ?_
  obtain ⟨u36, g37, hf⟩ := Option.bind_eq_some_iff.mp hf
  try dsimp only at hf
  refine ct_callx (va_runV (As := [.int p2, .int 0]) (rest := [.int 0, .int p2, .ref (ad 0)]) ⟨hx, hb, hml, hown, hts⟩ (C_X5_cell l D tys hj htI (res := u36) g37) (cwV 2 hts (gu_V mw_369 mw_370 mw_371 mw_330 mw_367) rfl rfl rfl (by decide +kernel) ⟨Nat.le_of_ble_eq_true rfl, Nat.le_of_ble_eq_true rfl⟩) (ct_preVx (w := fun di => ww 6 ad (cellR cI ad th kk mn md u34.1 u34.2 kn fc oft di)) hP hK (ci := 5) (k := 0) rfl cr_mdl) rfl rfl hl.1 rfl (lv_room (Nat.le_of_ble_eq_true rfl)) dX5_divide_174 ⟨Nat.zero_le _, Nat.zero_le _⟩) hS (fun di H locs hP hS => ?_)
  obtain ⟨u38, g39, hf⟩ := Option.bind_eq_some_iff.mp hf
  try dsimp only at hf
  refine ct_callx (va_runV (As := [.int p2, .int 0, .int u36]) (rest := []) ⟨hx, hb, hml, hown, hts⟩ (C_X5_set l D tys hj htI (res := u38) g39) (cwV 3 hts (gu_V mw_377 mw_378 mw_379 mw_330 mw_366) rfl rfl rfl (by decide +kernel) ⟨Nat.le_of_ble_eq_true rfl, Nat.le_of_ble_eq_true rfl⟩) (ct_preVx (w := fun di => ww 6 ad (cellR cI ad th kk mn md u34.1 u34.2 kn fc oft di)) hP hK (ci := 5) (k := 0) rfl cr_mdl) rfl rfl hl.1 rfl (lv_room (Nat.le_of_ble_eq_true rfl)) dX5_divide_177 ⟨Nat.zero_le _, Nat.zero_le _⟩) hS (fun di H locs hP hS => ?_)
  obtain rfl := Option.some.inj hf
  exact W.vret hx hb hr (fun t ht hW => ⟨rfl, ⟨di, by rw [ht]; exact hP⟩, hS.F ht⟩) hS.2.2 dX5_divide_180
def f_X5_monic_l28 (k28 : Int32 → (Nat → Int32) → Option ((Nat → Int32))) (fu : Nat) (kk : Int32) (mn : Int64) (md : Nat → Int32) (dg : Nat → Int32) (x1 : Int32) (x2 : Int32) : Nat → Int32 → (Nat → Int32) → Option ((Nat → Int32))
  | 0, _, _ => none
  | n + 1, x3, rw =>
    if x1 < 0 ∨ 25 ≤ (x1).toNatClampNeg then none else
    if (dg (x1).toNatClampNeg) < x3 then
      k28 x3 rw
    else
      (f_X5_cell rw x1 x3).bind (fun u10 =>
      (f_X5_times fu kk md u10 x2).bind (fun u12 =>
      if ((16 * x1) + x3) < 0 ∨ 400 ≤ ((16 * x1) + x3).toNatClampNeg then none else
      f_X5_monic_l28 k28 fu kk mn md dg x1 x2 n (x3 + 1) (upd rw ((16 * x1) + x3).toNatClampNeg u12)))
def f_X5_monic (fu : Nat) (kk : Int32) (mn : Int64) (md : Nat → Int32) (rw : Nat → Int32) (dg : Nat → Int32) (p0 : Int32) : Option ((Nat → Int32)) :=
  if p0 < 0 ∨ 25 ≤ (p0).toNatClampNeg then none else
  if 0 ≤ (dg (p0).toNatClampNeg) then
    if p0 < 0 ∨ 25 ≤ (p0).toNatClampNeg then none else
    (f_X5_cell rw p0 (dg (p0).toNatClampNeg)).bind (fun u4 =>
    (f_X5_inverse fu kk mn md u4).bind (fun u6 =>
    f_X5_monic_l28 (fun y15 rw16 =>
      some rw16) fu kk mn md dg p0 u6 fu 0 rw))
  else
    some rw
set_option maxHeartbeats 4000000 in
set_option maxRecDepth 100000 in
theorem C_X5_monic (l : Launch) (D : va_G) (tys : List (ClassId × FieldType)) {ad : Nat → Nat} (hj : ww_inj 6 ad) {cI : ClassId} (htI : tys[0]? = some (cI, .int)) {fu : Nat} {th : Int32} {kk : Int32} {mn : Int64} {md : Nat → Int32} {rw : Nat → Int32} {dg : Nat → Int32} {kn : Int32} {fc : Int32} {oft : Nat → Int32} {p0 : Int32} {res : (Nat → Int32)} (hf : f_X5_monic fu kk mn md rw dg p0 = some res) :
    Met l yX5_monic usX5_monic ({ frames := 4, cells := 0, slots := 0, locals := 94 }) (va_Pc [.ref (ad 0), .int p0] (ws_Bx D tys (fun di => ww 6 ad (cellR cI ad th kk mn md rw dg kn fc oft di)))) (ct_Qx D (fun di => ww 6 ad (cellR cI ad th kk mn md res dg kn fc oft di)) (ww_A 6 ad) (none)) 0 0 (ww_A 6 ad) := by
  refine Met.ofW (cc := cX5_monic) (maxL := 4) (ret := none) (by decide) rfl ?_
  intro p e s m args below meth c s₁ B hml hv
  obtain ⟨rfl, ⟨di, hP⟩, hK⟩ := hv
  have hx := B.exec
  have hb := B.bytes
  have hr := B.returns
  have hts := atoms_spec (ws := usX5_monic) B.pre
  have hown : s.vm.findClass RX5 = some m.cls := findClass_of_methodNamed B.named
  have hlocks := B.notSynchronized
  have hS : va_S (ww_A 6 ad) s.heap s.heap [] := va_S.rf
  have hl := lv_entry ([.ref (ad 0), .int p0]) (n := 4) (Nat.le_of_ble_eq_true rfl)
  rw [lg_entry_eq]
  generalize (lg_sl ([.ref (ad 0), .int p0]) ++ List.replicate (4 - (lg_sl ([.ref (ad 0), .int p0])).length) Slot.unset).toArray = ls at hl ⊢
  have hl : lv_has ls 4 [(0, .ref (ad 0)), (1, .int p0)] := hl
  have L28 : ∀ (x1 : Int32) (x2 : Int32) (k28 : Int32 → (Nat → Int32) → Option ((Nat → Int32))), (∀ (x3 : Int32) (rw : Nat → Int32) (di : Nat → Int32) (H : Heap) (locs : List Loc) (ls : Array Slot), va_P D vwCl (ww 6 ad (cellR cI ad th kk mn md rw dg kn fc oft di)) H → va_S (ww_A 6 ad) s.heap H locs → lv_has ls 4 [(0, .ref (ad 0)), (1, .int x1), (2, .int x2), (3, .int x3)] →  k28 x3 rw = some res → W p l e (headSpec usX5_monic { frames := 4, cells := 0, slots := 0, locals := 94 }).room s m [.ref (ad 0), .int p0].toArray below meth c H locs 0 0 (MQ below (ct_Qx D (fun di => ww 6 ad (cellR cI ad th kk mn md res dg kn fc oft di)) (ww_A 6 ad) (none)) [.ref (ad 0), .int p0].toArray s 0 0 (ww_A 6 ad)) (F0 m 66 ls [])) → ∀ (n : Nat) (x3 : Int32) (rw : Nat → Int32) (di : Nat → Int32) (H : Heap) (locs : List Loc) (ls : Array Slot), va_P D vwCl (ww 6 ad (cellR cI ad th kk mn md rw dg kn fc oft di)) H → va_S (ww_A 6 ad) s.heap H locs → lv_has ls 4 [(0, .ref (ad 0)), (1, .int x1), (2, .int x2), (3, .int x3)] →  f_X5_monic_l28 k28 fu kk mn md dg x1 x2 n x3 rw = some res → W p l e (headSpec usX5_monic { frames := 4, cells := 0, slots := 0, locals := 94 }).room s m [.ref (ad 0), .int p0].toArray below meth c H locs 0 0 (MQ below (ct_Qx D (fun di => ww 6 ad (cellR cI ad th kk mn md res dg kn fc oft di)) (ww_A 6 ad) (none)) [.ref (ad 0), .int p0].toArray s 0 0 (ww_A 6 ad)) (F0 m 28 ls []) := by
    intro x1 x2 k28 hk_28 n
    induction n with
    | zero => intro x3 rw di H locs ls hP hS hl hf; rw [f_X5_monic_l28] at hf; cases hf
    | succ n ih =>
      intro x3 rw di H locs ls hP hS hl hf
      rw [f_X5_monic_l28] at hf
      refine lv_iload_n hx hb dX5_monic_28 rfl (lv_at hl 3 rfl) ?_
      refine lv_aload_n hx hb dX5_monic_29 rfl (lv_at hl 0 rfl) ?_
      refine va_get (ci := 5) (v := .ref (ad 4)) (C := RX5) (T := TX5) (N := 10) hx hb hts (fun w h => BW_in (in_wsX50 w h)) hown hK hP 0 cr_mdl rfl 6 (by decide) (hts (.fieldLink RX5 29 "NumberFieldFactorsModel" "degree" "[I") (BW_in mw_318)) (fun _ h9 => h9) rfl dX5_monic_30 ?_
      refine lv_iload_n hx hb dX5_monic_33 rfl (lv_at hl 1 rfl) ?_
      by_cases b8 : x1 < 0 ∨ 25 ≤ (x1).toNatClampNeg
      · rw [if_pos b8] at hf; cases hf
      rw [if_neg b8] at hf
      refine va_iald hx hb hK hP 4 0 cr_dg htI b8 dX5_monic_34 ?_
      refine lv_icmp_gt (tgt := 66) hx hb dX5_monic_35 (by decide) (fun c9 => ?_) (fun c9 => ?_)
      · rw [if_pos c9] at hf
        exact hk_28 x3 rw _ _ _ _ hP hS (lv_sub hl [0, 1, 2, 3] rfl) hf
      · rw [if_neg c9] at hf
        refine lv_aload_n hx hb dX5_monic_38 rfl (lv_at hl 0 rfl) ?_
        refine va_get (ci := 5) (v := .ref (ad 3)) (C := RX5) (T := TX5) (N := 10) hx hb hts (fun w h => BW_in (in_wsX50 w h)) hown hK hP 0 cr_mdl rfl 5 (by decide) (hts (.fieldLink RX5 26 "NumberFieldFactorsModel" "row" "[I") (BW_in mw_317)) (fun _ h9 => h9) rfl dX5_monic_39 ?_
        refine lv_bipush (v := 16) hx hb dX5_monic_42 (by decide) ?_
        refine lv_iload_n hx hb dX5_monic_44 rfl (lv_at hl 1 rfl) ?_
        refine lv_imul hx hb dX5_monic_45 ?_
        refine lv_iload_n hx hb dX5_monic_46 rfl (lv_at hl 3 rfl) ?_
        refine lv_iadd hx hb dX5_monic_47 ?_
        refine lv_aload_n hx hb dX5_monic_48 rfl (lv_at hl 0 rfl) ?_
        refine lv_aload_n hx hb dX5_monic_49 rfl (lv_at hl 0 rfl) ?_
        refine lv_iload_n hx hb dX5_monic_50 rfl (lv_at hl 1 rfl) ?_
        refine lv_iload_n hx hb dX5_monic_51 rfl (lv_at hl 3 rfl) ?_
        obtain ⟨u10, g11, hf⟩ := Option.bind_eq_some_iff.mp hf
        try dsimp only at hf
        refine ct_callx (va_runV (As := [.int x1, .int x3]) (rest := [.ref (ad 0), .int ((16 * x1) + x3), .ref (ad 3)]) ⟨hx, hb, hml, hown, hts⟩ (C_X5_cell l D tys hj htI (res := u10) g11) (cwV 2 hts (gu_V mw_369 mw_370 mw_371 mw_330 mw_367) rfl rfl rfl (by decide +kernel) ⟨Nat.le_of_ble_eq_true rfl, Nat.le_of_ble_eq_true rfl⟩) (ct_preVx (w := fun di => ww 6 ad (cellR cI ad th kk mn md rw dg kn fc oft di)) hP hK (ci := 5) (k := 0) rfl cr_mdl) rfl rfl hl.1 rfl (lv_room (Nat.le_of_ble_eq_true rfl)) dX5_monic_52 ⟨Nat.zero_le _, Nat.zero_le _⟩) hS (fun di H locs hP hS => ?_)
        refine lv_iload_n hx hb dX5_monic_55 rfl (lv_at hl 2 rfl) ?_
        obtain ⟨u12, g13, hf⟩ := Option.bind_eq_some_iff.mp hf
        try dsimp only at hf
        refine ct_callx (va_runV (As := [.int u10, .int x2]) (rest := [.int ((16 * x1) + x3), .ref (ad 3)]) ⟨hx, hb, hml, hown, hts⟩ (C_X5_times l D tys hj htI (res := u12) g13) (cwV 2 hts (gu_V mw_337 mw_338 mw_339 mw_330 mw_333) rfl rfl rfl (by decide +kernel) ⟨Nat.le_of_ble_eq_true rfl, Nat.le_of_ble_eq_true rfl⟩) (ct_preVx (w := fun di => ww 6 ad (cellR cI ad th kk mn md rw dg kn fc oft di)) hP hK (ci := 5) (k := 0) rfl cr_mdl) rfl rfl hl.1 rfl (lv_room (Nat.le_of_ble_eq_true rfl)) dX5_monic_56 ⟨Nat.zero_le _, Nat.zero_le _⟩) hS (fun di H locs hP hS => ?_)
        by_cases b14 : ((16 * x1) + x3) < 0 ∨ 400 ≤ ((16 * x1) + x3).toNatClampNeg
        · rw [if_pos b14] at hf; cases hf
        rw [if_neg b14] at hf
        refine va_iast hx hb hK hP (ww_D hj) hS 3 0 cr_rw htI b14 dX5_monic_59 (fun H locs hP hD hS => ?_)
        have hP := cs_rw hP
        refine lv_iinc (v := x3 + 1) (lv' := [(3, .int (x3 + 1)), (0, .ref (ad 0)), (1, .int x1), (2, .int x2)]) hx hb dX5_monic_60 hl (k := 3) rfl rfl (by decide) rfl (fun ls hl => ?_)
        refine lv_goto (tgt := 28) hx hb dX5_monic_63 (by decide) ?_
        exact ih (x3 + 1) (upd rw ((16 * x1) + x3).toNatClampNeg u12) _ _ _ _ hP hS (lv_sub hl [1, 2, 3, 0] rfl) hf
  unfold f_X5_monic at hf
  refine lv_aload_n hx hb dX5_monic_0 rfl (lv_at hl 0 rfl) ?_
  refine va_get (ci := 5) (v := .ref (ad 4)) (C := RX5) (T := TX5) (N := 10) hx hb hts (fun w h => BW_in (in_wsX50 w h)) hown hK hP 0 cr_mdl rfl 6 (by decide) (hts (.fieldLink RX5 29 "NumberFieldFactorsModel" "degree" "[I") (BW_in mw_318)) (fun _ h9 => h9) rfl dX5_monic_1 ?_
  refine lv_iload_n hx hb dX5_monic_4 rfl (lv_at hl 1 rfl) ?_
  by_cases b1 : p0 < 0 ∨ 25 ≤ (p0).toNatClampNeg
  · rw [if_pos b1] at hf; cases hf
  rw [if_neg b1] at hf
  refine va_iald hx hb hK hP 4 0 cr_dg htI b1 dX5_monic_5 ?_
  refine lv_if_ge (tgt := 10) hx hb dX5_monic_6 (by decide) (fun c2 => ?_) (fun c2 => ?_)
  · rw [if_pos c2] at hf
    refine lv_aload_n hx hb dX5_monic_10 rfl (lv_at hl 0 rfl) ?_
    refine lv_aload_n hx hb dX5_monic_11 rfl (lv_at hl 0 rfl) ?_
    refine lv_iload_n hx hb dX5_monic_12 rfl (lv_at hl 1 rfl) ?_
    refine lv_aload_n hx hb dX5_monic_13 rfl (lv_at hl 0 rfl) ?_
    refine va_get (ci := 5) (v := .ref (ad 4)) (C := RX5) (T := TX5) (N := 10) hx hb hts (fun w h => BW_in (in_wsX50 w h)) hown hK hP 0 cr_mdl rfl 6 (by decide) (hts (.fieldLink RX5 29 "NumberFieldFactorsModel" "degree" "[I") (BW_in mw_318)) (fun _ h9 => h9) rfl dX5_monic_14 ?_
    refine lv_iload_n hx hb dX5_monic_17 rfl (lv_at hl 1 rfl) ?_
    by_cases b3 : p0 < 0 ∨ 25 ≤ (p0).toNatClampNeg
    · rw [if_pos b3] at hf; cases hf
    rw [if_neg b3] at hf
    refine va_iald hx hb hK hP 4 0 cr_dg htI b3 dX5_monic_18 ?_
    obtain ⟨u4, g5, hf⟩ := Option.bind_eq_some_iff.mp hf
    try dsimp only at hf
    refine ct_callx (va_runV (As := [.int p0, .int (dg (p0).toNatClampNeg)]) (rest := [.ref (ad 0)]) ⟨hx, hb, hml, hown, hts⟩ (C_X5_cell l D tys hj htI (res := u4) g5) (cwV 2 hts (gu_V mw_369 mw_370 mw_371 mw_330 mw_367) rfl rfl rfl (by decide +kernel) ⟨Nat.le_of_ble_eq_true rfl, Nat.le_of_ble_eq_true rfl⟩) (ct_preVx (w := fun di => ww 6 ad (cellR cI ad th kk mn md rw dg kn fc oft di)) hP hK (ci := 5) (k := 0) rfl cr_mdl) rfl rfl hl.1 rfl (lv_room (Nat.le_of_ble_eq_true rfl)) dX5_monic_19 ⟨Nat.zero_le _, Nat.zero_le _⟩) hS (fun di H locs hP hS => ?_)
    obtain ⟨u6, g7, hf⟩ := Option.bind_eq_some_iff.mp hf
    try dsimp only at hf
    refine ct_callx (va_runV (As := [.int u4]) (rest := []) ⟨hx, hb, hml, hown, hts⟩ (C_X5_inverse l D tys hj htI (res := u6) g7) (cwV 1 hts (gu_V mw_372 mw_373 mw_374 mw_330 mw_340) rfl rfl rfl (by decide +kernel) ⟨Nat.le_of_ble_eq_true rfl, Nat.le_of_ble_eq_true rfl⟩) (ct_preVx (w := fun di => ww 6 ad (cellR cI ad th kk mn md rw dg kn fc oft di)) hP hK (ci := 5) (k := 0) rfl cr_mdl) rfl rfl hl.1 rfl (lv_room (Nat.le_of_ble_eq_true rfl)) dX5_monic_22 ⟨Nat.zero_le _, Nat.zero_le _⟩) hS (fun di H locs hP hS => ?_)
    refine lv_istore_n (lv' := [(2, .int u6), (0, .ref (ad 0)), (1, .int p0)]) hx hb dX5_monic_25 rfl hl (by decide) rfl (fun ls hl => ?_)
    refine lv_iconst (v := 0) hx hb dX5_monic_26 (by decide) ?_
    refine lv_istore_n (lv' := [(3, .int 0), (2, .int u6), (0, .ref (ad 0)), (1, .int p0)]) hx hb dX5_monic_27 rfl hl (by decide) rfl (fun ls hl => ?_)
    refine L28 p0 u6 _ (fun y15 rw16 di H locs ls hP hS hl hf => ?_) fu 0 rw _ _ _ _ hP hS (lv_sub hl [2, 3, 1, 0] rfl) hf
    try dsimp only at hf
    obtain rfl := Option.some.inj hf
    exact W.vret hx hb hr (fun t ht hW => ⟨rfl, ⟨di, by rw [ht]; exact hP⟩, hS.F ht⟩) hS.2.2 dX5_monic_66
  · rw [if_neg c2] at hf
    obtain rfl := Option.some.inj hf
    exact W.vret hx hb hr (fun t ht hW => ⟨rfl, ⟨di, by rw [ht]; exact hP⟩, hS.F ht⟩) hS.2.2 dX5_monic_9
def f_X5_divisor_l2 (k2 : Int32 → (Nat → Int32) → (Nat → Int32) → Option ((Nat → Int32) × (Nat → Int32))) (fu : Nat) (kk : Int32) (mn : Int64) (md : Nat → Int32) (x1 : Int32) (x2 : Int32) : Nat → Int32 → (Nat → Int32) → (Nat → Int32) → Option ((Nat → Int32) × (Nat → Int32))
  | 0, _, _, _ => none
  | n + 1, x3, rw, dg =>
    if 40 ≤ x3 then
      k2 x3 rw dg
    else
      if x2 < 0 ∨ 25 ≤ (x2).toNatClampNeg then none else
      if (dg (x2).toNatClampNeg) < 0 then
        k2 x3 rw dg
      else
        (f_X5_divide fu kk mn md rw dg x1 x2 5).bind (fun u4 =>
        (f_X5_copy fu u4.1 u4.2 x1 5).bind (fun u6 =>
        (f_X5_copy fu u6.1 u6.2 x2 x1).bind (fun u8 =>
        (f_X5_copy fu u8.1 u8.2 5 x2).bind (fun u10 =>
        f_X5_divisor_l2 k2 fu kk mn md x1 x2 n (x3 + 1) u10.1 u10.2))))
def f_X5_divisor (fu : Nat) (kk : Int32) (mn : Int64) (md : Nat → Int32) (rw : Nat → Int32) (dg : Nat → Int32) (p0 : Int32) (p1 : Int32) : Option ((Nat → Int32) × (Nat → Int32)) :=
  f_X5_divisor_l2 (fun y12 rw13 dg14 =>
    (f_X5_monic fu kk mn md rw13 dg14 p0).bind (fun u15 =>
    some (u15, dg14))) fu kk mn md p0 p1 fu 0 rw dg
set_option maxHeartbeats 4000000 in
set_option maxRecDepth 100000 in
theorem C_X5_divisor (l : Launch) (D : va_G) (tys : List (ClassId × FieldType)) {ad : Nat → Nat} (hj : ww_inj 6 ad) {cI : ClassId} (htI : tys[0]? = some (cI, .int)) {fu : Nat} {th : Int32} {kk : Int32} {mn : Int64} {md : Nat → Int32} {rw : Nat → Int32} {dg : Nat → Int32} {kn : Int32} {fc : Int32} {oft : Nat → Int32} {p0 : Int32} {p1 : Int32} {res : (Nat → Int32) × (Nat → Int32)} (hf : f_X5_divisor fu kk mn md rw dg p0 p1 = some res) :
    Met l yX5_divisor usX5_divisor ({ frames := 5, cells := 0, slots := 0, locals := 122 }) (va_Pc [.ref (ad 0), .int p0, .int p1] (ws_Bx D tys (fun di => ww 6 ad (cellR cI ad th kk mn md rw dg kn fc oft di)))) (ct_Qx D (fun di => ww 6 ad (cellR cI ad th kk mn md res.1 res.2 kn fc oft di)) (ww_A 6 ad) (none)) 0 0 (ww_A 6 ad) := by
  refine Met.ofW (cc := cX5_divisor) (maxL := 4) (ret := none) (by decide) rfl ?_
  intro p e s m args below meth c s₁ B hml hv
  obtain ⟨rfl, ⟨di, hP⟩, hK⟩ := hv
  have hx := B.exec
  have hb := B.bytes
  have hr := B.returns
  have hts := atoms_spec (ws := usX5_divisor) B.pre
  have hown : s.vm.findClass RX5 = some m.cls := findClass_of_methodNamed B.named
  have hlocks := B.notSynchronized
  have hS : va_S (ww_A 6 ad) s.heap s.heap [] := va_S.rf
  have hl := lv_entry ([.ref (ad 0), .int p0, .int p1]) (n := 4) (Nat.le_of_ble_eq_true rfl)
  rw [lg_entry_eq]
  generalize (lg_sl ([.ref (ad 0), .int p0, .int p1]) ++ List.replicate (4 - (lg_sl ([.ref (ad 0), .int p0, .int p1])).length) Slot.unset).toArray = ls at hl ⊢
  have hl : lv_has ls 4 [(0, .ref (ad 0)), (1, .int p0), (2, .int p1)] := hl
  have L2 : ∀ (x1 : Int32) (x2 : Int32) (k2 : Int32 → (Nat → Int32) → (Nat → Int32) → Option ((Nat → Int32) × (Nat → Int32))), (∀ (x3 : Int32) (rw : Nat → Int32) (dg : Nat → Int32) (di : Nat → Int32) (H : Heap) (locs : List Loc) (ls : Array Slot), va_P D vwCl (ww 6 ad (cellR cI ad th kk mn md rw dg kn fc oft di)) H → va_S (ww_A 6 ad) s.heap H locs → lv_has ls 4 [(0, .ref (ad 0)), (1, .int x1), (2, .int x2), (3, .int x3)] →  k2 x3 rw dg = some res → W p l e (headSpec usX5_divisor { frames := 5, cells := 0, slots := 0, locals := 122 }).room s m [.ref (ad 0), .int p0, .int p1].toArray below meth c H locs 0 0 (MQ below (ct_Qx D (fun di => ww 6 ad (cellR cI ad th kk mn md res.1 res.2 kn fc oft di)) (ww_A 6 ad) (none)) [.ref (ad 0), .int p0, .int p1].toArray s 0 0 (ww_A 6 ad)) (F0 m 48 ls [])) → ∀ (n : Nat) (x3 : Int32) (rw : Nat → Int32) (dg : Nat → Int32) (di : Nat → Int32) (H : Heap) (locs : List Loc) (ls : Array Slot), va_P D vwCl (ww 6 ad (cellR cI ad th kk mn md rw dg kn fc oft di)) H → va_S (ww_A 6 ad) s.heap H locs → lv_has ls 4 [(0, .ref (ad 0)), (1, .int x1), (2, .int x2), (3, .int x3)] →  f_X5_divisor_l2 k2 fu kk mn md x1 x2 n x3 rw dg = some res → W p l e (headSpec usX5_divisor { frames := 5, cells := 0, slots := 0, locals := 122 }).room s m [.ref (ad 0), .int p0, .int p1].toArray below meth c H locs 0 0 (MQ below (ct_Qx D (fun di => ww 6 ad (cellR cI ad th kk mn md res.1 res.2 kn fc oft di)) (ww_A 6 ad) (none)) [.ref (ad 0), .int p0, .int p1].toArray s 0 0 (ww_A 6 ad)) (F0 m 2 ls []) := by
    intro x1 x2 k2 hk_2 n
    induction n with
    | zero => intro x3 rw dg di H locs ls hP hS hl hf; rw [f_X5_divisor_l2] at hf; cases hf
    | succ n ih =>
      intro x3 rw dg di H locs ls hP hS hl hf
      rw [f_X5_divisor_l2] at hf
      refine lv_iload_n hx hb dX5_divisor_2 rfl (lv_at hl 3 rfl) ?_
      refine lv_bipush (v := 40) hx hb dX5_divisor_3 (by decide) ?_
      refine lv_icmp_ge (tgt := 48) hx hb dX5_divisor_5 (by decide) (fun c1 => ?_) (fun c1 => ?_)
      · rw [if_pos c1] at hf
        exact hk_2 x3 rw dg _ _ _ _ hP hS (lv_sub hl [0, 1, 2, 3] rfl) hf
      · rw [if_neg c1] at hf
        refine lv_aload_n hx hb dX5_divisor_8 rfl (lv_at hl 0 rfl) ?_
        refine va_get (ci := 5) (v := .ref (ad 4)) (C := RX5) (T := TX5) (N := 10) hx hb hts (fun w h => BW_in (in_wsX50 w h)) hown hK hP 0 cr_mdl rfl 6 (by decide) (hts (.fieldLink RX5 29 "NumberFieldFactorsModel" "degree" "[I") (BW_in mw_318)) (fun _ h9 => h9) rfl dX5_divisor_9 ?_
        refine lv_iload_n hx hb dX5_divisor_12 rfl (lv_at hl 2 rfl) ?_
        by_cases b2 : x2 < 0 ∨ 25 ≤ (x2).toNatClampNeg
        · rw [if_pos b2] at hf; cases hf
        rw [if_neg b2] at hf
        refine va_iald hx hb hK hP 4 0 cr_dg htI b2 dX5_divisor_13 ?_
        refine lv_if_lt (tgt := 48) hx hb dX5_divisor_14 (by decide) (fun c3 => ?_) (fun c3 => ?_)
        · rw [if_pos c3] at hf
          exact hk_2 x3 rw dg _ _ _ _ hP hS (lv_sub hl [0, 1, 2, 3] rfl) hf
        · rw [if_neg c3] at hf
          refine lv_aload_n hx hb dX5_divisor_17 rfl (lv_at hl 0 rfl) ?_
          refine lv_iload_n hx hb dX5_divisor_18 rfl (lv_at hl 1 rfl) ?_
          refine lv_iload_n hx hb dX5_divisor_19 rfl (lv_at hl 2 rfl) ?_
          refine lv_iconst (v := 5) hx hb dX5_divisor_20 (by decide) ?_
          obtain ⟨u4, g5, hf⟩ := Option.bind_eq_some_iff.mp hf
          try dsimp only at hf
          refine ct_callx (va_runV (As := [.int x1, .int x2, .int 5]) (rest := []) ⟨hx, hb, hml, hown, hts⟩ (C_X5_divide l D tys hj htI (res := u4) g5) (cwV 3 hts (gu_V mw_382 mw_383 mw_384 mw_330 mw_380) rfl rfl rfl (by decide +kernel) ⟨Nat.le_of_ble_eq_true rfl, Nat.le_of_ble_eq_true rfl⟩) (ct_preVx (w := fun di => ww 6 ad (cellR cI ad th kk mn md rw dg kn fc oft di)) hP hK (ci := 5) (k := 0) rfl cr_mdl) rfl rfl hl.1 rfl (lv_room (Nat.le_of_ble_eq_true rfl)) dX5_divisor_21 ⟨Nat.zero_le _, Nat.zero_le _⟩) hS (fun di H locs hP hS => ?_)
          refine lv_aload_n hx hb dX5_divisor_24 rfl (lv_at hl 0 rfl) ?_
          refine lv_iload_n hx hb dX5_divisor_25 rfl (lv_at hl 1 rfl) ?_
          refine lv_iconst (v := 5) hx hb dX5_divisor_26 (by decide) ?_
          obtain ⟨u6, g7, hf⟩ := Option.bind_eq_some_iff.mp hf
          try dsimp only at hf
          refine ct_callx (va_runV (As := [.int x1, .int 5]) (rest := []) ⟨hx, hb, hml, hown, hts⟩ (C_X5_copy l D tys hj htI (res := u6) g7) (cwV 2 hts (gu_V mw_385 mw_386 mw_387 mw_330 mw_365) rfl rfl rfl (by decide +kernel) ⟨Nat.le_of_ble_eq_true rfl, Nat.le_of_ble_eq_true rfl⟩) (ct_preVx (w := fun di => ww 6 ad (cellR cI ad th kk mn md u4.1 u4.2 kn fc oft di)) hP hK (ci := 5) (k := 0) rfl cr_mdl) rfl rfl hl.1 rfl (lv_room (Nat.le_of_ble_eq_true rfl)) dX5_divisor_27 ⟨Nat.zero_le _, Nat.zero_le _⟩) hS (fun di H locs hP hS => ?_)
          refine lv_aload_n hx hb dX5_divisor_30 rfl (lv_at hl 0 rfl) ?_
          refine lv_iload_n hx hb dX5_divisor_31 rfl (lv_at hl 2 rfl) ?_
          refine lv_iload_n hx hb dX5_divisor_32 rfl (lv_at hl 1 rfl) ?_
          obtain ⟨u8, g9, hf⟩ := Option.bind_eq_some_iff.mp hf
          try dsimp only at hf
          refine ct_callx (va_runV (As := [.int x2, .int x1]) (rest := []) ⟨hx, hb, hml, hown, hts⟩ (C_X5_copy l D tys hj htI (res := u8) g9) (cwV 2 hts (gu_V mw_385 mw_386 mw_387 mw_330 mw_365) rfl rfl rfl (by decide +kernel) ⟨Nat.le_of_ble_eq_true rfl, Nat.le_of_ble_eq_true rfl⟩) (ct_preVx (w := fun di => ww 6 ad (cellR cI ad th kk mn md u6.1 u6.2 kn fc oft di)) hP hK (ci := 5) (k := 0) rfl cr_mdl) rfl rfl hl.1 rfl (lv_room (Nat.le_of_ble_eq_true rfl)) dX5_divisor_33 ⟨Nat.zero_le _, Nat.zero_le _⟩) hS (fun di H locs hP hS => ?_)
          refine lv_aload_n hx hb dX5_divisor_36 rfl (lv_at hl 0 rfl) ?_
          refine lv_iconst (v := 5) hx hb dX5_divisor_37 (by decide) ?_
          refine lv_iload_n hx hb dX5_divisor_38 rfl (lv_at hl 2 rfl) ?_
          obtain ⟨u10, g11, hf⟩ := Option.bind_eq_some_iff.mp hf
          try dsimp only at hf
          refine ct_callx (va_runV (As := [.int 5, .int x2]) (rest := []) ⟨hx, hb, hml, hown, hts⟩ (C_X5_copy l D tys hj htI (res := u10) g11) (cwV 2 hts (gu_V mw_385 mw_386 mw_387 mw_330 mw_365) rfl rfl rfl (by decide +kernel) ⟨Nat.le_of_ble_eq_true rfl, Nat.le_of_ble_eq_true rfl⟩) (ct_preVx (w := fun di => ww 6 ad (cellR cI ad th kk mn md u8.1 u8.2 kn fc oft di)) hP hK (ci := 5) (k := 0) rfl cr_mdl) rfl rfl hl.1 rfl (lv_room (Nat.le_of_ble_eq_true rfl)) dX5_divisor_39 ⟨Nat.zero_le _, Nat.zero_le _⟩) hS (fun di H locs hP hS => ?_)
          refine lv_iinc (v := x3 + 1) (lv' := [(3, .int (x3 + 1)), (0, .ref (ad 0)), (1, .int x1), (2, .int x2)]) hx hb dX5_divisor_42 hl (k := 3) rfl rfl (by decide) rfl (fun ls hl => ?_)
          refine lv_goto (tgt := 2) hx hb dX5_divisor_45 (by decide) ?_
          exact ih (x3 + 1) u10.1 u10.2 _ _ _ _ hP hS (lv_sub hl [1, 2, 3, 0] rfl) hf
  unfold f_X5_divisor at hf
  refine lv_iconst (v := 0) hx hb dX5_divisor_0 (by decide) ?_
  refine lv_istore_n (lv' := [(3, .int 0), (0, .ref (ad 0)), (1, .int p0), (2, .int p1)]) hx hb dX5_divisor_1 rfl hl (by decide) rfl (fun ls hl => ?_)
  refine L2 p0 p1 _ (fun y12 rw13 dg14 di H locs ls hP hS hl hf => ?_) fu 0 rw dg _ _ _ _ hP hS (lv_sub hl [1, 2, 3, 0] rfl) hf
  try dsimp only at hf
  refine lv_aload_n hx hb dX5_divisor_48 rfl (lv_at hl 0 rfl) ?_
  refine lv_iload_n hx hb dX5_divisor_49 rfl (lv_at hl 1 rfl) ?_
  obtain ⟨u15, g16, hf⟩ := Option.bind_eq_some_iff.mp hf
  try dsimp only at hf
  refine ct_callx (va_runV (As := [.int p0]) (rest := []) ⟨hx, hb, hml, hown, hts⟩ (C_X5_monic l D tys hj htI (res := u15) g16) (cwV 1 hts (gu_V mw_388 mw_389 mw_390 mw_330 mw_381) rfl rfl rfl (by decide +kernel) ⟨Nat.le_of_ble_eq_true rfl, Nat.le_of_ble_eq_true rfl⟩) (ct_preVx (w := fun di => ww 6 ad (cellR cI ad th kk mn md rw13 dg14 kn fc oft di)) hP hK (ci := 5) (k := 0) rfl cr_mdl) rfl rfl hl.1 rfl (lv_room (Nat.le_of_ble_eq_true rfl)) dX5_divisor_50 ⟨Nat.zero_le _, Nat.zero_le _⟩) hS (fun di H locs hP hS => ?_)
  obtain rfl := Option.some.inj hf
  exact W.vret hx hb hr (fun t ht hW => ⟨rfl, ⟨di, by rw [ht]; exact hP⟩, hS.F ht⟩) hS.2.2 dX5_divisor_53
def f_X5_slope_l7 (k7 : Int32 → (Nat → Int32) → Option ((Nat → Int32) × (Nat → Int32))) (fu : Nat) (kk : Int32) (md : Nat → Int32) (dg : Nat → Int32) (x1 : Int32) (x2 : Int32) : Nat → Int32 → (Nat → Int32) → Option ((Nat → Int32) × (Nat → Int32))
  | 0, _, _ => none
  | n + 1, x3, rw =>
    if x1 < 0 ∨ 25 ≤ (x1).toNatClampNeg then none else
    if (dg (x1).toNatClampNeg) < x3 then
      k7 x3 rw
    else
      (f_X5_cell rw x1 x3).bind (fun u5 =>
      (f_X5_times fu kk md u5 x3).bind (fun u7 =>
      if (((16 * x2) + x3) - 1) < 0 ∨ 400 ≤ (((16 * x2) + x3) - 1).toNatClampNeg then none else
      f_X5_slope_l7 k7 fu kk md dg x1 x2 n (x3 + 1) (upd rw (((16 * x2) + x3) - 1).toNatClampNeg u7)))
def f_X5_slope (fu : Nat) (kk : Int32) (md : Nat → Int32) (rw : Nat → Int32) (dg : Nat → Int32) (p0 : Int32) (p1 : Int32) : Option ((Nat → Int32) × (Nat → Int32)) :=
  (f_X5_clear fu rw dg p1).bind (fun u1 =>
  f_X5_slope_l7 (fun y10 rw11 =>
    (f_X5_cell rw11 p1 0).bind (fun u12 =>
    (f_X5_set fu rw11 u1.2 p1 0 u12).bind (fun u14 =>
    some (u14.1, u14.2)))) fu kk md u1.2 p0 p1 fu 1 u1.1)
set_option maxHeartbeats 4000000 in
set_option maxRecDepth 100000 in
theorem C_X5_slope (l : Launch) (D : va_G) (tys : List (ClassId × FieldType)) {ad : Nat → Nat} (hj : ww_inj 6 ad) {cI : ClassId} (htI : tys[0]? = some (cI, .int)) {fu : Nat} {th : Int32} {kk : Int32} {mn : Int64} {md : Nat → Int32} {rw : Nat → Int32} {dg : Nat → Int32} {kn : Int32} {fc : Int32} {oft : Nat → Int32} {p0 : Int32} {p1 : Int32} {res : (Nat → Int32) × (Nat → Int32)} (hf : f_X5_slope fu kk md rw dg p0 p1 = some res) :
    Met l yX5_slope usX5_slope ({ frames := 2, cells := 0, slots := 0, locals := 46 }) (va_Pc [.ref (ad 0), .int p0, .int p1] (ws_Bx D tys (fun di => ww 6 ad (cellR cI ad th kk mn md rw dg kn fc oft di)))) (ct_Qx D (fun di => ww 6 ad (cellR cI ad th kk mn md res.1 res.2 kn fc oft di)) (ww_A 6 ad) (none)) 0 0 (ww_A 6 ad) := by
  refine Met.ofW (cc := cX5_slope) (maxL := 4) (ret := none) (by decide) rfl ?_
  intro p e s m args below meth c s₁ B hml hv
  obtain ⟨rfl, ⟨di, hP⟩, hK⟩ := hv
  have hx := B.exec
  have hb := B.bytes
  have hr := B.returns
  have hts := atoms_spec (ws := usX5_slope) B.pre
  have hown : s.vm.findClass RX5 = some m.cls := findClass_of_methodNamed B.named
  have hlocks := B.notSynchronized
  have hS : va_S (ww_A 6 ad) s.heap s.heap [] := va_S.rf
  have hl := lv_entry ([.ref (ad 0), .int p0, .int p1]) (n := 4) (Nat.le_of_ble_eq_true rfl)
  rw [lg_entry_eq]
  generalize (lg_sl ([.ref (ad 0), .int p0, .int p1]) ++ List.replicate (4 - (lg_sl ([.ref (ad 0), .int p0, .int p1])).length) Slot.unset).toArray = ls at hl ⊢
  have hl : lv_has ls 4 [(0, .ref (ad 0)), (1, .int p0), (2, .int p1)] := hl
  have L7 : ∀ (dg : Nat → Int32) (x1 : Int32) (x2 : Int32) (k7 : Int32 → (Nat → Int32) → Option ((Nat → Int32) × (Nat → Int32))), (∀ (x3 : Int32) (rw : Nat → Int32) (di : Nat → Int32) (H : Heap) (locs : List Loc) (ls : Array Slot), va_P D vwCl (ww 6 ad (cellR cI ad th kk mn md rw dg kn fc oft di)) H → va_S (ww_A 6 ad) s.heap H locs → lv_has ls 4 [(0, .ref (ad 0)), (1, .int x1), (2, .int x2), (3, .int x3)] →  k7 x3 rw = some res → W p l e (headSpec usX5_slope { frames := 2, cells := 0, slots := 0, locals := 46 }).room s m [.ref (ad 0), .int p0, .int p1].toArray below meth c H locs 0 0 (MQ below (ct_Qx D (fun di => ww 6 ad (cellR cI ad th kk mn md res.1 res.2 kn fc oft di)) (ww_A 6 ad) (none)) [.ref (ad 0), .int p0, .int p1].toArray s 0 0 (ww_A 6 ad)) (F0 m 47 ls [])) → ∀ (n : Nat) (x3 : Int32) (rw : Nat → Int32) (di : Nat → Int32) (H : Heap) (locs : List Loc) (ls : Array Slot), va_P D vwCl (ww 6 ad (cellR cI ad th kk mn md rw dg kn fc oft di)) H → va_S (ww_A 6 ad) s.heap H locs → lv_has ls 4 [(0, .ref (ad 0)), (1, .int x1), (2, .int x2), (3, .int x3)] →  f_X5_slope_l7 k7 fu kk md dg x1 x2 n x3 rw = some res → W p l e (headSpec usX5_slope { frames := 2, cells := 0, slots := 0, locals := 46 }).room s m [.ref (ad 0), .int p0, .int p1].toArray below meth c H locs 0 0 (MQ below (ct_Qx D (fun di => ww 6 ad (cellR cI ad th kk mn md res.1 res.2 kn fc oft di)) (ww_A 6 ad) (none)) [.ref (ad 0), .int p0, .int p1].toArray s 0 0 (ww_A 6 ad)) (F0 m 7 ls []) := by
    intro dg x1 x2 k7 hk_7 n
    induction n with
    | zero => intro x3 rw di H locs ls hP hS hl hf; rw [f_X5_slope_l7] at hf; cases hf
    | succ n ih =>
      intro x3 rw di H locs ls hP hS hl hf
      rw [f_X5_slope_l7] at hf
      refine lv_iload_n hx hb dX5_slope_7 rfl (lv_at hl 3 rfl) ?_
      refine lv_aload_n hx hb dX5_slope_8 rfl (lv_at hl 0 rfl) ?_
      refine va_get (ci := 5) (v := .ref (ad 4)) (C := RX5) (T := TX5) (N := 10) hx hb hts (fun w h => BW_in (in_wsX50 w h)) hown hK hP 0 cr_mdl rfl 6 (by decide) (hts (.fieldLink RX5 29 "NumberFieldFactorsModel" "degree" "[I") (BW_in mw_318)) (fun _ h9 => h9) rfl dX5_slope_9 ?_
      refine lv_iload_n hx hb dX5_slope_12 rfl (lv_at hl 1 rfl) ?_
      by_cases b3 : x1 < 0 ∨ 25 ≤ (x1).toNatClampNeg
      · rw [if_pos b3] at hf; cases hf
      rw [if_neg b3] at hf
      refine va_iald hx hb hK hP 4 0 cr_dg htI b3 dX5_slope_13 ?_
      refine lv_icmp_gt (tgt := 47) hx hb dX5_slope_14 (by decide) (fun c4 => ?_) (fun c4 => ?_)
      · rw [if_pos c4] at hf
        exact hk_7 x3 rw _ _ _ _ hP hS (lv_sub hl [0, 1, 2, 3] rfl) hf
      · rw [if_neg c4] at hf
        refine lv_aload_n hx hb dX5_slope_17 rfl (lv_at hl 0 rfl) ?_
        refine va_get (ci := 5) (v := .ref (ad 3)) (C := RX5) (T := TX5) (N := 10) hx hb hts (fun w h => BW_in (in_wsX50 w h)) hown hK hP 0 cr_mdl rfl 5 (by decide) (hts (.fieldLink RX5 26 "NumberFieldFactorsModel" "row" "[I") (BW_in mw_317)) (fun _ h9 => h9) rfl dX5_slope_18 ?_
        refine lv_bipush (v := 16) hx hb dX5_slope_21 (by decide) ?_
        refine lv_iload_n hx hb dX5_slope_23 rfl (lv_at hl 2 rfl) ?_
        refine lv_imul hx hb dX5_slope_24 ?_
        refine lv_iload_n hx hb dX5_slope_25 rfl (lv_at hl 3 rfl) ?_
        refine lv_iadd hx hb dX5_slope_26 ?_
        refine lv_iconst (v := 1) hx hb dX5_slope_27 (by decide) ?_
        refine lv_isub hx hb dX5_slope_28 ?_
        refine lv_aload_n hx hb dX5_slope_29 rfl (lv_at hl 0 rfl) ?_
        refine lv_aload_n hx hb dX5_slope_30 rfl (lv_at hl 0 rfl) ?_
        refine lv_iload_n hx hb dX5_slope_31 rfl (lv_at hl 1 rfl) ?_
        refine lv_iload_n hx hb dX5_slope_32 rfl (lv_at hl 3 rfl) ?_
        obtain ⟨u5, g6, hf⟩ := Option.bind_eq_some_iff.mp hf
        try dsimp only at hf
        refine ct_callx (va_runV (As := [.int x1, .int x3]) (rest := [.ref (ad 0), .int (((16 * x2) + x3) - 1), .ref (ad 3)]) ⟨hx, hb, hml, hown, hts⟩ (C_X5_cell l D tys hj htI (res := u5) g6) (cwV 2 hts (gu_V mw_369 mw_370 mw_371 mw_330 mw_367) rfl rfl rfl (by decide +kernel) ⟨Nat.le_of_ble_eq_true rfl, Nat.le_of_ble_eq_true rfl⟩) (ct_preVx (w := fun di => ww 6 ad (cellR cI ad th kk mn md rw dg kn fc oft di)) hP hK (ci := 5) (k := 0) rfl cr_mdl) rfl rfl hl.1 rfl (lv_room (Nat.le_of_ble_eq_true rfl)) dX5_slope_33 ⟨Nat.zero_le _, Nat.zero_le _⟩) hS (fun di H locs hP hS => ?_)
        refine lv_iload_n hx hb dX5_slope_36 rfl (lv_at hl 3 rfl) ?_
        obtain ⟨u7, g8, hf⟩ := Option.bind_eq_some_iff.mp hf
        try dsimp only at hf
        refine ct_callx (va_runV (As := [.int u5, .int x3]) (rest := [.int (((16 * x2) + x3) - 1), .ref (ad 3)]) ⟨hx, hb, hml, hown, hts⟩ (C_X5_times l D tys hj htI (res := u7) g8) (cwV 2 hts (gu_V mw_337 mw_338 mw_339 mw_330 mw_333) rfl rfl rfl (by decide +kernel) ⟨Nat.le_of_ble_eq_true rfl, Nat.le_of_ble_eq_true rfl⟩) (ct_preVx (w := fun di => ww 6 ad (cellR cI ad th kk mn md rw dg kn fc oft di)) hP hK (ci := 5) (k := 0) rfl cr_mdl) rfl rfl hl.1 rfl (lv_room (Nat.le_of_ble_eq_true rfl)) dX5_slope_37 ⟨Nat.zero_le _, Nat.zero_le _⟩) hS (fun di H locs hP hS => ?_)
        by_cases b9 : (((16 * x2) + x3) - 1) < 0 ∨ 400 ≤ (((16 * x2) + x3) - 1).toNatClampNeg
        · rw [if_pos b9] at hf; cases hf
        rw [if_neg b9] at hf
        refine va_iast hx hb hK hP (ww_D hj) hS 3 0 cr_rw htI b9 dX5_slope_40 (fun H locs hP hD hS => ?_)
        have hP := cs_rw hP
        refine lv_iinc (v := x3 + 1) (lv' := [(3, .int (x3 + 1)), (0, .ref (ad 0)), (1, .int x1), (2, .int x2)]) hx hb dX5_slope_41 hl (k := 3) rfl rfl (by decide) rfl (fun ls hl => ?_)
        refine lv_goto (tgt := 7) hx hb dX5_slope_44 (by decide) ?_
        exact ih (x3 + 1) (upd rw (((16 * x2) + x3) - 1).toNatClampNeg u7) _ _ _ _ hP hS (lv_sub hl [1, 2, 3, 0] rfl) hf
  unfold f_X5_slope at hf
  refine lv_aload_n hx hb dX5_slope_0 rfl (lv_at hl 0 rfl) ?_
  refine lv_iload_n hx hb dX5_slope_1 rfl (lv_at hl 2 rfl) ?_
  obtain ⟨u1, g2, hf⟩ := Option.bind_eq_some_iff.mp hf
  try dsimp only at hf
  refine ct_callx (va_runV (As := [.int p1]) (rest := []) ⟨hx, hb, hml, hown, hts⟩ (C_X5_clear l D tys hj htI (res := u1) g2) (cwV 1 hts (gu_V mw_361 mw_362 mw_363 mw_330 mw_351) rfl rfl rfl (by decide +kernel) ⟨Nat.le_of_ble_eq_true rfl, Nat.le_of_ble_eq_true rfl⟩) (ct_preVx (w := fun di => ww 6 ad (cellR cI ad th kk mn md rw dg kn fc oft di)) hP hK (ci := 5) (k := 0) rfl cr_mdl) rfl rfl hl.1 rfl (lv_room (Nat.le_of_ble_eq_true rfl)) dX5_slope_2 ⟨Nat.zero_le _, Nat.zero_le _⟩) hS (fun di H locs hP hS => ?_)
  refine lv_iconst (v := 1) hx hb dX5_slope_5 (by decide) ?_
  refine lv_istore_n (lv' := [(3, .int 1), (0, .ref (ad 0)), (1, .int p0), (2, .int p1)]) hx hb dX5_slope_6 rfl hl (by decide) rfl (fun ls hl => ?_)
  refine L7 u1.2 p0 p1 _ (fun y10 rw11 di H locs ls hP hS hl hf => ?_) fu 1 u1.1 _ _ _ _ hP hS (lv_sub hl [1, 2, 3, 0] rfl) hf
  try dsimp only at hf
  refine lv_aload_n hx hb dX5_slope_47 rfl (lv_at hl 0 rfl) ?_
  refine lv_iload_n hx hb dX5_slope_48 rfl (lv_at hl 2 rfl) ?_
  refine lv_iconst (v := 0) hx hb dX5_slope_49 (by decide) ?_
  refine lv_aload_n hx hb dX5_slope_50 rfl (lv_at hl 0 rfl) ?_
  refine lv_iload_n hx hb dX5_slope_51 rfl (lv_at hl 2 rfl) ?_
  refine lv_iconst (v := 0) hx hb dX5_slope_52 (by decide) ?_
  obtain ⟨u12, g13, hf⟩ := Option.bind_eq_some_iff.mp hf
  try dsimp only at hf
  refine ct_callx (va_runV (As := [.int p1, .int 0]) (rest := [.int 0, .int p1, .ref (ad 0)]) ⟨hx, hb, hml, hown, hts⟩ (C_X5_cell l D tys hj htI (res := u12) g13) (cwV 2 hts (gu_V mw_369 mw_370 mw_371 mw_330 mw_367) rfl rfl rfl (by decide +kernel) ⟨Nat.le_of_ble_eq_true rfl, Nat.le_of_ble_eq_true rfl⟩) (ct_preVx (w := fun di => ww 6 ad (cellR cI ad th kk mn md rw11 u1.2 kn fc oft di)) hP hK (ci := 5) (k := 0) rfl cr_mdl) rfl rfl hl.1 rfl (lv_room (Nat.le_of_ble_eq_true rfl)) dX5_slope_53 ⟨Nat.zero_le _, Nat.zero_le _⟩) hS (fun di H locs hP hS => ?_)
  obtain ⟨u14, g15, hf⟩ := Option.bind_eq_some_iff.mp hf
  try dsimp only at hf
  refine ct_callx (va_runV (As := [.int p1, .int 0, .int u12]) (rest := []) ⟨hx, hb, hml, hown, hts⟩ (C_X5_set l D tys hj htI (res := u14) g15) (cwV 3 hts (gu_V mw_377 mw_378 mw_379 mw_330 mw_366) rfl rfl rfl (by decide +kernel) ⟨Nat.le_of_ble_eq_true rfl, Nat.le_of_ble_eq_true rfl⟩) (ct_preVx (w := fun di => ww 6 ad (cellR cI ad th kk mn md rw11 u1.2 kn fc oft di)) hP hK (ci := 5) (k := 0) rfl cr_mdl) rfl rfl hl.1 rfl (lv_room (Nat.le_of_ble_eq_true rfl)) dX5_slope_56 ⟨Nat.zero_le _, Nat.zero_le _⟩) hS (fun di H locs hP hS => ?_)
  obtain rfl := Option.some.inj hf
  exact W.vret hx hb hr (fun t ht hW => ⟨rfl, ⟨di, by rw [ht]; exact hP⟩, hS.F ht⟩) hS.2.2 dX5_slope_59
def f_X5_powers_l34 (k34 : Int64 → (Nat → Int32) → (Nat → Int32) → Option ((Nat → Int32) × (Nat → Int32))) (fu : Nat) (kk : Int32) (mn : Int64) (md : Nat → Int32) (x1 : Int32) (x2 : Int64) (x4 : Int32) (x5 : Int32) : Nat → Int64 → (Nat → Int32) → (Nat → Int32) → Option ((Nat → Int32) × (Nat → Int32))
  | 0, _, _, _ => none
  | n + 1, x6, rw, dg =>
    if (lg_cmp x6 0) ≤ 0 then
      k34 x6 rw dg
    else
      ((
        if (lg_cmp (x6 &&& 1) 1) = 0 then
          (f_X5_product fu kk md rw dg x5 6 7).bind (fun u12 =>
          (f_X5_divide fu kk mn md u12.1 u12.2 7 x4 5).bind (fun u14 =>
          (f_X5_copy fu u14.1 u14.2 7 x5).bind (fun u16 =>
          some (u16.1, u16.2))))
        else
          some (rw, dg) : Option ((Nat → Int32) × (Nat → Int32)))).bind (fun w10 =>
      (f_X5_product fu kk md w10.1 w10.2 6 6 7).bind (fun u18 =>
      (f_X5_divide fu kk mn md u18.1 u18.2 7 x4 5).bind (fun u20 =>
      (f_X5_copy fu u20.1 u20.2 7 6).bind (fun u22 =>
      nm (x6 >>> ((1 : Int32).toInt64 &&& 63)) (fun v24 =>
      f_X5_powers_l34 k34 fu kk mn md x1 x2 x4 x5 n v24 u22.1 u22.2)))))
def f_X5_powers (fu : Nat) (kk : Int32) (mn : Int64) (md : Nat → Int32) (rw : Nat → Int32) (dg : Nat → Int32) (p0 : Int32) (p1 : Int64) (p2 : Int32) (p3 : Int32) : Option ((Nat → Int32) × (Nat → Int32)) :=
  (f_X5_clear fu rw dg p3).bind (fun u1 =>
  (f_X5_set fu u1.1 u1.2 p3 0 1).bind (fun u3 =>
  (f_X5_copy fu u3.1 u3.2 p0 6).bind (fun u5 =>
  (f_X5_divide fu kk mn md u5.1 u5.2 6 p2 7).bind (fun u7 =>
  f_X5_powers_l34 (fun y25 rw26 dg27 =>
    some (rw26, dg27)) fu kk mn md p0 p1 p2 p3 fu p1 u7.1 u7.2))))
set_option maxHeartbeats 4000000 in
set_option maxRecDepth 100000 in
theorem C_X5_powers (l : Launch) (D : va_G) (tys : List (ClassId × FieldType)) {ad : Nat → Nat} (hj : ww_inj 6 ad) {cI : ClassId} (htI : tys[0]? = some (cI, .int)) {fu : Nat} {th : Int32} {kk : Int32} {mn : Int64} {md : Nat → Int32} {rw : Nat → Int32} {dg : Nat → Int32} {kn : Int32} {fc : Int32} {oft : Nat → Int32} {p0 : Int32} {p1 : Int64} {p2 : Int32} {p3 : Int32} {res : (Nat → Int32) × (Nat → Int32)} (hf : f_X5_powers fu kk mn md rw dg p0 p1 p2 p3 = some res) :
    Met l yX5_powers usX5_powers ({ frames := 5, cells := 0, slots := 0, locals := 122 }) (va_Pc [.ref (ad 0), .int p0, .long p1, .int p2, .int p3] (ws_Bx D tys (fun di => ww 6 ad (cellR cI ad th kk mn md rw dg kn fc oft di)))) (ct_Qx D (fun di => ww 6 ad (cellR cI ad th kk mn md res.1 res.2 kn fc oft di)) (ww_A 6 ad) (none)) 0 0 (ww_A 6 ad) := by
  refine Met.ofW (cc := cX5_powers) (maxL := 8) (ret := none) (by decide) rfl ?_
  intro p e s m args below meth c s₁ B hml hv
  obtain ⟨rfl, ⟨di, hP⟩, hK⟩ := hv
  have hx := B.exec
  have hb := B.bytes
  have hr := B.returns
  have hts := atoms_spec (ws := usX5_powers) B.pre
  have hown : s.vm.findClass RX5 = some m.cls := findClass_of_methodNamed B.named
  have hlocks := B.notSynchronized
  have hS : va_S (ww_A 6 ad) s.heap s.heap [] := va_S.rf
  have hl := lv_entry ([.ref (ad 0), .int p0, .long p1, .int p2, .int p3]) (n := 8) (Nat.le_of_ble_eq_true rfl)
  rw [lg_entry_eq]
  generalize (lg_sl ([.ref (ad 0), .int p0, .long p1, .int p2, .int p3]) ++ List.replicate (8 - (lg_sl ([.ref (ad 0), .int p0, .long p1, .int p2, .int p3])).length) Slot.unset).toArray = ls at hl ⊢
  have hl : lv_has ls 8 [(0, .ref (ad 0)), (1, .int p0), (2, .long p1), (4, .int p2), (5, .int p3)] := hl
  have L34 : ∀ (x1 : Int32) (x2 : Int64) (x4 : Int32) (x5 : Int32) (k34 : Int64 → (Nat → Int32) → (Nat → Int32) → Option ((Nat → Int32) × (Nat → Int32))), (∀ (x6 : Int64) (rw : Nat → Int32) (dg : Nat → Int32) (di : Nat → Int32) (H : Heap) (locs : List Loc) (ls : Array Slot), va_P D vwCl (ww 6 ad (cellR cI ad th kk mn md rw dg kn fc oft di)) H → va_S (ww_A 6 ad) s.heap H locs → lv_has ls 8 [(0, .ref (ad 0)), (1, .int x1), (2, .long x2), (4, .int x4), (5, .int x5), (6, .long x6)] →  k34 x6 rw dg = some res → W p l e (headSpec usX5_powers { frames := 5, cells := 0, slots := 0, locals := 122 }).room s m [.ref (ad 0), .int p0, .long p1, .int p2, .int p3].toArray below meth c H locs 0 0 (MQ below (ct_Qx D (fun di => ww 6 ad (cellR cI ad th kk mn md res.1 res.2 kn fc oft di)) (ww_A 6 ad) (none)) [.ref (ad 0), .int p0, .long p1, .int p2, .int p3].toArray s 0 0 (ww_A 6 ad)) (F0 m 113 ls [])) → ∀ (n : Nat) (x6 : Int64) (rw : Nat → Int32) (dg : Nat → Int32) (di : Nat → Int32) (H : Heap) (locs : List Loc) (ls : Array Slot), va_P D vwCl (ww 6 ad (cellR cI ad th kk mn md rw dg kn fc oft di)) H → va_S (ww_A 6 ad) s.heap H locs → lv_has ls 8 [(0, .ref (ad 0)), (1, .int x1), (2, .long x2), (4, .int x4), (5, .int x5), (6, .long x6)] →  f_X5_powers_l34 k34 fu kk mn md x1 x2 x4 x5 n x6 rw dg = some res → W p l e (headSpec usX5_powers { frames := 5, cells := 0, slots := 0, locals := 122 }).room s m [.ref (ad 0), .int p0, .long p1, .int p2, .int p3].toArray below meth c H locs 0 0 (MQ below (ct_Qx D (fun di => ww 6 ad (cellR cI ad th kk mn md res.1 res.2 kn fc oft di)) (ww_A 6 ad) (none)) [.ref (ad 0), .int p0, .long p1, .int p2, .int p3].toArray s 0 0 (ww_A 6 ad)) (F0 m 34 ls []) := by
    intro x1 x2 x4 x5 k34 hk_34 n
    induction n with
    | zero => intro x6 rw dg di H locs ls hP hS hl hf; rw [f_X5_powers_l34] at hf; cases hf
    | succ n ih =>
      intro x6 rw dg di H locs ls hP hS hl hf
      rw [f_X5_powers_l34] at hf
      refine lv_lload hx hb dX5_powers_34 (lv_at hl 5 rfl) ?_
      refine lv_lconst (v := 0) hx hb dX5_powers_36 (by decide) ?_
      refine W.lcmp hx hb dX5_powers_37 ?_
      refine lv_if_le (tgt := 113) hx hb dX5_powers_38 (by decide) (fun c9 => ?_) (fun c9 => ?_)
      · rw [if_pos c9] at hf
        exact hk_34 x6 rw dg _ _ _ _ hP hS (lv_sub hl [0, 1, 2, 3, 4, 5] rfl) hf
      · rw [if_neg c9] at hf
        refine lv_lload hx hb dX5_powers_41 (lv_at hl 5 rfl) ?_
        refine lv_lconst (v := 1) hx hb dX5_powers_43 (by decide) ?_
        refine lv_land hx hb dX5_powers_44 ?_
        refine lv_lconst (v := 1) hx hb dX5_powers_45 (by decide) ?_
        refine W.lcmp hx hb dX5_powers_46 ?_
        obtain ⟨w10, gw10, hf⟩ := Option.bind_eq_some_iff.mp hf
        try dsimp only at hf
        have hJ77_w10 : ∀ (di : Nat → Int32) (H : Heap) (locs : List Loc) (ls : Array Slot), va_P D vwCl (ww 6 ad (cellR cI ad th kk mn md w10.1 w10.2 kn fc oft di)) H → va_S (ww_A 6 ad) s.heap H locs → lv_has ls 8 [(0, .ref (ad 0)), (1, .int x1), (2, .long x2), (4, .int x4), (5, .int x5), (6, .long x6)] → W p l e (headSpec usX5_powers { frames := 5, cells := 0, slots := 0, locals := 122 }).room s m [.ref (ad 0), .int p0, .long p1, .int p2, .int p3].toArray below meth c H locs 0 0 (MQ below (ct_Qx D (fun di => ww 6 ad (cellR cI ad th kk mn md res.1 res.2 kn fc oft di)) (ww_A 6 ad) (none)) [.ref (ad 0), .int p0, .long p1, .int p2, .int p3].toArray s 0 0 (ww_A 6 ad)) (F0 m 77 ls []) := by
          intro di H locs ls hP hS hl
          refine lv_aload_n hx hb dX5_powers_77 rfl (lv_at hl 0 rfl) ?_
          refine lv_bipush (v := 6) hx hb dX5_powers_78 (by decide) ?_
          refine lv_bipush (v := 6) hx hb dX5_powers_80 (by decide) ?_
          refine lv_bipush (v := 7) hx hb dX5_powers_82 (by decide) ?_
          obtain ⟨u18, g19, hf⟩ := Option.bind_eq_some_iff.mp hf
          try dsimp only at hf
          refine ct_callx (va_runV (As := [.int 6, .int 6, .int 7]) (rest := []) ⟨hx, hb, hml, hown, hts⟩ (C_X5_product l D tys hj htI (res := u18) g19) (cwV 3 hts (gu_V mw_393 mw_394 mw_395 mw_330 mw_368) rfl rfl rfl (by decide +kernel) ⟨Nat.le_of_ble_eq_true rfl, Nat.le_of_ble_eq_true rfl⟩) (ct_preVx (w := fun di => ww 6 ad (cellR cI ad th kk mn md w10.1 w10.2 kn fc oft di)) hP hK (ci := 5) (k := 0) rfl cr_mdl) rfl rfl hl.1 rfl (lv_room (Nat.le_of_ble_eq_true rfl)) dX5_powers_84 ⟨Nat.zero_le _, Nat.zero_le _⟩) hS (fun di H locs hP hS => ?_)
          refine lv_aload_n hx hb dX5_powers_87 rfl (lv_at hl 0 rfl) ?_
          refine lv_bipush (v := 7) hx hb dX5_powers_88 (by decide) ?_
          refine lv_iload hx hb dX5_powers_90 (lv_at hl 3 rfl) ?_
          refine lv_iconst (v := 5) hx hb dX5_powers_92 (by decide) ?_
          obtain ⟨u20, g21, hf⟩ := Option.bind_eq_some_iff.mp hf
          try dsimp only at hf
          refine ct_callx (va_runV (As := [.int 7, .int x4, .int 5]) (rest := []) ⟨hx, hb, hml, hown, hts⟩ (C_X5_divide l D tys hj htI (res := u20) g21) (cwV 3 hts (gu_V mw_382 mw_383 mw_384 mw_330 mw_380) rfl rfl rfl (by decide +kernel) ⟨Nat.le_of_ble_eq_true rfl, Nat.le_of_ble_eq_true rfl⟩) (ct_preVx (w := fun di => ww 6 ad (cellR cI ad th kk mn md u18.1 u18.2 kn fc oft di)) hP hK (ci := 5) (k := 0) rfl cr_mdl) rfl rfl hl.1 rfl (lv_room (Nat.le_of_ble_eq_true rfl)) dX5_powers_93 ⟨Nat.zero_le _, Nat.zero_le _⟩) hS (fun di H locs hP hS => ?_)
          refine lv_aload_n hx hb dX5_powers_96 rfl (lv_at hl 0 rfl) ?_
          refine lv_bipush (v := 7) hx hb dX5_powers_97 (by decide) ?_
          refine lv_bipush (v := 6) hx hb dX5_powers_99 (by decide) ?_
          obtain ⟨u22, g23, hf⟩ := Option.bind_eq_some_iff.mp hf
          try dsimp only at hf
          refine ct_callx (va_runV (As := [.int 7, .int 6]) (rest := []) ⟨hx, hb, hml, hown, hts⟩ (C_X5_copy l D tys hj htI (res := u22) g23) (cwV 2 hts (gu_V mw_385 mw_386 mw_387 mw_330 mw_365) rfl rfl rfl (by decide +kernel) ⟨Nat.le_of_ble_eq_true rfl, Nat.le_of_ble_eq_true rfl⟩) (ct_preVx (w := fun di => ww 6 ad (cellR cI ad th kk mn md u20.1 u20.2 kn fc oft di)) hP hK (ci := 5) (k := 0) rfl cr_mdl) rfl rfl hl.1 rfl (lv_room (Nat.le_of_ble_eq_true rfl)) dX5_powers_101 ⟨Nat.zero_le _, Nat.zero_le _⟩) hS (fun di H locs hP hS => ?_)
          refine lv_lload hx hb dX5_powers_104 (lv_at hl 5 rfl) ?_
          refine lv_iconst (v := 1) hx hb dX5_powers_106 (by decide) ?_
          refine lv_lshr hx hb dX5_powers_107 rfl ?_
          obtain ⟨v24, ev24, hf⟩ := nm_elim hf
          try dsimp only at hf
          refine tp_J ev24 ?_
          refine lv_lstore (lv' := [(6, .long v24), (0, .ref (ad 0)), (1, .int x1), (2, .long x2), (4, .int x4), (5, .int x5)]) hx hb dX5_powers_108 hl (by decide) rfl (fun ls hl => ?_)
          refine lv_goto (tgt := 34) hx hb dX5_powers_110 (by decide) ?_
          exact ih v24 u22.1 u22.2 _ _ _ _ hP hS (lv_sub hl [1, 2, 3, 4, 5, 0] rfl) hf
        refine lv_if_ne (tgt := 77) hx hb dX5_powers_47 (by decide) (fun c11 => ?_) (fun c11 => ?_)
        · rw [if_neg c11] at gw10
          obtain rfl := Option.some.inj gw10
          exact hJ77_w10 _ _ _ _ hP hS (lv_sub hl [0, 1, 2, 3, 4, 5] rfl)
        · rw [if_pos c11] at gw10
          refine lv_aload_n hx hb dX5_powers_50 rfl (lv_at hl 0 rfl) ?_
          refine lv_iload hx hb dX5_powers_51 (lv_at hl 4 rfl) ?_
          refine lv_bipush (v := 6) hx hb dX5_powers_53 (by decide) ?_
          refine lv_bipush (v := 7) hx hb dX5_powers_55 (by decide) ?_
          obtain ⟨u12, g13, gw10⟩ := Option.bind_eq_some_iff.mp gw10
          try dsimp only at gw10
          refine ct_callx (va_runV (As := [.int x5, .int 6, .int 7]) (rest := []) ⟨hx, hb, hml, hown, hts⟩ (C_X5_product l D tys hj htI (res := u12) g13) (cwV 3 hts (gu_V mw_393 mw_394 mw_395 mw_330 mw_368) rfl rfl rfl (by decide +kernel) ⟨Nat.le_of_ble_eq_true rfl, Nat.le_of_ble_eq_true rfl⟩) (ct_preVx (w := fun di => ww 6 ad (cellR cI ad th kk mn md rw dg kn fc oft di)) hP hK (ci := 5) (k := 0) rfl cr_mdl) rfl rfl hl.1 rfl (lv_room (Nat.le_of_ble_eq_true rfl)) dX5_powers_57 ⟨Nat.zero_le _, Nat.zero_le _⟩) hS (fun di H locs hP hS => ?_)
          refine lv_aload_n hx hb dX5_powers_60 rfl (lv_at hl 0 rfl) ?_
          refine lv_bipush (v := 7) hx hb dX5_powers_61 (by decide) ?_
          refine lv_iload hx hb dX5_powers_63 (lv_at hl 3 rfl) ?_
          refine lv_iconst (v := 5) hx hb dX5_powers_65 (by decide) ?_
          obtain ⟨u14, g15, gw10⟩ := Option.bind_eq_some_iff.mp gw10
          try dsimp only at gw10
          refine ct_callx (va_runV (As := [.int 7, .int x4, .int 5]) (rest := []) ⟨hx, hb, hml, hown, hts⟩ (C_X5_divide l D tys hj htI (res := u14) g15) (cwV 3 hts (gu_V mw_382 mw_383 mw_384 mw_330 mw_380) rfl rfl rfl (by decide +kernel) ⟨Nat.le_of_ble_eq_true rfl, Nat.le_of_ble_eq_true rfl⟩) (ct_preVx (w := fun di => ww 6 ad (cellR cI ad th kk mn md u12.1 u12.2 kn fc oft di)) hP hK (ci := 5) (k := 0) rfl cr_mdl) rfl rfl hl.1 rfl (lv_room (Nat.le_of_ble_eq_true rfl)) dX5_powers_66 ⟨Nat.zero_le _, Nat.zero_le _⟩) hS (fun di H locs hP hS => ?_)
          refine lv_aload_n hx hb dX5_powers_69 rfl (lv_at hl 0 rfl) ?_
          refine lv_bipush (v := 7) hx hb dX5_powers_70 (by decide) ?_
          refine lv_iload hx hb dX5_powers_72 (lv_at hl 4 rfl) ?_
          obtain ⟨u16, g17, gw10⟩ := Option.bind_eq_some_iff.mp gw10
          try dsimp only at gw10
          refine ct_callx (va_runV (As := [.int 7, .int x5]) (rest := []) ⟨hx, hb, hml, hown, hts⟩ (C_X5_copy l D tys hj htI (res := u16) g17) (cwV 2 hts (gu_V mw_385 mw_386 mw_387 mw_330 mw_365) rfl rfl rfl (by decide +kernel) ⟨Nat.le_of_ble_eq_true rfl, Nat.le_of_ble_eq_true rfl⟩) (ct_preVx (w := fun di => ww 6 ad (cellR cI ad th kk mn md u14.1 u14.2 kn fc oft di)) hP hK (ci := 5) (k := 0) rfl cr_mdl) rfl rfl hl.1 rfl (lv_room (Nat.le_of_ble_eq_true rfl)) dX5_powers_74 ⟨Nat.zero_le _, Nat.zero_le _⟩) hS (fun di H locs hP hS => ?_)
          obtain rfl := Option.some.inj gw10
          exact hJ77_w10 _ _ _ _ hP hS (lv_sub hl [0, 1, 2, 3, 4, 5] rfl)
  unfold f_X5_powers at hf
  refine lv_aload_n hx hb dX5_powers_0 rfl (lv_at hl 0 rfl) ?_
  refine lv_iload hx hb dX5_powers_1 (lv_at hl 4 rfl) ?_
  obtain ⟨u1, g2, hf⟩ := Option.bind_eq_some_iff.mp hf
  try dsimp only at hf
  refine ct_callx (va_runV (As := [.int p3]) (rest := []) ⟨hx, hb, hml, hown, hts⟩ (C_X5_clear l D tys hj htI (res := u1) g2) (cwV 1 hts (gu_V mw_361 mw_362 mw_363 mw_330 mw_351) rfl rfl rfl (by decide +kernel) ⟨Nat.le_of_ble_eq_true rfl, Nat.le_of_ble_eq_true rfl⟩) (ct_preVx (w := fun di => ww 6 ad (cellR cI ad th kk mn md rw dg kn fc oft di)) hP hK (ci := 5) (k := 0) rfl cr_mdl) rfl rfl hl.1 rfl (lv_room (Nat.le_of_ble_eq_true rfl)) dX5_powers_3 ⟨Nat.zero_le _, Nat.zero_le _⟩) hS (fun di H locs hP hS => ?_)
  refine lv_aload_n hx hb dX5_powers_6 rfl (lv_at hl 0 rfl) ?_
  refine lv_iload hx hb dX5_powers_7 (lv_at hl 4 rfl) ?_
  refine lv_iconst (v := 0) hx hb dX5_powers_9 (by decide) ?_
  refine lv_iconst (v := 1) hx hb dX5_powers_10 (by decide) ?_
  obtain ⟨u3, g4, hf⟩ := Option.bind_eq_some_iff.mp hf
  try dsimp only at hf
  refine ct_callx (va_runV (As := [.int p3, .int 0, .int 1]) (rest := []) ⟨hx, hb, hml, hown, hts⟩ (C_X5_set l D tys hj htI (res := u3) g4) (cwV 3 hts (gu_V mw_377 mw_378 mw_379 mw_330 mw_366) rfl rfl rfl (by decide +kernel) ⟨Nat.le_of_ble_eq_true rfl, Nat.le_of_ble_eq_true rfl⟩) (ct_preVx (w := fun di => ww 6 ad (cellR cI ad th kk mn md u1.1 u1.2 kn fc oft di)) hP hK (ci := 5) (k := 0) rfl cr_mdl) rfl rfl hl.1 rfl (lv_room (Nat.le_of_ble_eq_true rfl)) dX5_powers_11 ⟨Nat.zero_le _, Nat.zero_le _⟩) hS (fun di H locs hP hS => ?_)
  refine lv_aload_n hx hb dX5_powers_14 rfl (lv_at hl 0 rfl) ?_
  refine lv_iload_n hx hb dX5_powers_15 rfl (lv_at hl 1 rfl) ?_
  refine lv_bipush (v := 6) hx hb dX5_powers_16 (by decide) ?_
  obtain ⟨u5, g6, hf⟩ := Option.bind_eq_some_iff.mp hf
  try dsimp only at hf
  refine ct_callx (va_runV (As := [.int p0, .int 6]) (rest := []) ⟨hx, hb, hml, hown, hts⟩ (C_X5_copy l D tys hj htI (res := u5) g6) (cwV 2 hts (gu_V mw_385 mw_386 mw_387 mw_330 mw_365) rfl rfl rfl (by decide +kernel) ⟨Nat.le_of_ble_eq_true rfl, Nat.le_of_ble_eq_true rfl⟩) (ct_preVx (w := fun di => ww 6 ad (cellR cI ad th kk mn md u3.1 u3.2 kn fc oft di)) hP hK (ci := 5) (k := 0) rfl cr_mdl) rfl rfl hl.1 rfl (lv_room (Nat.le_of_ble_eq_true rfl)) dX5_powers_18 ⟨Nat.zero_le _, Nat.zero_le _⟩) hS (fun di H locs hP hS => ?_)
  refine lv_aload_n hx hb dX5_powers_21 rfl (lv_at hl 0 rfl) ?_
  refine lv_bipush (v := 6) hx hb dX5_powers_22 (by decide) ?_
  refine lv_iload hx hb dX5_powers_24 (lv_at hl 3 rfl) ?_
  refine lv_bipush (v := 7) hx hb dX5_powers_26 (by decide) ?_
  obtain ⟨u7, g8, hf⟩ := Option.bind_eq_some_iff.mp hf
  try dsimp only at hf
  refine ct_callx (va_runV (As := [.int 6, .int p2, .int 7]) (rest := []) ⟨hx, hb, hml, hown, hts⟩ (C_X5_divide l D tys hj htI (res := u7) g8) (cwV 3 hts (gu_V mw_382 mw_383 mw_384 mw_330 mw_380) rfl rfl rfl (by decide +kernel) ⟨Nat.le_of_ble_eq_true rfl, Nat.le_of_ble_eq_true rfl⟩) (ct_preVx (w := fun di => ww 6 ad (cellR cI ad th kk mn md u5.1 u5.2 kn fc oft di)) hP hK (ci := 5) (k := 0) rfl cr_mdl) rfl rfl hl.1 rfl (lv_room (Nat.le_of_ble_eq_true rfl)) dX5_powers_28 ⟨Nat.zero_le _, Nat.zero_le _⟩) hS (fun di H locs hP hS => ?_)
  refine lv_lload_n hx hb dX5_powers_31 rfl (lv_at hl 2 rfl) ?_
  refine lv_lstore (lv' := [(6, .long p1), (0, .ref (ad 0)), (1, .int p0), (2, .long p1), (4, .int p2), (5, .int p3)]) hx hb dX5_powers_32 hl (by decide) rfl (fun ls hl => ?_)
  refine L34 p0 p1 p2 p3 _ (fun y25 rw26 dg27 di H locs ls hP hS hl hf => ?_) fu p1 u7.1 u7.2 _ _ _ _ hP hS (lv_sub hl [1, 2, 3, 4, 5, 0] rfl) hf
  try dsimp only at hf
  obtain rfl := Option.some.inj hf
  exact W.vret hx hb hr (fun t ht hW => ⟨rfl, ⟨di, by rw [ht]; exact hP⟩, hS.F ht⟩) hS.2.2 dX5_powers_113
def f_X5_moved_l22 (k22 : Int32 → (Nat → Int32) → Option ((Nat → Int32) × (Nat → Int32))) (fu : Nat) (kk : Int32) (md : Nat → Int32) (dg : Nat → Int32) (x1 : Int32) (x2 : Int32) (x3 : Int32) (x4 : Int32) : Nat → Int32 → (Nat → Int32) → Option ((Nat → Int32) × (Nat → Int32))
  | 0, _, _ => none
  | n + 1, x5, rw =>
    if x5 ≤ 0 then
      k22 x5 rw
    else
      if (((16 * x3) + x5) - 1) < 0 ∨ 400 ≤ (((16 * x3) + x5) - 1).toNatClampNeg then none else
      if ((16 * x3) + x5) < 0 ∨ 400 ≤ ((16 * x3) + x5).toNatClampNeg then none else
      (f_X5_times fu kk md (rw ((16 * x3) + x5).toNatClampNeg) x2).bind (fun u9 =>
      (f_X5_add (rw (((16 * x3) + x5) - 1).toNatClampNeg) u9).bind (fun u11 =>
      if ((16 * x3) + x5) < 0 ∨ 400 ≤ ((16 * x3) + x5).toNatClampNeg then none else
      f_X5_moved_l22 k22 fu kk md dg x1 x2 x3 x4 n (x5 + (-1)) (upd rw ((16 * x3) + x5).toNatClampNeg u11)))
def f_X5_moved_l13 (k13 : Int32 → (Nat → Int32) → Option ((Nat → Int32) × (Nat → Int32))) (fu : Nat) (kk : Int32) (md : Nat → Int32) (dg : Nat → Int32) (x1 : Int32) (x2 : Int32) (x3 : Int32) : Nat → Int32 → (Nat → Int32) → Option ((Nat → Int32) × (Nat → Int32))
  | 0, _, _ => none
  | n + 1, x4, rw =>
    if x4 < 0 then
      k13 x4 rw
    else
      f_X5_moved_l22 (fun y14 rw15 =>
        if (16 * x3) < 0 ∨ 400 ≤ (16 * x3).toNatClampNeg then none else
        (f_X5_times fu kk md (rw15 (16 * x3).toNatClampNeg) x2).bind (fun u17 =>
        (f_X5_cell rw15 x1 x4).bind (fun u19 =>
        (f_X5_add u17 u19).bind (fun u21 =>
        if (16 * x3) < 0 ∨ 400 ≤ (16 * x3).toNatClampNeg then none else
        f_X5_moved_l13 k13 fu kk md dg x1 x2 x3 n (x4 + (-1)) (upd rw15 (16 * x3).toNatClampNeg u21))))) fu kk md dg x1 x2 x3 x4 fu 15 rw
def f_X5_moved (fu : Nat) (kk : Int32) (md : Nat → Int32) (rw : Nat → Int32) (dg : Nat → Int32) (p0 : Int32) (p1 : Int32) (p2 : Int32) : Option ((Nat → Int32) × (Nat → Int32)) :=
  (f_X5_clear fu rw dg p2).bind (fun u1 =>
  if p0 < 0 ∨ 25 ≤ (p0).toNatClampNeg then none else
  nm (u1.2 (p0).toNatClampNeg) (fun v4 =>
  f_X5_moved_l13 (fun y24 rw25 =>
    (f_X5_cell rw25 p2 0).bind (fun u26 =>
    (f_X5_set fu rw25 u1.2 p2 0 u26).bind (fun u28 =>
    some (u28.1, u28.2)))) fu kk md u1.2 p0 p1 p2 fu v4 u1.1))
set_option maxHeartbeats 4000000 in
set_option maxRecDepth 100000 in
theorem C_X5_moved (l : Launch) (D : va_G) (tys : List (ClassId × FieldType)) {ad : Nat → Nat} (hj : ww_inj 6 ad) {cI : ClassId} (htI : tys[0]? = some (cI, .int)) {fu : Nat} {th : Int32} {kk : Int32} {mn : Int64} {md : Nat → Int32} {rw : Nat → Int32} {dg : Nat → Int32} {kn : Int32} {fc : Int32} {oft : Nat → Int32} {p0 : Int32} {p1 : Int32} {p2 : Int32} {res : (Nat → Int32) × (Nat → Int32)} (hf : f_X5_moved fu kk md rw dg p0 p1 p2 = some res) :
    Met l yX5_moved usX5_moved ({ frames := 2, cells := 0, slots := 0, locals := 46 }) (va_Pc [.ref (ad 0), .int p0, .int p1, .int p2] (ws_Bx D tys (fun di => ww 6 ad (cellR cI ad th kk mn md rw dg kn fc oft di)))) (ct_Qx D (fun di => ww 6 ad (cellR cI ad th kk mn md res.1 res.2 kn fc oft di)) (ww_A 6 ad) (none)) 0 0 (ww_A 6 ad) := by
  refine Met.ofW (cc := cX5_moved) (maxL := 6) (ret := none) (by decide) rfl ?_
  intro p e s m args below meth c s₁ B hml hv
  obtain ⟨rfl, ⟨di, hP⟩, hK⟩ := hv
  have hx := B.exec
  have hb := B.bytes
  have hr := B.returns
  have hts := atoms_spec (ws := usX5_moved) B.pre
  have hown : s.vm.findClass RX5 = some m.cls := findClass_of_methodNamed B.named
  have hlocks := B.notSynchronized
  have hS : va_S (ww_A 6 ad) s.heap s.heap [] := va_S.rf
  have hl := lv_entry ([.ref (ad 0), .int p0, .int p1, .int p2]) (n := 6) (Nat.le_of_ble_eq_true rfl)
  rw [lg_entry_eq]
  generalize (lg_sl ([.ref (ad 0), .int p0, .int p1, .int p2]) ++ List.replicate (6 - (lg_sl ([.ref (ad 0), .int p0, .int p1, .int p2])).length) Slot.unset).toArray = ls at hl ⊢
  have hl : lv_has ls 6 [(0, .ref (ad 0)), (1, .int p0), (2, .int p1), (3, .int p2)] := hl
  have L22 : ∀ (dg : Nat → Int32) (x1 : Int32) (x2 : Int32) (x3 : Int32) (x4 : Int32) (k22 : Int32 → (Nat → Int32) → Option ((Nat → Int32) × (Nat → Int32))), (∀ (x5 : Int32) (rw : Nat → Int32) (di : Nat → Int32) (H : Heap) (locs : List Loc) (ls : Array Slot), va_P D vwCl (ww 6 ad (cellR cI ad th kk mn md rw dg kn fc oft di)) H → va_S (ww_A 6 ad) s.heap H locs → lv_has ls 6 [(0, .ref (ad 0)), (1, .int x1), (2, .int x2), (3, .int x3), (4, .int x4), (5, .int x5)] →  k22 x5 rw = some res → W p l e (headSpec usX5_moved { frames := 2, cells := 0, slots := 0, locals := 46 }).room s m [.ref (ad 0), .int p0, .int p1, .int p2].toArray below meth c H locs 0 0 (MQ below (ct_Qx D (fun di => ww 6 ad (cellR cI ad th kk mn md res.1 res.2 kn fc oft di)) (ww_A 6 ad) (none)) [.ref (ad 0), .int p0, .int p1, .int p2].toArray s 0 0 (ww_A 6 ad)) (F0 m 79 ls [])) → ∀ (n : Nat) (x5 : Int32) (rw : Nat → Int32) (di : Nat → Int32) (H : Heap) (locs : List Loc) (ls : Array Slot), va_P D vwCl (ww 6 ad (cellR cI ad th kk mn md rw dg kn fc oft di)) H → va_S (ww_A 6 ad) s.heap H locs → lv_has ls 6 [(0, .ref (ad 0)), (1, .int x1), (2, .int x2), (3, .int x3), (4, .int x4), (5, .int x5)] →  f_X5_moved_l22 k22 fu kk md dg x1 x2 x3 x4 n x5 rw = some res → W p l e (headSpec usX5_moved { frames := 2, cells := 0, slots := 0, locals := 46 }).room s m [.ref (ad 0), .int p0, .int p1, .int p2].toArray below meth c H locs 0 0 (MQ below (ct_Qx D (fun di => ww 6 ad (cellR cI ad th kk mn md res.1 res.2 kn fc oft di)) (ww_A 6 ad) (none)) [.ref (ad 0), .int p0, .int p1, .int p2].toArray s 0 0 (ww_A 6 ad)) (F0 m 22 ls []) := by
    intro dg x1 x2 x3 x4 k22 hk_22 n
    induction n with
    | zero => intro x5 rw di H locs ls hP hS hl hf; rw [f_X5_moved_l22] at hf; cases hf
    | succ n ih =>
      intro x5 rw di H locs ls hP hS hl hf
      rw [f_X5_moved_l22] at hf
      refine lv_iload hx hb dX5_moved_22 (lv_at hl 5 rfl) ?_
      refine lv_if_le (tgt := 79) hx hb dX5_moved_24 (by decide) (fun c6 => ?_) (fun c6 => ?_)
      · rw [if_pos c6] at hf
        exact hk_22 x5 rw _ _ _ _ hP hS (lv_sub hl [0, 1, 2, 3, 4, 5] rfl) hf
      · rw [if_neg c6] at hf
        refine lv_aload_n hx hb dX5_moved_27 rfl (lv_at hl 0 rfl) ?_
        refine va_get (ci := 5) (v := .ref (ad 3)) (C := RX5) (T := TX5) (N := 10) hx hb hts (fun w h => BW_in (in_wsX50 w h)) hown hK hP 0 cr_mdl rfl 5 (by decide) (hts (.fieldLink RX5 26 "NumberFieldFactorsModel" "row" "[I") (BW_in mw_317)) (fun _ h9 => h9) rfl dX5_moved_28 ?_
        refine lv_bipush (v := 16) hx hb dX5_moved_31 (by decide) ?_
        refine lv_iload_n hx hb dX5_moved_33 rfl (lv_at hl 3 rfl) ?_
        refine lv_imul hx hb dX5_moved_34 ?_
        refine lv_iload hx hb dX5_moved_35 (lv_at hl 5 rfl) ?_
        refine lv_iadd hx hb dX5_moved_37 ?_
        refine lv_aload_n hx hb dX5_moved_38 rfl (lv_at hl 0 rfl) ?_
        refine va_get (ci := 5) (v := .ref (ad 3)) (C := RX5) (T := TX5) (N := 10) hx hb hts (fun w h => BW_in (in_wsX50 w h)) hown hK hP 0 cr_mdl rfl 5 (by decide) (hts (.fieldLink RX5 26 "NumberFieldFactorsModel" "row" "[I") (BW_in mw_317)) (fun _ h9 => h9) rfl dX5_moved_39 ?_
        refine lv_bipush (v := 16) hx hb dX5_moved_42 (by decide) ?_
        refine lv_iload_n hx hb dX5_moved_44 rfl (lv_at hl 3 rfl) ?_
        refine lv_imul hx hb dX5_moved_45 ?_
        refine lv_iload hx hb dX5_moved_46 (lv_at hl 5 rfl) ?_
        refine lv_iadd hx hb dX5_moved_48 ?_
        refine lv_iconst (v := 1) hx hb dX5_moved_49 (by decide) ?_
        refine lv_isub hx hb dX5_moved_50 ?_
        by_cases b7 : (((16 * x3) + x5) - 1) < 0 ∨ 400 ≤ (((16 * x3) + x5) - 1).toNatClampNeg
        · rw [if_pos b7] at hf; cases hf
        rw [if_neg b7] at hf
        refine va_iald hx hb hK hP 3 0 cr_rw htI b7 dX5_moved_51 ?_
        refine lv_aload_n hx hb dX5_moved_52 rfl (lv_at hl 0 rfl) ?_
        refine lv_aload_n hx hb dX5_moved_53 rfl (lv_at hl 0 rfl) ?_
        refine va_get (ci := 5) (v := .ref (ad 3)) (C := RX5) (T := TX5) (N := 10) hx hb hts (fun w h => BW_in (in_wsX50 w h)) hown hK hP 0 cr_mdl rfl 5 (by decide) (hts (.fieldLink RX5 26 "NumberFieldFactorsModel" "row" "[I") (BW_in mw_317)) (fun _ h9 => h9) rfl dX5_moved_54 ?_
        refine lv_bipush (v := 16) hx hb dX5_moved_57 (by decide) ?_
        refine lv_iload_n hx hb dX5_moved_59 rfl (lv_at hl 3 rfl) ?_
        refine lv_imul hx hb dX5_moved_60 ?_
        refine lv_iload hx hb dX5_moved_61 (lv_at hl 5 rfl) ?_
        refine lv_iadd hx hb dX5_moved_63 ?_
        by_cases b8 : ((16 * x3) + x5) < 0 ∨ 400 ≤ ((16 * x3) + x5).toNatClampNeg
        · rw [if_pos b8] at hf; cases hf
        rw [if_neg b8] at hf
        refine va_iald hx hb hK hP 3 0 cr_rw htI b8 dX5_moved_64 ?_
        refine lv_iload_n hx hb dX5_moved_65 rfl (lv_at hl 2 rfl) ?_
        obtain ⟨u9, g10, hf⟩ := Option.bind_eq_some_iff.mp hf
        try dsimp only at hf
        refine ct_callx (va_runV (As := [.int (rw ((16 * x3) + x5).toNatClampNeg), .int x2]) (rest := [.int (rw (((16 * x3) + x5) - 1).toNatClampNeg), .int ((16 * x3) + x5), .ref (ad 3)]) ⟨hx, hb, hml, hown, hts⟩ (C_X5_times l D tys hj htI (res := u9) g10) (cwV 2 hts (gu_V mw_337 mw_338 mw_339 mw_330 mw_333) rfl rfl rfl (by decide +kernel) ⟨Nat.le_of_ble_eq_true rfl, Nat.le_of_ble_eq_true rfl⟩) (ct_preVx (w := fun di => ww 6 ad (cellR cI ad th kk mn md rw dg kn fc oft di)) hP hK (ci := 5) (k := 0) rfl cr_mdl) rfl rfl hl.1 rfl (lv_room (Nat.le_of_ble_eq_true rfl)) dX5_moved_66 ⟨Nat.zero_le _, Nat.zero_le _⟩) hS (fun di H locs hP hS => ?_)
        obtain ⟨u11, g12, hf⟩ := Option.bind_eq_some_iff.mp hf
        try dsimp only at hf
        refine ct_callx (va_runS (As := [.int (rw (((16 * x3) + x5) - 1).toNatClampNeg), .int u9]) (rest := [.int ((16 * x3) + x5), .ref (ad 3)]) ⟨hx, hb, hml, hown, hts⟩ (C_X5_add l D tys hj htI (res := u11) g12) (cwS 2 hts (gu_S mw_331 mw_332 mw_330 mw_325) rfl rfl rfl (by decide +kernel) ⟨Nat.le_of_ble_eq_true rfl, Nat.le_of_ble_eq_true rfl⟩) (ct_preSx (w := fun di => ww 6 ad (cellR cI ad th kk mn md rw dg kn fc oft di)) hP hK) rfl rfl hl.1 rfl (lv_room (Nat.le_of_ble_eq_true rfl)) dX5_moved_69 ⟨Nat.zero_le _, Nat.zero_le _⟩) hS (fun di H locs hP hS => ?_)
        by_cases b13 : ((16 * x3) + x5) < 0 ∨ 400 ≤ ((16 * x3) + x5).toNatClampNeg
        · rw [if_pos b13] at hf; cases hf
        rw [if_neg b13] at hf
        refine va_iast hx hb hK hP (ww_D hj) hS 3 0 cr_rw htI b13 dX5_moved_72 (fun H locs hP hD hS => ?_)
        have hP := cs_rw hP
        refine lv_iinc (v := x5 + (-1)) (lv' := [(5, .int (x5 + (-1))), (0, .ref (ad 0)), (1, .int x1), (2, .int x2), (3, .int x3), (4, .int x4)]) hx hb dX5_moved_73 hl (k := 5) rfl rfl (by decide) rfl (fun ls hl => ?_)
        refine lv_goto (tgt := 22) hx hb dX5_moved_76 (by decide) ?_
        exact ih (x5 + (-1)) (upd rw ((16 * x3) + x5).toNatClampNeg u11) _ _ _ _ hP hS (lv_sub hl [1, 2, 3, 4, 5, 0] rfl) hf
  have L13 : ∀ (dg : Nat → Int32) (x1 : Int32) (x2 : Int32) (x3 : Int32) (k13 : Int32 → (Nat → Int32) → Option ((Nat → Int32) × (Nat → Int32))), (∀ (x4 : Int32) (rw : Nat → Int32) (di : Nat → Int32) (H : Heap) (locs : List Loc) (ls : Array Slot), va_P D vwCl (ww 6 ad (cellR cI ad th kk mn md rw dg kn fc oft di)) H → va_S (ww_A 6 ad) s.heap H locs → lv_has ls 6 [(0, .ref (ad 0)), (1, .int x1), (2, .int x2), (3, .int x3), (4, .int x4)] →  k13 x4 rw = some res → W p l e (headSpec usX5_moved { frames := 2, cells := 0, slots := 0, locals := 46 }).room s m [.ref (ad 0), .int p0, .int p1, .int p2].toArray below meth c H locs 0 0 (MQ below (ct_Qx D (fun di => ww 6 ad (cellR cI ad th kk mn md res.1 res.2 kn fc oft di)) (ww_A 6 ad) (none)) [.ref (ad 0), .int p0, .int p1, .int p2].toArray s 0 0 (ww_A 6 ad)) (F0 m 118 ls [])) → ∀ (n : Nat) (x4 : Int32) (rw : Nat → Int32) (di : Nat → Int32) (H : Heap) (locs : List Loc) (ls : Array Slot), va_P D vwCl (ww 6 ad (cellR cI ad th kk mn md rw dg kn fc oft di)) H → va_S (ww_A 6 ad) s.heap H locs → lv_has ls 6 [(0, .ref (ad 0)), (1, .int x1), (2, .int x2), (3, .int x3), (4, .int x4)] →  f_X5_moved_l13 k13 fu kk md dg x1 x2 x3 n x4 rw = some res → W p l e (headSpec usX5_moved { frames := 2, cells := 0, slots := 0, locals := 46 }).room s m [.ref (ad 0), .int p0, .int p1, .int p2].toArray below meth c H locs 0 0 (MQ below (ct_Qx D (fun di => ww 6 ad (cellR cI ad th kk mn md res.1 res.2 kn fc oft di)) (ww_A 6 ad) (none)) [.ref (ad 0), .int p0, .int p1, .int p2].toArray s 0 0 (ww_A 6 ad)) (F0 m 13 ls []) := by
    intro dg x1 x2 x3 k13 hk_13 n
    induction n with
    | zero => intro x4 rw di H locs ls hP hS hl hf; rw [f_X5_moved_l13] at hf; cases hf
    | succ n ih =>
      intro x4 rw di H locs ls hP hS hl hf
      rw [f_X5_moved_l13] at hf
      refine lv_iload hx hb dX5_moved_13 (lv_at hl 4 rfl) ?_
      refine lv_if_lt (tgt := 118) hx hb dX5_moved_15 (by decide) (fun c5 => ?_) (fun c5 => ?_)
      · rw [if_pos c5] at hf
        exact hk_13 x4 rw _ _ _ _ hP hS (lv_sub hl [0, 1, 2, 3, 4] rfl) hf
      · rw [if_neg c5] at hf
        refine lv_bipush (v := 15) hx hb dX5_moved_18 (by decide) ?_
        refine lv_istore (lv' := [(5, .int 15), (0, .ref (ad 0)), (1, .int x1), (2, .int x2), (3, .int x3), (4, .int x4)]) hx hb dX5_moved_20 hl (by decide) rfl (fun ls hl => ?_)
        refine L22 dg x1 x2 x3 x4 _ (fun y14 rw15 di H locs ls hP hS hl hf => ?_) fu 15 rw _ _ _ _ hP hS (lv_sub hl [1, 2, 3, 4, 5, 0] rfl) hf
        try dsimp only at hf
        refine lv_aload_n hx hb dX5_moved_79 rfl (lv_at hl 0 rfl) ?_
        refine va_get (ci := 5) (v := .ref (ad 3)) (C := RX5) (T := TX5) (N := 10) hx hb hts (fun w h => BW_in (in_wsX50 w h)) hown hK hP 0 cr_mdl rfl 5 (by decide) (hts (.fieldLink RX5 26 "NumberFieldFactorsModel" "row" "[I") (BW_in mw_317)) (fun _ h9 => h9) rfl dX5_moved_80 ?_
        refine lv_bipush (v := 16) hx hb dX5_moved_83 (by decide) ?_
        refine lv_iload_n hx hb dX5_moved_85 rfl (lv_at hl 3 rfl) ?_
        refine lv_imul hx hb dX5_moved_86 ?_
        refine lv_aload_n hx hb dX5_moved_87 rfl (lv_at hl 0 rfl) ?_
        refine lv_aload_n hx hb dX5_moved_88 rfl (lv_at hl 0 rfl) ?_
        refine va_get (ci := 5) (v := .ref (ad 3)) (C := RX5) (T := TX5) (N := 10) hx hb hts (fun w h => BW_in (in_wsX50 w h)) hown hK hP 0 cr_mdl rfl 5 (by decide) (hts (.fieldLink RX5 26 "NumberFieldFactorsModel" "row" "[I") (BW_in mw_317)) (fun _ h9 => h9) rfl dX5_moved_89 ?_
        refine lv_bipush (v := 16) hx hb dX5_moved_92 (by decide) ?_
        refine lv_iload_n hx hb dX5_moved_94 rfl (lv_at hl 3 rfl) ?_
        refine lv_imul hx hb dX5_moved_95 ?_
        by_cases b16 : (16 * x3) < 0 ∨ 400 ≤ (16 * x3).toNatClampNeg
        · rw [if_pos b16] at hf; cases hf
        rw [if_neg b16] at hf
        refine va_iald hx hb hK hP 3 0 cr_rw htI b16 dX5_moved_96 ?_
        refine lv_iload_n hx hb dX5_moved_97 rfl (lv_at hl 2 rfl) ?_
        obtain ⟨u17, g18, hf⟩ := Option.bind_eq_some_iff.mp hf
        try dsimp only at hf
        refine ct_callx (va_runV (As := [.int (rw15 (16 * x3).toNatClampNeg), .int x2]) (rest := [.int (16 * x3), .ref (ad 3)]) ⟨hx, hb, hml, hown, hts⟩ (C_X5_times l D tys hj htI (res := u17) g18) (cwV 2 hts (gu_V mw_337 mw_338 mw_339 mw_330 mw_333) rfl rfl rfl (by decide +kernel) ⟨Nat.le_of_ble_eq_true rfl, Nat.le_of_ble_eq_true rfl⟩) (ct_preVx (w := fun di => ww 6 ad (cellR cI ad th kk mn md rw15 dg kn fc oft di)) hP hK (ci := 5) (k := 0) rfl cr_mdl) rfl rfl hl.1 rfl (lv_room (Nat.le_of_ble_eq_true rfl)) dX5_moved_98 ⟨Nat.zero_le _, Nat.zero_le _⟩) hS (fun di H locs hP hS => ?_)
        refine lv_aload_n hx hb dX5_moved_101 rfl (lv_at hl 0 rfl) ?_
        refine lv_iload_n hx hb dX5_moved_102 rfl (lv_at hl 1 rfl) ?_
        refine lv_iload hx hb dX5_moved_103 (lv_at hl 4 rfl) ?_
        obtain ⟨u19, g20, hf⟩ := Option.bind_eq_some_iff.mp hf
        try dsimp only at hf
        refine ct_callx (va_runV (As := [.int x1, .int x4]) (rest := [.int u17, .int (16 * x3), .ref (ad 3)]) ⟨hx, hb, hml, hown, hts⟩ (C_X5_cell l D tys hj htI (res := u19) g20) (cwV 2 hts (gu_V mw_369 mw_370 mw_371 mw_330 mw_367) rfl rfl rfl (by decide +kernel) ⟨Nat.le_of_ble_eq_true rfl, Nat.le_of_ble_eq_true rfl⟩) (ct_preVx (w := fun di => ww 6 ad (cellR cI ad th kk mn md rw15 dg kn fc oft di)) hP hK (ci := 5) (k := 0) rfl cr_mdl) rfl rfl hl.1 rfl (lv_room (Nat.le_of_ble_eq_true rfl)) dX5_moved_105 ⟨Nat.zero_le _, Nat.zero_le _⟩) hS (fun di H locs hP hS => ?_)
        obtain ⟨u21, g22, hf⟩ := Option.bind_eq_some_iff.mp hf
        try dsimp only at hf
        refine ct_callx (va_runS (As := [.int u17, .int u19]) (rest := [.int (16 * x3), .ref (ad 3)]) ⟨hx, hb, hml, hown, hts⟩ (C_X5_add l D tys hj htI (res := u21) g22) (cwS 2 hts (gu_S mw_331 mw_332 mw_330 mw_325) rfl rfl rfl (by decide +kernel) ⟨Nat.le_of_ble_eq_true rfl, Nat.le_of_ble_eq_true rfl⟩) (ct_preSx (w := fun di => ww 6 ad (cellR cI ad th kk mn md rw15 dg kn fc oft di)) hP hK) rfl rfl hl.1 rfl (lv_room (Nat.le_of_ble_eq_true rfl)) dX5_moved_108 ⟨Nat.zero_le _, Nat.zero_le _⟩) hS (fun di H locs hP hS => ?_)
        by_cases b23 : (16 * x3) < 0 ∨ 400 ≤ (16 * x3).toNatClampNeg
        · rw [if_pos b23] at hf; cases hf
        rw [if_neg b23] at hf
        refine va_iast hx hb hK hP (ww_D hj) hS 3 0 cr_rw htI b23 dX5_moved_111 (fun H locs hP hD hS => ?_)
        have hP := cs_rw hP
        refine lv_iinc (v := x4 + (-1)) (lv' := [(4, .int (x4 + (-1))), (0, .ref (ad 0)), (1, .int x1), (2, .int x2), (3, .int x3), (5, .int y14)]) hx hb dX5_moved_112 hl (k := 4) rfl rfl (by decide) rfl (fun ls hl => ?_)
        refine lv_goto (tgt := 13) hx hb dX5_moved_115 (by decide) ?_
        exact ih (x4 + (-1)) (upd rw15 (16 * x3).toNatClampNeg u21) _ _ _ _ hP hS (lv_sub hl [1, 2, 3, 4, 0] rfl) hf
  unfold f_X5_moved at hf
  refine lv_aload_n hx hb dX5_moved_0 rfl (lv_at hl 0 rfl) ?_
  refine lv_iload_n hx hb dX5_moved_1 rfl (lv_at hl 3 rfl) ?_
  obtain ⟨u1, g2, hf⟩ := Option.bind_eq_some_iff.mp hf
  try dsimp only at hf
  refine ct_callx (va_runV (As := [.int p2]) (rest := []) ⟨hx, hb, hml, hown, hts⟩ (C_X5_clear l D tys hj htI (res := u1) g2) (cwV 1 hts (gu_V mw_361 mw_362 mw_363 mw_330 mw_351) rfl rfl rfl (by decide +kernel) ⟨Nat.le_of_ble_eq_true rfl, Nat.le_of_ble_eq_true rfl⟩) (ct_preVx (w := fun di => ww 6 ad (cellR cI ad th kk mn md rw dg kn fc oft di)) hP hK (ci := 5) (k := 0) rfl cr_mdl) rfl rfl hl.1 rfl (lv_room (Nat.le_of_ble_eq_true rfl)) dX5_moved_2 ⟨Nat.zero_le _, Nat.zero_le _⟩) hS (fun di H locs hP hS => ?_)
  refine lv_aload_n hx hb dX5_moved_5 rfl (lv_at hl 0 rfl) ?_
  refine va_get (ci := 5) (v := .ref (ad 4)) (C := RX5) (T := TX5) (N := 10) hx hb hts (fun w h => BW_in (in_wsX50 w h)) hown hK hP 0 cr_mdl rfl 6 (by decide) (hts (.fieldLink RX5 29 "NumberFieldFactorsModel" "degree" "[I") (BW_in mw_318)) (fun _ h9 => h9) rfl dX5_moved_6 ?_
  refine lv_iload_n hx hb dX5_moved_9 rfl (lv_at hl 1 rfl) ?_
  by_cases b3 : p0 < 0 ∨ 25 ≤ (p0).toNatClampNeg
  · rw [if_pos b3] at hf; cases hf
  rw [if_neg b3] at hf
  refine va_iald hx hb hK hP 4 0 cr_dg htI b3 dX5_moved_10 ?_
  obtain ⟨v4, ev4, hf⟩ := nm_elim hf
  try dsimp only at hf
  refine tp_I ev4 ?_
  refine lv_istore (lv' := [(4, .int v4), (0, .ref (ad 0)), (1, .int p0), (2, .int p1), (3, .int p2)]) hx hb dX5_moved_11 hl (by decide) rfl (fun ls hl => ?_)
  refine L13 u1.2 p0 p1 p2 _ (fun y24 rw25 di H locs ls hP hS hl hf => ?_) fu v4 u1.1 _ _ _ _ hP hS (lv_sub hl [1, 2, 3, 4, 0] rfl) hf
  try dsimp only at hf
  refine lv_aload_n hx hb dX5_moved_118 rfl (lv_at hl 0 rfl) ?_
  refine lv_iload_n hx hb dX5_moved_119 rfl (lv_at hl 3 rfl) ?_
  refine lv_iconst (v := 0) hx hb dX5_moved_120 (by decide) ?_
  refine lv_aload_n hx hb dX5_moved_121 rfl (lv_at hl 0 rfl) ?_
  refine lv_iload_n hx hb dX5_moved_122 rfl (lv_at hl 3 rfl) ?_
  refine lv_iconst (v := 0) hx hb dX5_moved_123 (by decide) ?_
  obtain ⟨u26, g27, hf⟩ := Option.bind_eq_some_iff.mp hf
  try dsimp only at hf
  refine ct_callx (va_runV (As := [.int p2, .int 0]) (rest := [.int 0, .int p2, .ref (ad 0)]) ⟨hx, hb, hml, hown, hts⟩ (C_X5_cell l D tys hj htI (res := u26) g27) (cwV 2 hts (gu_V mw_369 mw_370 mw_371 mw_330 mw_367) rfl rfl rfl (by decide +kernel) ⟨Nat.le_of_ble_eq_true rfl, Nat.le_of_ble_eq_true rfl⟩) (ct_preVx (w := fun di => ww 6 ad (cellR cI ad th kk mn md rw25 u1.2 kn fc oft di)) hP hK (ci := 5) (k := 0) rfl cr_mdl) rfl rfl hl.1 rfl (lv_room (Nat.le_of_ble_eq_true rfl)) dX5_moved_124 ⟨Nat.zero_le _, Nat.zero_le _⟩) hS (fun di H locs hP hS => ?_)
  obtain ⟨u28, g29, hf⟩ := Option.bind_eq_some_iff.mp hf
  try dsimp only at hf
  refine ct_callx (va_runV (As := [.int p2, .int 0, .int u26]) (rest := []) ⟨hx, hb, hml, hown, hts⟩ (C_X5_set l D tys hj htI (res := u28) g29) (cwV 3 hts (gu_V mw_377 mw_378 mw_379 mw_330 mw_366) rfl rfl rfl (by decide +kernel) ⟨Nat.le_of_ble_eq_true rfl, Nat.le_of_ble_eq_true rfl⟩) (ct_preVx (w := fun di => ww 6 ad (cellR cI ad th kk mn md rw25 u1.2 kn fc oft di)) hP hK (ci := 5) (k := 0) rfl cr_mdl) rfl rfl hl.1 rfl (lv_room (Nat.le_of_ble_eq_true rfl)) dX5_moved_127 ⟨Nat.zero_le _, Nat.zero_le _⟩) hS (fun di H locs hP hS => ?_)
  obtain rfl := Option.some.inj hf
  exact W.vret hx hb hr (fun t ht hW => ⟨rfl, ⟨di, by rw [ht]; exact hP⟩, hS.F ht⟩) hS.2.2 dX5_moved_130
def f_X5_normOf_l25 (k25 : Int32 → (Nat → Int32) → Option ((Nat → Int32) × (Nat → Int32))) (fu : Nat) (kk : Int32) (md : Nat → Int32) (dg : Nat → Int32) (x1 : Int32) (x2 : Int32) (x3 : Int32) : Nat → Int32 → (Nat → Int32) → Option ((Nat → Int32) × (Nat → Int32))
  | 0, _, _ => none
  | n + 1, x4, rw =>
    if (2 : Int32) < 0 ∨ 25 ≤ (2 : Int32).toNatClampNeg then none else
    if (dg (2 : Int32).toNatClampNeg) < x4 then
      k25 x4 rw
    else
      (f_X5_cell rw 2 x4).bind (fun u8 =>
      (f_X5_mate fu kk md u8 1).bind (fun u10 =>
      if (32 + x4) < 0 ∨ 400 ≤ (32 + x4).toNatClampNeg then none else
      f_X5_normOf_l25 k25 fu kk md dg x1 x2 x3 n (x4 + 1) (upd rw (32 + x4).toNatClampNeg u10)))
def f_X5_normOf_l14 (k14 : Int32 → (Nat → Int32) → (Nat → Int32) → Option ((Nat → Int32) × (Nat → Int32))) (fu : Nat) (kk : Int32) (md : Nat → Int32) (x1 : Int32) (x2 : Int32) : Nat → Int32 → (Nat → Int32) → (Nat → Int32) → Option ((Nat → Int32) × (Nat → Int32))
  | 0, _, _, _ => none
  | n + 1, x3, rw, dg =>
    if kk ≤ x3 then
      k14 x3 rw dg
    else
      f_X5_normOf_l25 (fun y13 rw14 =>
        (f_X5_product fu kk md rw14 dg 2 3 4).bind (fun u15 =>
        (f_X5_copy fu u15.1 u15.2 4 3).bind (fun u17 =>
        f_X5_normOf_l14 k14 fu kk md x1 x2 n (x3 + 1) u17.1 u17.2))) fu kk md dg x1 x2 x3 fu 0 rw
def f_X5_normOf (fu : Nat) (kk : Int32) (md : Nat → Int32) (rw : Nat → Int32) (dg : Nat → Int32) (p0 : Int32) (p1 : Int32) : Option ((Nat → Int32) × (Nat → Int32)) :=
  (f_X5_copy fu rw dg p0 3).bind (fun u1 =>
  (f_X5_copy fu u1.1 u1.2 p0 2).bind (fun u3 =>
  f_X5_normOf_l14 (fun y19 rw20 dg21 =>
    (f_X5_copy fu rw20 dg21 3 p1).bind (fun u22 =>
    some (u22.1, u22.2))) fu kk md p0 p1 fu 1 u3.1 u3.2))
set_option maxHeartbeats 4000000 in
set_option maxRecDepth 100000 in
theorem C_X5_normOf (l : Launch) (D : va_G) (tys : List (ClassId × FieldType)) {ad : Nat → Nat} (hj : ww_inj 6 ad) {cI : ClassId} (htI : tys[0]? = some (cI, .int)) {fu : Nat} {th : Int32} {kk : Int32} {mn : Int64} {md : Nat → Int32} {rw : Nat → Int32} {dg : Nat → Int32} {kn : Int32} {fc : Int32} {oft : Nat → Int32} {p0 : Int32} {p1 : Int32} {res : (Nat → Int32) × (Nat → Int32)} (hf : f_X5_normOf fu kk md rw dg p0 p1 = some res) :
    Met l yX5_normOf usX5_normOf ({ frames := 4, cells := 0, slots := 0, locals := 97 }) (va_Pc [.ref (ad 0), .int p0, .int p1] (ws_Bx D tys (fun di => ww 6 ad (cellR cI ad th kk mn md rw dg kn fc oft di)))) (ct_Qx D (fun di => ww 6 ad (cellR cI ad th kk mn md res.1 res.2 kn fc oft di)) (ww_A 6 ad) (none)) 0 0 (ww_A 6 ad) := by
  refine Met.ofW (cc := cX5_normOf) (maxL := 5) (ret := none) (by decide) rfl ?_
  intro p e s m args below meth c s₁ B hml hv
  obtain ⟨rfl, ⟨di, hP⟩, hK⟩ := hv
  have hx := B.exec
  have hb := B.bytes
  have hr := B.returns
  have hts := atoms_spec (ws := usX5_normOf) B.pre
  have hown : s.vm.findClass RX5 = some m.cls := findClass_of_methodNamed B.named
  have hlocks := B.notSynchronized
  have hS : va_S (ww_A 6 ad) s.heap s.heap [] := va_S.rf
  have hl := lv_entry ([.ref (ad 0), .int p0, .int p1]) (n := 5) (Nat.le_of_ble_eq_true rfl)
  rw [lg_entry_eq]
  generalize (lg_sl ([.ref (ad 0), .int p0, .int p1]) ++ List.replicate (5 - (lg_sl ([.ref (ad 0), .int p0, .int p1])).length) Slot.unset).toArray = ls at hl ⊢
  have hl : lv_has ls 5 [(0, .ref (ad 0)), (1, .int p0), (2, .int p1)] := hl
  have L25 : ∀ (dg : Nat → Int32) (x1 : Int32) (x2 : Int32) (x3 : Int32) (k25 : Int32 → (Nat → Int32) → Option ((Nat → Int32) × (Nat → Int32))), (∀ (x4 : Int32) (rw : Nat → Int32) (di : Nat → Int32) (H : Heap) (locs : List Loc) (ls : Array Slot), va_P D vwCl (ww 6 ad (cellR cI ad th kk mn md rw dg kn fc oft di)) H → va_S (ww_A 6 ad) s.heap H locs → lv_has ls 5 [(0, .ref (ad 0)), (1, .int x1), (2, .int x2), (3, .int x3), (4, .int x4)] →  k25 x4 rw = some res → W p l e (headSpec usX5_normOf { frames := 4, cells := 0, slots := 0, locals := 97 }).room s m [.ref (ad 0), .int p0, .int p1].toArray below meth c H locs 0 0 (MQ below (ct_Qx D (fun di => ww 6 ad (cellR cI ad th kk mn md res.1 res.2 kn fc oft di)) (ww_A 6 ad) (none)) [.ref (ad 0), .int p0, .int p1].toArray s 0 0 (ww_A 6 ad)) (F0 m 64 ls [])) → ∀ (n : Nat) (x4 : Int32) (rw : Nat → Int32) (di : Nat → Int32) (H : Heap) (locs : List Loc) (ls : Array Slot), va_P D vwCl (ww 6 ad (cellR cI ad th kk mn md rw dg kn fc oft di)) H → va_S (ww_A 6 ad) s.heap H locs → lv_has ls 5 [(0, .ref (ad 0)), (1, .int x1), (2, .int x2), (3, .int x3), (4, .int x4)] →  f_X5_normOf_l25 k25 fu kk md dg x1 x2 x3 n x4 rw = some res → W p l e (headSpec usX5_normOf { frames := 4, cells := 0, slots := 0, locals := 97 }).room s m [.ref (ad 0), .int p0, .int p1].toArray below meth c H locs 0 0 (MQ below (ct_Qx D (fun di => ww 6 ad (cellR cI ad th kk mn md res.1 res.2 kn fc oft di)) (ww_A 6 ad) (none)) [.ref (ad 0), .int p0, .int p1].toArray s 0 0 (ww_A 6 ad)) (F0 m 25 ls []) := by
    intro dg x1 x2 x3 k25 hk_25 n
    induction n with
    | zero => intro x4 rw di H locs ls hP hS hl hf; rw [f_X5_normOf_l25] at hf; cases hf
    | succ n ih =>
      intro x4 rw di H locs ls hP hS hl hf
      rw [f_X5_normOf_l25] at hf
      refine lv_iload hx hb dX5_normOf_25 (lv_at hl 4 rfl) ?_
      refine lv_aload_n hx hb dX5_normOf_27 rfl (lv_at hl 0 rfl) ?_
      refine va_get (ci := 5) (v := .ref (ad 4)) (C := RX5) (T := TX5) (N := 10) hx hb hts (fun w h => BW_in (in_wsX50 w h)) hown hK hP 0 cr_mdl rfl 6 (by decide) (hts (.fieldLink RX5 29 "NumberFieldFactorsModel" "degree" "[I") (BW_in mw_318)) (fun _ h9 => h9) rfl dX5_normOf_28 ?_
      refine lv_iconst (v := 2) hx hb dX5_normOf_31 (by decide) ?_
      by_cases b6 : (2 : Int32) < 0 ∨ 25 ≤ (2 : Int32).toNatClampNeg
      · rw [if_pos b6] at hf; cases hf
      rw [if_neg b6] at hf
      refine va_iald hx hb hK hP 4 0 cr_dg htI b6 dX5_normOf_32 ?_
      refine lv_icmp_gt (tgt := 64) hx hb dX5_normOf_33 (by decide) (fun c7 => ?_) (fun c7 => ?_)
      · rw [if_pos c7] at hf
        exact hk_25 x4 rw _ _ _ _ hP hS (lv_sub hl [0, 1, 2, 3, 4] rfl) hf
      · rw [if_neg c7] at hf
        refine lv_aload_n hx hb dX5_normOf_36 rfl (lv_at hl 0 rfl) ?_
        refine va_get (ci := 5) (v := .ref (ad 3)) (C := RX5) (T := TX5) (N := 10) hx hb hts (fun w h => BW_in (in_wsX50 w h)) hown hK hP 0 cr_mdl rfl 5 (by decide) (hts (.fieldLink RX5 26 "NumberFieldFactorsModel" "row" "[I") (BW_in mw_317)) (fun _ h9 => h9) rfl dX5_normOf_37 ?_
        refine lv_bipush (v := 32) hx hb dX5_normOf_40 (by decide) ?_
        refine lv_iload hx hb dX5_normOf_42 (lv_at hl 4 rfl) ?_
        refine lv_iadd hx hb dX5_normOf_44 ?_
        refine lv_aload_n hx hb dX5_normOf_45 rfl (lv_at hl 0 rfl) ?_
        refine lv_aload_n hx hb dX5_normOf_46 rfl (lv_at hl 0 rfl) ?_
        refine lv_iconst (v := 2) hx hb dX5_normOf_47 (by decide) ?_
        refine lv_iload hx hb dX5_normOf_48 (lv_at hl 4 rfl) ?_
        obtain ⟨u8, g9, hf⟩ := Option.bind_eq_some_iff.mp hf
        try dsimp only at hf
        refine ct_callx (va_runV (As := [.int 2, .int x4]) (rest := [.ref (ad 0), .int (32 + x4), .ref (ad 3)]) ⟨hx, hb, hml, hown, hts⟩ (C_X5_cell l D tys hj htI (res := u8) g9) (cwV 2 hts (gu_V mw_369 mw_370 mw_371 mw_330 mw_367) rfl rfl rfl (by decide +kernel) ⟨Nat.le_of_ble_eq_true rfl, Nat.le_of_ble_eq_true rfl⟩) (ct_preVx (w := fun di => ww 6 ad (cellR cI ad th kk mn md rw dg kn fc oft di)) hP hK (ci := 5) (k := 0) rfl cr_mdl) rfl rfl hl.1 rfl (lv_room (Nat.le_of_ble_eq_true rfl)) dX5_normOf_50 ⟨Nat.zero_le _, Nat.zero_le _⟩) hS (fun di H locs hP hS => ?_)
        refine lv_iconst (v := 1) hx hb dX5_normOf_53 (by decide) ?_
        obtain ⟨u10, g11, hf⟩ := Option.bind_eq_some_iff.mp hf
        try dsimp only at hf
        refine ct_callx (va_runV (As := [.int u8, .int 1]) (rest := [.int (32 + x4), .ref (ad 3)]) ⟨hx, hb, hml, hown, hts⟩ (C_X5_mate l D tys hj htI (res := u10) g11) (cwV 2 hts (gu_V mw_347 mw_348 mw_349 mw_330 mw_345) rfl rfl rfl (by decide +kernel) ⟨Nat.le_of_ble_eq_true rfl, Nat.le_of_ble_eq_true rfl⟩) (ct_preVx (w := fun di => ww 6 ad (cellR cI ad th kk mn md rw dg kn fc oft di)) hP hK (ci := 5) (k := 0) rfl cr_mdl) rfl rfl hl.1 rfl (lv_room (Nat.le_of_ble_eq_true rfl)) dX5_normOf_54 ⟨Nat.zero_le _, Nat.zero_le _⟩) hS (fun di H locs hP hS => ?_)
        by_cases b12 : (32 + x4) < 0 ∨ 400 ≤ (32 + x4).toNatClampNeg
        · rw [if_pos b12] at hf; cases hf
        rw [if_neg b12] at hf
        refine va_iast hx hb hK hP (ww_D hj) hS 3 0 cr_rw htI b12 dX5_normOf_57 (fun H locs hP hD hS => ?_)
        have hP := cs_rw hP
        refine lv_iinc (v := x4 + 1) (lv' := [(4, .int (x4 + 1)), (0, .ref (ad 0)), (1, .int x1), (2, .int x2), (3, .int x3)]) hx hb dX5_normOf_58 hl (k := 4) rfl rfl (by decide) rfl (fun ls hl => ?_)
        refine lv_goto (tgt := 25) hx hb dX5_normOf_61 (by decide) ?_
        exact ih (x4 + 1) (upd rw (32 + x4).toNatClampNeg u10) _ _ _ _ hP hS (lv_sub hl [1, 2, 3, 4, 0] rfl) hf
  have L14 : ∀ (x1 : Int32) (x2 : Int32) (k14 : Int32 → (Nat → Int32) → (Nat → Int32) → Option ((Nat → Int32) × (Nat → Int32))), (∀ (x3 : Int32) (rw : Nat → Int32) (dg : Nat → Int32) (di : Nat → Int32) (H : Heap) (locs : List Loc) (ls : Array Slot), va_P D vwCl (ww 6 ad (cellR cI ad th kk mn md rw dg kn fc oft di)) H → va_S (ww_A 6 ad) s.heap H locs → lv_has ls 5 [(0, .ref (ad 0)), (1, .int x1), (2, .int x2), (3, .int x3)] →  k14 x3 rw dg = some res → W p l e (headSpec usX5_normOf { frames := 4, cells := 0, slots := 0, locals := 97 }).room s m [.ref (ad 0), .int p0, .int p1].toArray below meth c H locs 0 0 (MQ below (ct_Qx D (fun di => ww 6 ad (cellR cI ad th kk mn md res.1 res.2 kn fc oft di)) (ww_A 6 ad) (none)) [.ref (ad 0), .int p0, .int p1].toArray s 0 0 (ww_A 6 ad)) (F0 m 83 ls [])) → ∀ (n : Nat) (x3 : Int32) (rw : Nat → Int32) (dg : Nat → Int32) (di : Nat → Int32) (H : Heap) (locs : List Loc) (ls : Array Slot), va_P D vwCl (ww 6 ad (cellR cI ad th kk mn md rw dg kn fc oft di)) H → va_S (ww_A 6 ad) s.heap H locs → lv_has ls 5 [(0, .ref (ad 0)), (1, .int x1), (2, .int x2), (3, .int x3)] →  f_X5_normOf_l14 k14 fu kk md x1 x2 n x3 rw dg = some res → W p l e (headSpec usX5_normOf { frames := 4, cells := 0, slots := 0, locals := 97 }).room s m [.ref (ad 0), .int p0, .int p1].toArray below meth c H locs 0 0 (MQ below (ct_Qx D (fun di => ww 6 ad (cellR cI ad th kk mn md res.1 res.2 kn fc oft di)) (ww_A 6 ad) (none)) [.ref (ad 0), .int p0, .int p1].toArray s 0 0 (ww_A 6 ad)) (F0 m 14 ls []) := by
    intro x1 x2 k14 hk_14 n
    induction n with
    | zero => intro x3 rw dg di H locs ls hP hS hl hf; rw [f_X5_normOf_l14] at hf; cases hf
    | succ n ih =>
      intro x3 rw dg di H locs ls hP hS hl hf
      rw [f_X5_normOf_l14] at hf
      refine lv_iload_n hx hb dX5_normOf_14 rfl (lv_at hl 3 rfl) ?_
      refine lv_aload_n hx hb dX5_normOf_15 rfl (lv_at hl 0 rfl) ?_
      refine va_get (ci := 5) (v := .int kk) (C := RX5) (T := TX5) (N := 10) hx hb hts (fun w h => BW_in (in_wsX50 w h)) hown hK hP 0 cr_mdl rfl 1 (by decide) (hts (.fieldLink RX5 7 "NumberFieldFactorsModel" "k" "I") (BW_in mw_312)) (fun _ h9 => h9) rfl dX5_normOf_16 ?_
      refine lv_icmp_ge (tgt := 83) hx hb dX5_normOf_19 (by decide) (fun c5 => ?_) (fun c5 => ?_)
      · rw [if_pos c5] at hf
        exact hk_14 x3 rw dg _ _ _ _ hP hS (lv_sub hl [0, 1, 2, 3] rfl) hf
      · rw [if_neg c5] at hf
        refine lv_iconst (v := 0) hx hb dX5_normOf_22 (by decide) ?_
        refine lv_istore (lv' := [(4, .int 0), (0, .ref (ad 0)), (1, .int x1), (2, .int x2), (3, .int x3)]) hx hb dX5_normOf_23 hl (by decide) rfl (fun ls hl => ?_)
        refine L25 dg x1 x2 x3 _ (fun y13 rw14 di H locs ls hP hS hl hf => ?_) fu 0 rw _ _ _ _ hP hS (lv_sub hl [1, 2, 3, 4, 0] rfl) hf
        try dsimp only at hf
        refine lv_aload_n hx hb dX5_normOf_64 rfl (lv_at hl 0 rfl) ?_
        refine lv_iconst (v := 2) hx hb dX5_normOf_65 (by decide) ?_
        refine lv_iconst (v := 3) hx hb dX5_normOf_66 (by decide) ?_
        refine lv_iconst (v := 4) hx hb dX5_normOf_67 (by decide) ?_
        obtain ⟨u15, g16, hf⟩ := Option.bind_eq_some_iff.mp hf
        try dsimp only at hf
        refine ct_callx (va_runV (As := [.int 2, .int 3, .int 4]) (rest := []) ⟨hx, hb, hml, hown, hts⟩ (C_X5_product l D tys hj htI (res := u15) g16) (cwV 3 hts (gu_V mw_393 mw_394 mw_395 mw_330 mw_368) rfl rfl rfl (by decide +kernel) ⟨Nat.le_of_ble_eq_true rfl, Nat.le_of_ble_eq_true rfl⟩) (ct_preVx (w := fun di => ww 6 ad (cellR cI ad th kk mn md rw14 dg kn fc oft di)) hP hK (ci := 5) (k := 0) rfl cr_mdl) rfl rfl hl.1 rfl (lv_room (Nat.le_of_ble_eq_true rfl)) dX5_normOf_68 ⟨Nat.zero_le _, Nat.zero_le _⟩) hS (fun di H locs hP hS => ?_)
        refine lv_aload_n hx hb dX5_normOf_71 rfl (lv_at hl 0 rfl) ?_
        refine lv_iconst (v := 4) hx hb dX5_normOf_72 (by decide) ?_
        refine lv_iconst (v := 3) hx hb dX5_normOf_73 (by decide) ?_
        obtain ⟨u17, g18, hf⟩ := Option.bind_eq_some_iff.mp hf
        try dsimp only at hf
        refine ct_callx (va_runV (As := [.int 4, .int 3]) (rest := []) ⟨hx, hb, hml, hown, hts⟩ (C_X5_copy l D tys hj htI (res := u17) g18) (cwV 2 hts (gu_V mw_385 mw_386 mw_387 mw_330 mw_365) rfl rfl rfl (by decide +kernel) ⟨Nat.le_of_ble_eq_true rfl, Nat.le_of_ble_eq_true rfl⟩) (ct_preVx (w := fun di => ww 6 ad (cellR cI ad th kk mn md u15.1 u15.2 kn fc oft di)) hP hK (ci := 5) (k := 0) rfl cr_mdl) rfl rfl hl.1 rfl (lv_room (Nat.le_of_ble_eq_true rfl)) dX5_normOf_74 ⟨Nat.zero_le _, Nat.zero_le _⟩) hS (fun di H locs hP hS => ?_)
        refine lv_iinc (v := x3 + 1) (lv' := [(3, .int (x3 + 1)), (0, .ref (ad 0)), (1, .int x1), (2, .int x2), (4, .int y13)]) hx hb dX5_normOf_77 hl (k := 3) rfl rfl (by decide) rfl (fun ls hl => ?_)
        refine lv_goto (tgt := 14) hx hb dX5_normOf_80 (by decide) ?_
        exact ih (x3 + 1) u17.1 u17.2 _ _ _ _ hP hS (lv_sub hl [1, 2, 3, 0] rfl) hf
  unfold f_X5_normOf at hf
  refine lv_aload_n hx hb dX5_normOf_0 rfl (lv_at hl 0 rfl) ?_
  refine lv_iload_n hx hb dX5_normOf_1 rfl (lv_at hl 1 rfl) ?_
  refine lv_iconst (v := 3) hx hb dX5_normOf_2 (by decide) ?_
  obtain ⟨u1, g2, hf⟩ := Option.bind_eq_some_iff.mp hf
  try dsimp only at hf
  refine ct_callx (va_runV (As := [.int p0, .int 3]) (rest := []) ⟨hx, hb, hml, hown, hts⟩ (C_X5_copy l D tys hj htI (res := u1) g2) (cwV 2 hts (gu_V mw_385 mw_386 mw_387 mw_330 mw_365) rfl rfl rfl (by decide +kernel) ⟨Nat.le_of_ble_eq_true rfl, Nat.le_of_ble_eq_true rfl⟩) (ct_preVx (w := fun di => ww 6 ad (cellR cI ad th kk mn md rw dg kn fc oft di)) hP hK (ci := 5) (k := 0) rfl cr_mdl) rfl rfl hl.1 rfl (lv_room (Nat.le_of_ble_eq_true rfl)) dX5_normOf_3 ⟨Nat.zero_le _, Nat.zero_le _⟩) hS (fun di H locs hP hS => ?_)
  refine lv_aload_n hx hb dX5_normOf_6 rfl (lv_at hl 0 rfl) ?_
  refine lv_iload_n hx hb dX5_normOf_7 rfl (lv_at hl 1 rfl) ?_
  refine lv_iconst (v := 2) hx hb dX5_normOf_8 (by decide) ?_
  obtain ⟨u3, g4, hf⟩ := Option.bind_eq_some_iff.mp hf
  try dsimp only at hf
  refine ct_callx (va_runV (As := [.int p0, .int 2]) (rest := []) ⟨hx, hb, hml, hown, hts⟩ (C_X5_copy l D tys hj htI (res := u3) g4) (cwV 2 hts (gu_V mw_385 mw_386 mw_387 mw_330 mw_365) rfl rfl rfl (by decide +kernel) ⟨Nat.le_of_ble_eq_true rfl, Nat.le_of_ble_eq_true rfl⟩) (ct_preVx (w := fun di => ww 6 ad (cellR cI ad th kk mn md u1.1 u1.2 kn fc oft di)) hP hK (ci := 5) (k := 0) rfl cr_mdl) rfl rfl hl.1 rfl (lv_room (Nat.le_of_ble_eq_true rfl)) dX5_normOf_9 ⟨Nat.zero_le _, Nat.zero_le _⟩) hS (fun di H locs hP hS => ?_)
  refine lv_iconst (v := 1) hx hb dX5_normOf_12 (by decide) ?_
  refine lv_istore_n (lv' := [(3, .int 1), (0, .ref (ad 0)), (1, .int p0), (2, .int p1)]) hx hb dX5_normOf_13 rfl hl (by decide) rfl (fun ls hl => ?_)
  refine L14 p0 p1 _ (fun y19 rw20 dg21 di H locs ls hP hS hl hf => ?_) fu 1 u3.1 u3.2 _ _ _ _ hP hS (lv_sub hl [1, 2, 3, 0] rfl) hf
  try dsimp only at hf
  refine lv_aload_n hx hb dX5_normOf_83 rfl (lv_at hl 0 rfl) ?_
  refine lv_iconst (v := 3) hx hb dX5_normOf_84 (by decide) ?_
  refine lv_iload_n hx hb dX5_normOf_85 rfl (lv_at hl 2 rfl) ?_
  obtain ⟨u22, g23, hf⟩ := Option.bind_eq_some_iff.mp hf
  try dsimp only at hf
  refine ct_callx (va_runV (As := [.int 3, .int p1]) (rest := []) ⟨hx, hb, hml, hown, hts⟩ (C_X5_copy l D tys hj htI (res := u22) g23) (cwV 2 hts (gu_V mw_385 mw_386 mw_387 mw_330 mw_365) rfl rfl rfl (by decide +kernel) ⟨Nat.le_of_ble_eq_true rfl, Nat.le_of_ble_eq_true rfl⟩) (ct_preVx (w := fun di => ww 6 ad (cellR cI ad th kk mn md rw20 dg21 kn fc oft di)) hP hK (ci := 5) (k := 0) rfl cr_mdl) rfl rfl hl.1 rfl (lv_room (Nat.le_of_ble_eq_true rfl)) dX5_normOf_86 ⟨Nat.zero_le _, Nat.zero_le _⟩) hS (fun di H locs hP hS => ?_)
  obtain rfl := Option.some.inj hf
  exact W.vret hx hb hr (fun t ht hW => ⟨rfl, ⟨di, by rw [ht]; exact hP⟩, hS.F ht⟩) hS.2.2 dX5_normOf_89
def f_X5_isPower (p0 : Int32) : Option (Int32) :=
  if p0 < 0 then
    some 0
  else
    if 5 < p0 then
      some 0
    else
      some 1
set_option maxHeartbeats 4000000 in
set_option maxRecDepth 100000 in
theorem C_X5_isPower (l : Launch) (D : va_G) (tys : List (ClassId × FieldType)) {ad : Nat → Nat} (hj : ww_inj 6 ad) {cI : ClassId} (htI : tys[0]? = some (cI, .int)) {th : Int32} {kk : Int32} {mn : Int64} {md : Nat → Int32} {rw : Nat → Int32} {dg : Nat → Int32} {kn : Int32} {fc : Int32} {oft : Nat → Int32} {p0 : Int32} {res : Int32} (hf : f_X5_isPower p0 = some res) :
    Met l yX5_isPower usX5_isPower ({ frames := 0, cells := 0, slots := 0, locals := 0 }) (va_Pc [.ref (ad 0), .int p0] (ws_Bx D tys (fun di => ww 6 ad (cellR cI ad th kk mn md rw dg kn fc oft di)))) (ct_Qx D (fun di => ww 6 ad (cellR cI ad th kk mn md rw dg kn fc oft di)) (ww_A 6 ad) (some (.int res))) 0 0 (ww_A 6 ad) := by
  refine Met.ofW (cc := cX5_isPower) (maxL := 2) (ret := (some .boolean)) (by decide) rfl ?_
  intro p e s m args below meth c s₁ B hml hv
  obtain ⟨rfl, ⟨di, hP⟩, hK⟩ := hv
  have hx := B.exec
  have hb := B.bytes
  have hr := B.returns
  have hts := atoms_spec (ws := usX5_isPower) B.pre
  have hown : s.vm.findClass RX5 = some m.cls := findClass_of_methodNamed B.named
  have hlocks := B.notSynchronized
  have hS : va_S (ww_A 6 ad) s.heap s.heap [] := va_S.rf
  have hl := lv_entry ([.ref (ad 0), .int p0]) (n := 2) (Nat.le_of_ble_eq_true rfl)
  rw [lg_entry_eq]
  generalize (lg_sl ([.ref (ad 0), .int p0]) ++ List.replicate (2 - (lg_sl ([.ref (ad 0), .int p0])).length) Slot.unset).toArray = ls at hl ⊢
  have hl : lv_has ls 2 [(0, .ref (ad 0)), (1, .int p0)] := hl
  unfold f_X5_isPower at hf
  refine lv_iload_n hx hb dX5_isPower_0 rfl (lv_at hl 1 rfl) ?_
  refine lv_if_lt (tgt := 13) hx hb dX5_isPower_1 (by decide) (fun c1 => ?_) (fun c1 => ?_)
  · rw [if_pos c1] at hf
    refine lv_iconst (v := 0) hx hb dX5_isPower_13 (by decide) ?_
    obtain rfl := Option.some.inj hf
    exact W.zret (v := 0) (ty := .boolean) hx hb hr (by decide) (fun t ht hW => ⟨rfl, ⟨di, by rw [ht]; exact hP⟩, hS.F ht⟩) hS.2.2 dX5_isPower_14
  · rw [if_neg c1] at hf
    refine lv_iload_n hx hb dX5_isPower_4 rfl (lv_at hl 1 rfl) ?_
    refine lv_iconst (v := 5) hx hb dX5_isPower_5 (by decide) ?_
    refine lv_icmp_gt (tgt := 13) hx hb dX5_isPower_6 (by decide) (fun c2 => ?_) (fun c2 => ?_)
    · rw [if_pos c2] at hf
      refine lv_iconst (v := 0) hx hb dX5_isPower_13 (by decide) ?_
      obtain rfl := Option.some.inj hf
      exact W.zret (v := 0) (ty := .boolean) hx hb hr (by decide) (fun t ht hW => ⟨rfl, ⟨di, by rw [ht]; exact hP⟩, hS.F ht⟩) hS.2.2 dX5_isPower_14
    · rw [if_neg c2] at hf
      refine lv_iconst (v := 1) hx hb dX5_isPower_9 (by decide) ?_
      refine lv_goto (tgt := 14) hx hb dX5_isPower_10 (by decide) ?_
      obtain rfl := Option.some.inj hf
      exact W.zret (v := 1) (ty := .boolean) hx hb hr (by decide) (fun t ht hW => ⟨rfl, ⟨di, by rw [ht]; exact hP⟩, hS.F ht⟩) hS.2.2 dX5_isPower_14
def f_X5_put (fu : Nat) (th : Int32) (mn : Int64) (rw : Nat → Int32) (dg : Nat → Int32) (kn : Int32) (p0 : Int32) (p1 : Int32) : Option (Int32 × (Int32) × (Nat → Int32) × (Nat → Int32) × (Int32)) :=
  (f_X5_isPower p0).bind (fun u1 =>
  if u1 = 0 then
    (f_X5_isElement mn p1).bind (fun u35 =>
    if u35 = 0 then
      (f_X5_fails th 1 1).bind (fun u52 =>
      if u52.1 = 0 then
        (f_X5_cell rw 0 p0).bind (fun u55 =>
        if u55 = p1 then
          (f_X5_set fu rw dg 0 p0 p1).bind (fun u58 =>
          if kn = 0 then
            some (0, u52.2, u58.1, u58.2, 0)
          else
            if (0 : Int32) = 0 then
              some (0, u52.2, u58.1, u58.2, 1)
            else
              some (0, u52.2, u58.1, u58.2, 0))
        else
          (f_X5_set fu rw dg 0 p0 p1).bind (fun u62 =>
          if kn = 0 then
            some (1, u52.2, u62.1, u62.2, 0)
          else
            if (1 : Int32) = 0 then
              some (1, u52.2, u62.1, u62.2, 1)
            else
              some (1, u52.2, u62.1, u62.2, 0)))
      else
        some (0, u52.2, rw, dg, kn))
    else
      (f_X5_fails th 1 0).bind (fun u38 =>
      if u38.1 = 0 then
        (f_X5_cell rw 0 p0).bind (fun u41 =>
        if u41 = p1 then
          (f_X5_set fu rw dg 0 p0 p1).bind (fun u44 =>
          if kn = 0 then
            some (0, u38.2, u44.1, u44.2, 0)
          else
            if (0 : Int32) = 0 then
              some (0, u38.2, u44.1, u44.2, 1)
            else
              some (0, u38.2, u44.1, u44.2, 0))
        else
          (f_X5_set fu rw dg 0 p0 p1).bind (fun u48 =>
          if kn = 0 then
            some (1, u38.2, u48.1, u48.2, 0)
          else
            if (1 : Int32) = 0 then
              some (1, u38.2, u48.1, u48.2, 1)
            else
              some (1, u38.2, u48.1, u48.2, 0)))
      else
        some (0, u38.2, rw, dg, kn)))
  else
    (f_X5_isElement mn p1).bind (fun u4 =>
    if u4 = 0 then
      (f_X5_fails th 0 1).bind (fun u21 =>
      if u21.1 = 0 then
        (f_X5_cell rw 0 p0).bind (fun u24 =>
        if u24 = p1 then
          (f_X5_set fu rw dg 0 p0 p1).bind (fun u27 =>
          if kn = 0 then
            some (0, u21.2, u27.1, u27.2, 0)
          else
            if (0 : Int32) = 0 then
              some (0, u21.2, u27.1, u27.2, 1)
            else
              some (0, u21.2, u27.1, u27.2, 0))
        else
          (f_X5_set fu rw dg 0 p0 p1).bind (fun u31 =>
          if kn = 0 then
            some (1, u21.2, u31.1, u31.2, 0)
          else
            if (1 : Int32) = 0 then
              some (1, u21.2, u31.1, u31.2, 1)
            else
              some (1, u21.2, u31.1, u31.2, 0)))
      else
        some (0, u21.2, rw, dg, kn))
    else
      (f_X5_fails th 0 0).bind (fun u7 =>
      if u7.1 = 0 then
        (f_X5_cell rw 0 p0).bind (fun u10 =>
        if u10 = p1 then
          (f_X5_set fu rw dg 0 p0 p1).bind (fun u13 =>
          if kn = 0 then
            some (0, u7.2, u13.1, u13.2, 0)
          else
            if (0 : Int32) = 0 then
              some (0, u7.2, u13.1, u13.2, 1)
            else
              some (0, u7.2, u13.1, u13.2, 0))
        else
          (f_X5_set fu rw dg 0 p0 p1).bind (fun u17 =>
          if kn = 0 then
            some (1, u7.2, u17.1, u17.2, 0)
          else
            if (1 : Int32) = 0 then
              some (1, u7.2, u17.1, u17.2, 1)
            else
              some (1, u7.2, u17.1, u17.2, 0)))
      else
        some (0, u7.2, rw, dg, kn))))
set_option maxHeartbeats 4000000 in
set_option maxRecDepth 100000 in
theorem C_X5_put (l : Launch) (D : va_G) (tys : List (ClassId × FieldType)) {ad : Nat → Nat} (hj : ww_inj 6 ad) {cI : ClassId} (htI : tys[0]? = some (cI, .int)) {fu : Nat} {th : Int32} {kk : Int32} {mn : Int64} {md : Nat → Int32} {rw : Nat → Int32} {dg : Nat → Int32} {kn : Int32} {fc : Int32} {oft : Nat → Int32} {p0 : Int32} {p1 : Int32} {res : Int32 × (Int32) × (Nat → Int32) × (Nat → Int32) × (Int32)} (hf : f_X5_put fu th mn rw dg kn p0 p1 = some res) :
    Met l yX5_put usX5_put ({ frames := 1, cells := 0, slots := 0, locals := 24 }) (va_Pc [.ref (ad 0), .int p0, .int p1] (ws_Bx D tys (fun di => ww 6 ad (cellR cI ad th kk mn md rw dg kn fc oft di)))) (ct_Qx D (fun di => ww 6 ad (cellR cI ad res.2.1 kk mn md res.2.2.1 res.2.2.2.1 res.2.2.2.2 fc oft di)) (ww_A 6 ad) (some (.int res.1))) 0 0 (ww_A 6 ad) := by
  refine Met.ofW (cc := cX5_put) (maxL := 4) (ret := (some .boolean)) (by decide) rfl ?_
  intro p e s m args below meth c s₁ B hml hv
  obtain ⟨rfl, ⟨di, hP⟩, hK⟩ := hv
  have hx := B.exec
  have hb := B.bytes
  have hr := B.returns
  have hts := atoms_spec (ws := usX5_put) B.pre
  have hown : s.vm.findClass RX5 = some m.cls := findClass_of_methodNamed B.named
  have hlocks := B.notSynchronized
  have hS : va_S (ww_A 6 ad) s.heap s.heap [] := va_S.rf
  have hl := lv_entry ([.ref (ad 0), .int p0, .int p1]) (n := 4) (Nat.le_of_ble_eq_true rfl)
  rw [lg_entry_eq]
  generalize (lg_sl ([.ref (ad 0), .int p0, .int p1]) ++ List.replicate (4 - (lg_sl ([.ref (ad 0), .int p0, .int p1])).length) Slot.unset).toArray = ls at hl ⊢
  have hl : lv_has ls 4 [(0, .ref (ad 0)), (1, .int p0), (2, .int p1)] := hl
  unfold f_X5_put at hf
  refine lv_aload_n hx hb dX5_put_0 rfl (lv_at hl 0 rfl) ?_
  refine lv_aload_n hx hb dX5_put_1 rfl (lv_at hl 0 rfl) ?_
  refine lv_iload_n hx hb dX5_put_2 rfl (lv_at hl 1 rfl) ?_
  obtain ⟨u1, g2, hf⟩ := Option.bind_eq_some_iff.mp hf
  try dsimp only at hf
  refine ct_callx (va_runV (As := [.int p0]) (rest := [.ref (ad 0)]) ⟨hx, hb, hml, hown, hts⟩ (C_X5_isPower l D tys hj htI (res := u1) g2) (cwV 1 hts (gu_V mw_400 mw_401 mw_402 mw_330 mw_399) rfl rfl rfl (by decide +kernel) ⟨Nat.le_of_ble_eq_true rfl, Nat.le_of_ble_eq_true rfl⟩) (ct_preVx (w := fun di => ww 6 ad (cellR cI ad th kk mn md rw dg kn fc oft di)) hP hK (ci := 5) (k := 0) rfl cr_mdl) rfl rfl hl.1 rfl (lv_room (Nat.le_of_ble_eq_true rfl)) dX5_put_3 ⟨Nat.zero_le _, Nat.zero_le _⟩) hS (fun di H locs hP hS => ?_)
  refine lv_if_ne (tgt := 13) hx hb dX5_put_6 (by decide) (fun c3 => ?_) (fun c3 => ?_)
  · rw [if_neg c3] at hf
    refine lv_iconst (v := 0) hx hb dX5_put_13 (by decide) ?_
    refine lv_aload_n hx hb dX5_put_14 rfl (lv_at hl 0 rfl) ?_
    refine lv_iload_n hx hb dX5_put_15 rfl (lv_at hl 2 rfl) ?_
    obtain ⟨u4, g5, hf⟩ := Option.bind_eq_some_iff.mp hf
    try dsimp only at hf
    refine ct_callx (va_runV (As := [.int p1]) (rest := [.int 0, .ref (ad 0)]) ⟨hx, hb, hml, hown, hts⟩ (C_X5_isElement l D tys hj htI (res := u4) g5) (cwV 1 hts (gu_V mw_403 mw_404 mw_405 mw_330 mw_323) rfl rfl rfl (by decide +kernel) ⟨Nat.le_of_ble_eq_true rfl, Nat.le_of_ble_eq_true rfl⟩) (ct_preVx (w := fun di => ww 6 ad (cellR cI ad th kk mn md rw dg kn fc oft di)) hP hK (ci := 5) (k := 0) rfl cr_mdl) rfl rfl hl.1 rfl (lv_room (Nat.le_of_ble_eq_true rfl)) dX5_put_16 ⟨Nat.zero_le _, Nat.zero_le _⟩) hS (fun di H locs hP hS => ?_)
    refine lv_if_ne (tgt := 26) hx hb dX5_put_19 (by decide) (fun c6 => ?_) (fun c6 => ?_)
    · rw [if_neg c6] at hf
      refine lv_iconst (v := 0) hx hb dX5_put_26 (by decide) ?_
      obtain ⟨u7, g8, hf⟩ := Option.bind_eq_some_iff.mp hf
      try dsimp only at hf
      refine ct_callx (va_runV (As := [.int 0, .int 0]) (rest := []) ⟨hx, hb, hml, hown, hts⟩ (C_X5_fails l D tys hj htI (res := u7) g8) (cwV 2 hts (gu_V mw_356 mw_357 mw_358 mw_330 mw_322) rfl rfl rfl (by decide +kernel) ⟨Nat.le_of_ble_eq_true rfl, Nat.le_of_ble_eq_true rfl⟩) (ct_preVx (w := fun di => ww 6 ad (cellR cI ad th kk mn md rw dg kn fc oft di)) hP hK (ci := 5) (k := 0) rfl cr_mdl) rfl rfl hl.1 rfl (lv_room (Nat.le_of_ble_eq_true rfl)) dX5_put_27 ⟨Nat.zero_le _, Nat.zero_le _⟩) hS (fun di H locs hP hS => ?_)
      refine lv_if_eq (tgt := 35) hx hb dX5_put_30 (by decide) (fun c9 => ?_) (fun c9 => ?_)
      · rw [if_pos c9] at hf
        refine lv_aload_n hx hb dX5_put_35 rfl (lv_at hl 0 rfl) ?_
        refine lv_iconst (v := 0) hx hb dX5_put_36 (by decide) ?_
        refine lv_iload_n hx hb dX5_put_37 rfl (lv_at hl 1 rfl) ?_
        obtain ⟨u10, g11, hf⟩ := Option.bind_eq_some_iff.mp hf
        try dsimp only at hf
        refine ct_callx (va_runV (As := [.int 0, .int p0]) (rest := []) ⟨hx, hb, hml, hown, hts⟩ (C_X5_cell l D tys hj htI (res := u10) g11) (cwV 2 hts (gu_V mw_369 mw_370 mw_371 mw_330 mw_367) rfl rfl rfl (by decide +kernel) ⟨Nat.le_of_ble_eq_true rfl, Nat.le_of_ble_eq_true rfl⟩) (ct_preVx (w := fun di => ww 6 ad (cellR cI ad u7.2 kk mn md rw dg kn fc oft di)) hP hK (ci := 5) (k := 0) rfl cr_mdl) rfl rfl hl.1 rfl (lv_room (Nat.le_of_ble_eq_true rfl)) dX5_put_38 ⟨Nat.zero_le _, Nat.zero_le _⟩) hS (fun di H locs hP hS => ?_)
        refine lv_iload_n hx hb dX5_put_41 rfl (lv_at hl 2 rfl) ?_
        refine lv_icmp_eq (tgt := 49) hx hb dX5_put_42 (by decide) (fun c12 => ?_) (fun c12 => ?_)
        · rw [if_pos c12] at hf
          refine lv_iconst (v := 0) hx hb dX5_put_49 (by decide) ?_
          refine lv_istore_n (lv' := [(3, .int 0), (0, .ref (ad 0)), (1, .int p0), (2, .int p1)]) hx hb dX5_put_50 rfl hl (by decide) rfl (fun ls hl => ?_)
          refine lv_aload_n hx hb dX5_put_51 rfl (lv_at hl 1 rfl) ?_
          refine lv_iconst (v := 0) hx hb dX5_put_52 (by decide) ?_
          refine lv_iload_n hx hb dX5_put_53 rfl (lv_at hl 2 rfl) ?_
          refine lv_iload_n hx hb dX5_put_54 rfl (lv_at hl 3 rfl) ?_
          obtain ⟨u13, g14, hf⟩ := Option.bind_eq_some_iff.mp hf
          try dsimp only at hf
          refine ct_callx (va_runV (As := [.int 0, .int p0, .int p1]) (rest := []) ⟨hx, hb, hml, hown, hts⟩ (C_X5_set l D tys hj htI (res := u13) g14) (cwV 3 hts (gu_V mw_377 mw_378 mw_379 mw_330 mw_366) rfl rfl rfl (by decide +kernel) ⟨Nat.le_of_ble_eq_true rfl, Nat.le_of_ble_eq_true rfl⟩) (ct_preVx (w := fun di => ww 6 ad (cellR cI ad u7.2 kk mn md rw dg kn fc oft di)) hP hK (ci := 5) (k := 0) rfl cr_mdl) rfl rfl hl.1 rfl (lv_room (Nat.le_of_ble_eq_true rfl)) dX5_put_55 ⟨Nat.zero_le _, Nat.zero_le _⟩) hS (fun di H locs hP hS => ?_)
          refine lv_aload_n hx hb dX5_put_58 rfl (lv_at hl 1 rfl) ?_
          refine lv_aload_n hx hb dX5_put_59 rfl (lv_at hl 1 rfl) ?_
          refine va_get (ci := 5) (v := .int kn) (C := RX5) (T := TX5) (N := 10) hx hb hts (fun w h => BW_in (in_wsX50 w h)) hown hK hP 0 cr_mdl rfl 7 (by decide) (hts (.fieldLink RX5 77 "NumberFieldFactorsModel" "known" "Z") (BW_in mw_355)) (fun _ h9 => h9) rfl dX5_put_60 ?_
          refine lv_if_eq (tgt := 74) hx hb dX5_put_63 (by decide) (fun c15 => ?_) (fun c15 => ?_)
          · rw [if_pos c15] at hf
            refine lv_iconst (v := 0) hx hb dX5_put_74 (by decide) ?_
            refine va_put (ci := 5) (v := .int 0) (ty := .boolean) (C := RX5) (T := TX5) (N := 10) hx hb hts (fun w h => BW_in (in_wsX50 w h)) tyX5 tyX5_ok nmX5 hown hK hP (ww_D hj) hS 0 cr_mdl rfl 7 (by decide) (hts (.fieldLink RX5 77 "NumberFieldFactorsModel" "known" "Z") (BW_in mw_355)) (fun _ h9 => h9) rfl (by decide +kernel) (by decide) rfl (Nat.le_of_ble_eq_true rfl) dX5_put_75 (fun H locs hP hD hS => ?_)
            have hP := cs_kn hP
            refine lv_iload_n hx hb dX5_put_78 rfl (lv_at hl 0 rfl) ?_
            obtain rfl := Option.some.inj hf
            exact W.zret (v := 0) (ty := .boolean) hx hb hr (by decide) (fun t ht hW => ⟨rfl, ⟨di, by rw [ht]; exact hP⟩, hS.F ht⟩) hS.2.2 dX5_put_79
          · rw [if_neg c15] at hf
            refine lv_iload_n hx hb dX5_put_66 rfl (lv_at hl 0 rfl) ?_
            refine lv_if_ne (tgt := 74) hx hb dX5_put_67 (by decide) (fun c16 => ?_) (fun c16 => ?_)
            · rw [if_neg c16] at hf
              refine lv_iconst (v := 0) hx hb dX5_put_74 (by decide) ?_
              refine va_put (ci := 5) (v := .int 0) (ty := .boolean) (C := RX5) (T := TX5) (N := 10) hx hb hts (fun w h => BW_in (in_wsX50 w h)) tyX5 tyX5_ok nmX5 hown hK hP (ww_D hj) hS 0 cr_mdl rfl 7 (by decide) (hts (.fieldLink RX5 77 "NumberFieldFactorsModel" "known" "Z") (BW_in mw_355)) (fun _ h9 => h9) rfl (by decide +kernel) (by decide) rfl (Nat.le_of_ble_eq_true rfl) dX5_put_75 (fun H locs hP hD hS => ?_)
              have hP := cs_kn hP
              refine lv_iload_n hx hb dX5_put_78 rfl (lv_at hl 0 rfl) ?_
              obtain rfl := Option.some.inj hf
              exact W.zret (v := 0) (ty := .boolean) hx hb hr (by decide) (fun t ht hW => ⟨rfl, ⟨di, by rw [ht]; exact hP⟩, hS.F ht⟩) hS.2.2 dX5_put_79
            · rw [if_pos c16] at hf
              refine lv_iconst (v := 1) hx hb dX5_put_70 (by decide) ?_
              refine lv_goto (tgt := 75) hx hb dX5_put_71 (by decide) ?_
              refine va_put (ci := 5) (v := .int 1) (ty := .boolean) (C := RX5) (T := TX5) (N := 10) hx hb hts (fun w h => BW_in (in_wsX50 w h)) tyX5 tyX5_ok nmX5 hown hK hP (ww_D hj) hS 0 cr_mdl rfl 7 (by decide) (hts (.fieldLink RX5 77 "NumberFieldFactorsModel" "known" "Z") (BW_in mw_355)) (fun _ h9 => h9) rfl (by decide +kernel) (by decide) rfl (Nat.le_of_ble_eq_true rfl) dX5_put_75 (fun H locs hP hD hS => ?_)
              have hP := cs_kn hP
              refine lv_iload_n hx hb dX5_put_78 rfl (lv_at hl 0 rfl) ?_
              obtain rfl := Option.some.inj hf
              exact W.zret (v := 0) (ty := .boolean) hx hb hr (by decide) (fun t ht hW => ⟨rfl, ⟨di, by rw [ht]; exact hP⟩, hS.F ht⟩) hS.2.2 dX5_put_79
        · rw [if_neg c12] at hf
          refine lv_iconst (v := 1) hx hb dX5_put_45 (by decide) ?_
          refine lv_goto (tgt := 50) hx hb dX5_put_46 (by decide) ?_
          refine lv_istore_n (lv' := [(3, .int 1), (0, .ref (ad 0)), (1, .int p0), (2, .int p1)]) hx hb dX5_put_50 rfl hl (by decide) rfl (fun ls hl => ?_)
          refine lv_aload_n hx hb dX5_put_51 rfl (lv_at hl 1 rfl) ?_
          refine lv_iconst (v := 0) hx hb dX5_put_52 (by decide) ?_
          refine lv_iload_n hx hb dX5_put_53 rfl (lv_at hl 2 rfl) ?_
          refine lv_iload_n hx hb dX5_put_54 rfl (lv_at hl 3 rfl) ?_
          obtain ⟨u17, g18, hf⟩ := Option.bind_eq_some_iff.mp hf
          try dsimp only at hf
          refine ct_callx (va_runV (As := [.int 0, .int p0, .int p1]) (rest := []) ⟨hx, hb, hml, hown, hts⟩ (C_X5_set l D tys hj htI (res := u17) g18) (cwV 3 hts (gu_V mw_377 mw_378 mw_379 mw_330 mw_366) rfl rfl rfl (by decide +kernel) ⟨Nat.le_of_ble_eq_true rfl, Nat.le_of_ble_eq_true rfl⟩) (ct_preVx (w := fun di => ww 6 ad (cellR cI ad u7.2 kk mn md rw dg kn fc oft di)) hP hK (ci := 5) (k := 0) rfl cr_mdl) rfl rfl hl.1 rfl (lv_room (Nat.le_of_ble_eq_true rfl)) dX5_put_55 ⟨Nat.zero_le _, Nat.zero_le _⟩) hS (fun di H locs hP hS => ?_)
          refine lv_aload_n hx hb dX5_put_58 rfl (lv_at hl 1 rfl) ?_
          refine lv_aload_n hx hb dX5_put_59 rfl (lv_at hl 1 rfl) ?_
          refine va_get (ci := 5) (v := .int kn) (C := RX5) (T := TX5) (N := 10) hx hb hts (fun w h => BW_in (in_wsX50 w h)) hown hK hP 0 cr_mdl rfl 7 (by decide) (hts (.fieldLink RX5 77 "NumberFieldFactorsModel" "known" "Z") (BW_in mw_355)) (fun _ h9 => h9) rfl dX5_put_60 ?_
          refine lv_if_eq (tgt := 74) hx hb dX5_put_63 (by decide) (fun c19 => ?_) (fun c19 => ?_)
          · rw [if_pos c19] at hf
            refine lv_iconst (v := 0) hx hb dX5_put_74 (by decide) ?_
            refine va_put (ci := 5) (v := .int 0) (ty := .boolean) (C := RX5) (T := TX5) (N := 10) hx hb hts (fun w h => BW_in (in_wsX50 w h)) tyX5 tyX5_ok nmX5 hown hK hP (ww_D hj) hS 0 cr_mdl rfl 7 (by decide) (hts (.fieldLink RX5 77 "NumberFieldFactorsModel" "known" "Z") (BW_in mw_355)) (fun _ h9 => h9) rfl (by decide +kernel) (by decide) rfl (Nat.le_of_ble_eq_true rfl) dX5_put_75 (fun H locs hP hD hS => ?_)
            have hP := cs_kn hP
            refine lv_iload_n hx hb dX5_put_78 rfl (lv_at hl 0 rfl) ?_
            obtain rfl := Option.some.inj hf
            exact W.zret (v := 1) (ty := .boolean) hx hb hr (by decide) (fun t ht hW => ⟨rfl, ⟨di, by rw [ht]; exact hP⟩, hS.F ht⟩) hS.2.2 dX5_put_79
          · rw [if_neg c19] at hf
            refine lv_iload_n hx hb dX5_put_66 rfl (lv_at hl 0 rfl) ?_
            refine lv_if_ne (tgt := 74) hx hb dX5_put_67 (by decide) (fun c20 => ?_) (fun c20 => ?_)
            · rw [if_neg c20] at hf
              refine lv_iconst (v := 0) hx hb dX5_put_74 (by decide) ?_
              refine va_put (ci := 5) (v := .int 0) (ty := .boolean) (C := RX5) (T := TX5) (N := 10) hx hb hts (fun w h => BW_in (in_wsX50 w h)) tyX5 tyX5_ok nmX5 hown hK hP (ww_D hj) hS 0 cr_mdl rfl 7 (by decide) (hts (.fieldLink RX5 77 "NumberFieldFactorsModel" "known" "Z") (BW_in mw_355)) (fun _ h9 => h9) rfl (by decide +kernel) (by decide) rfl (Nat.le_of_ble_eq_true rfl) dX5_put_75 (fun H locs hP hD hS => ?_)
              have hP := cs_kn hP
              refine lv_iload_n hx hb dX5_put_78 rfl (lv_at hl 0 rfl) ?_
              obtain rfl := Option.some.inj hf
              exact W.zret (v := 1) (ty := .boolean) hx hb hr (by decide) (fun t ht hW => ⟨rfl, ⟨di, by rw [ht]; exact hP⟩, hS.F ht⟩) hS.2.2 dX5_put_79
            · rw [if_pos c20] at hf
              refine lv_iconst (v := 1) hx hb dX5_put_70 (by decide) ?_
              refine lv_goto (tgt := 75) hx hb dX5_put_71 (by decide) ?_
              refine va_put (ci := 5) (v := .int 1) (ty := .boolean) (C := RX5) (T := TX5) (N := 10) hx hb hts (fun w h => BW_in (in_wsX50 w h)) tyX5 tyX5_ok nmX5 hown hK hP (ww_D hj) hS 0 cr_mdl rfl 7 (by decide) (hts (.fieldLink RX5 77 "NumberFieldFactorsModel" "known" "Z") (BW_in mw_355)) (fun _ h9 => h9) rfl (by decide +kernel) (by decide) rfl (Nat.le_of_ble_eq_true rfl) dX5_put_75 (fun H locs hP hD hS => ?_)
              have hP := cs_kn hP
              refine lv_iload_n hx hb dX5_put_78 rfl (lv_at hl 0 rfl) ?_
              obtain rfl := Option.some.inj hf
              exact W.zret (v := 1) (ty := .boolean) hx hb hr (by decide) (fun t ht hW => ⟨rfl, ⟨di, by rw [ht]; exact hP⟩, hS.F ht⟩) hS.2.2 dX5_put_79
      · rw [if_neg c9] at hf
        refine lv_iconst (v := 0) hx hb dX5_put_33 (by decide) ?_
        obtain rfl := Option.some.inj hf
        exact W.zret (v := 0) (ty := .boolean) hx hb hr (by decide) (fun t ht hW => ⟨rfl, ⟨di, by rw [ht]; exact hP⟩, hS.F ht⟩) hS.2.2 dX5_put_34
    · rw [if_pos c6] at hf
      refine lv_iconst (v := 1) hx hb dX5_put_22 (by decide) ?_
      refine lv_goto (tgt := 27) hx hb dX5_put_23 (by decide) ?_
      obtain ⟨u21, g22, hf⟩ := Option.bind_eq_some_iff.mp hf
      try dsimp only at hf
      refine ct_callx (va_runV (As := [.int 0, .int 1]) (rest := []) ⟨hx, hb, hml, hown, hts⟩ (C_X5_fails l D tys hj htI (res := u21) g22) (cwV 2 hts (gu_V mw_356 mw_357 mw_358 mw_330 mw_322) rfl rfl rfl (by decide +kernel) ⟨Nat.le_of_ble_eq_true rfl, Nat.le_of_ble_eq_true rfl⟩) (ct_preVx (w := fun di => ww 6 ad (cellR cI ad th kk mn md rw dg kn fc oft di)) hP hK (ci := 5) (k := 0) rfl cr_mdl) rfl rfl hl.1 rfl (lv_room (Nat.le_of_ble_eq_true rfl)) dX5_put_27 ⟨Nat.zero_le _, Nat.zero_le _⟩) hS (fun di H locs hP hS => ?_)
      refine lv_if_eq (tgt := 35) hx hb dX5_put_30 (by decide) (fun c23 => ?_) (fun c23 => ?_)
      · rw [if_pos c23] at hf
        refine lv_aload_n hx hb dX5_put_35 rfl (lv_at hl 0 rfl) ?_
        refine lv_iconst (v := 0) hx hb dX5_put_36 (by decide) ?_
        refine lv_iload_n hx hb dX5_put_37 rfl (lv_at hl 1 rfl) ?_
        obtain ⟨u24, g25, hf⟩ := Option.bind_eq_some_iff.mp hf
        try dsimp only at hf
        refine ct_callx (va_runV (As := [.int 0, .int p0]) (rest := []) ⟨hx, hb, hml, hown, hts⟩ (C_X5_cell l D tys hj htI (res := u24) g25) (cwV 2 hts (gu_V mw_369 mw_370 mw_371 mw_330 mw_367) rfl rfl rfl (by decide +kernel) ⟨Nat.le_of_ble_eq_true rfl, Nat.le_of_ble_eq_true rfl⟩) (ct_preVx (w := fun di => ww 6 ad (cellR cI ad u21.2 kk mn md rw dg kn fc oft di)) hP hK (ci := 5) (k := 0) rfl cr_mdl) rfl rfl hl.1 rfl (lv_room (Nat.le_of_ble_eq_true rfl)) dX5_put_38 ⟨Nat.zero_le _, Nat.zero_le _⟩) hS (fun di H locs hP hS => ?_)
        refine lv_iload_n hx hb dX5_put_41 rfl (lv_at hl 2 rfl) ?_
        refine lv_icmp_eq (tgt := 49) hx hb dX5_put_42 (by decide) (fun c26 => ?_) (fun c26 => ?_)
        · rw [if_pos c26] at hf
          refine lv_iconst (v := 0) hx hb dX5_put_49 (by decide) ?_
          refine lv_istore_n (lv' := [(3, .int 0), (0, .ref (ad 0)), (1, .int p0), (2, .int p1)]) hx hb dX5_put_50 rfl hl (by decide) rfl (fun ls hl => ?_)
          refine lv_aload_n hx hb dX5_put_51 rfl (lv_at hl 1 rfl) ?_
          refine lv_iconst (v := 0) hx hb dX5_put_52 (by decide) ?_
          refine lv_iload_n hx hb dX5_put_53 rfl (lv_at hl 2 rfl) ?_
          refine lv_iload_n hx hb dX5_put_54 rfl (lv_at hl 3 rfl) ?_
          obtain ⟨u27, g28, hf⟩ := Option.bind_eq_some_iff.mp hf
          try dsimp only at hf
          refine ct_callx (va_runV (As := [.int 0, .int p0, .int p1]) (rest := []) ⟨hx, hb, hml, hown, hts⟩ (C_X5_set l D tys hj htI (res := u27) g28) (cwV 3 hts (gu_V mw_377 mw_378 mw_379 mw_330 mw_366) rfl rfl rfl (by decide +kernel) ⟨Nat.le_of_ble_eq_true rfl, Nat.le_of_ble_eq_true rfl⟩) (ct_preVx (w := fun di => ww 6 ad (cellR cI ad u21.2 kk mn md rw dg kn fc oft di)) hP hK (ci := 5) (k := 0) rfl cr_mdl) rfl rfl hl.1 rfl (lv_room (Nat.le_of_ble_eq_true rfl)) dX5_put_55 ⟨Nat.zero_le _, Nat.zero_le _⟩) hS (fun di H locs hP hS => ?_)
          refine lv_aload_n hx hb dX5_put_58 rfl (lv_at hl 1 rfl) ?_
          refine lv_aload_n hx hb dX5_put_59 rfl (lv_at hl 1 rfl) ?_
          refine va_get (ci := 5) (v := .int kn) (C := RX5) (T := TX5) (N := 10) hx hb hts (fun w h => BW_in (in_wsX50 w h)) hown hK hP 0 cr_mdl rfl 7 (by decide) (hts (.fieldLink RX5 77 "NumberFieldFactorsModel" "known" "Z") (BW_in mw_355)) (fun _ h9 => h9) rfl dX5_put_60 ?_
          refine lv_if_eq (tgt := 74) hx hb dX5_put_63 (by decide) (fun c29 => ?_) (fun c29 => ?_)
          · rw [if_pos c29] at hf
            refine lv_iconst (v := 0) hx hb dX5_put_74 (by decide) ?_
            refine va_put (ci := 5) (v := .int 0) (ty := .boolean) (C := RX5) (T := TX5) (N := 10) hx hb hts (fun w h => BW_in (in_wsX50 w h)) tyX5 tyX5_ok nmX5 hown hK hP (ww_D hj) hS 0 cr_mdl rfl 7 (by decide) (hts (.fieldLink RX5 77 "NumberFieldFactorsModel" "known" "Z") (BW_in mw_355)) (fun _ h9 => h9) rfl (by decide +kernel) (by decide) rfl (Nat.le_of_ble_eq_true rfl) dX5_put_75 (fun H locs hP hD hS => ?_)
            have hP := cs_kn hP
            refine lv_iload_n hx hb dX5_put_78 rfl (lv_at hl 0 rfl) ?_
            obtain rfl := Option.some.inj hf
            exact W.zret (v := 0) (ty := .boolean) hx hb hr (by decide) (fun t ht hW => ⟨rfl, ⟨di, by rw [ht]; exact hP⟩, hS.F ht⟩) hS.2.2 dX5_put_79
          · rw [if_neg c29] at hf
            refine lv_iload_n hx hb dX5_put_66 rfl (lv_at hl 0 rfl) ?_
            refine lv_if_ne (tgt := 74) hx hb dX5_put_67 (by decide) (fun c30 => ?_) (fun c30 => ?_)
            · rw [if_neg c30] at hf
              refine lv_iconst (v := 0) hx hb dX5_put_74 (by decide) ?_
              refine va_put (ci := 5) (v := .int 0) (ty := .boolean) (C := RX5) (T := TX5) (N := 10) hx hb hts (fun w h => BW_in (in_wsX50 w h)) tyX5 tyX5_ok nmX5 hown hK hP (ww_D hj) hS 0 cr_mdl rfl 7 (by decide) (hts (.fieldLink RX5 77 "NumberFieldFactorsModel" "known" "Z") (BW_in mw_355)) (fun _ h9 => h9) rfl (by decide +kernel) (by decide) rfl (Nat.le_of_ble_eq_true rfl) dX5_put_75 (fun H locs hP hD hS => ?_)
              have hP := cs_kn hP
              refine lv_iload_n hx hb dX5_put_78 rfl (lv_at hl 0 rfl) ?_
              obtain rfl := Option.some.inj hf
              exact W.zret (v := 0) (ty := .boolean) hx hb hr (by decide) (fun t ht hW => ⟨rfl, ⟨di, by rw [ht]; exact hP⟩, hS.F ht⟩) hS.2.2 dX5_put_79
            · rw [if_pos c30] at hf
              refine lv_iconst (v := 1) hx hb dX5_put_70 (by decide) ?_
              refine lv_goto (tgt := 75) hx hb dX5_put_71 (by decide) ?_
              refine va_put (ci := 5) (v := .int 1) (ty := .boolean) (C := RX5) (T := TX5) (N := 10) hx hb hts (fun w h => BW_in (in_wsX50 w h)) tyX5 tyX5_ok nmX5 hown hK hP (ww_D hj) hS 0 cr_mdl rfl 7 (by decide) (hts (.fieldLink RX5 77 "NumberFieldFactorsModel" "known" "Z") (BW_in mw_355)) (fun _ h9 => h9) rfl (by decide +kernel) (by decide) rfl (Nat.le_of_ble_eq_true rfl) dX5_put_75 (fun H locs hP hD hS => ?_)
              have hP := cs_kn hP
              refine lv_iload_n hx hb dX5_put_78 rfl (lv_at hl 0 rfl) ?_
              obtain rfl := Option.some.inj hf
              exact W.zret (v := 0) (ty := .boolean) hx hb hr (by decide) (fun t ht hW => ⟨rfl, ⟨di, by rw [ht]; exact hP⟩, hS.F ht⟩) hS.2.2 dX5_put_79
        · rw [if_neg c26] at hf
          refine lv_iconst (v := 1) hx hb dX5_put_45 (by decide) ?_
          refine lv_goto (tgt := 50) hx hb dX5_put_46 (by decide) ?_
          refine lv_istore_n (lv' := [(3, .int 1), (0, .ref (ad 0)), (1, .int p0), (2, .int p1)]) hx hb dX5_put_50 rfl hl (by decide) rfl (fun ls hl => ?_)
          refine lv_aload_n hx hb dX5_put_51 rfl (lv_at hl 1 rfl) ?_
          refine lv_iconst (v := 0) hx hb dX5_put_52 (by decide) ?_
          refine lv_iload_n hx hb dX5_put_53 rfl (lv_at hl 2 rfl) ?_
          refine lv_iload_n hx hb dX5_put_54 rfl (lv_at hl 3 rfl) ?_
          obtain ⟨u31, g32, hf⟩ := Option.bind_eq_some_iff.mp hf
          try dsimp only at hf
          refine ct_callx (va_runV (As := [.int 0, .int p0, .int p1]) (rest := []) ⟨hx, hb, hml, hown, hts⟩ (C_X5_set l D tys hj htI (res := u31) g32) (cwV 3 hts (gu_V mw_377 mw_378 mw_379 mw_330 mw_366) rfl rfl rfl (by decide +kernel) ⟨Nat.le_of_ble_eq_true rfl, Nat.le_of_ble_eq_true rfl⟩) (ct_preVx (w := fun di => ww 6 ad (cellR cI ad u21.2 kk mn md rw dg kn fc oft di)) hP hK (ci := 5) (k := 0) rfl cr_mdl) rfl rfl hl.1 rfl (lv_room (Nat.le_of_ble_eq_true rfl)) dX5_put_55 ⟨Nat.zero_le _, Nat.zero_le _⟩) hS (fun di H locs hP hS => ?_)
          refine lv_aload_n hx hb dX5_put_58 rfl (lv_at hl 1 rfl) ?_
          refine lv_aload_n hx hb dX5_put_59 rfl (lv_at hl 1 rfl) ?_
          refine va_get (ci := 5) (v := .int kn) (C := RX5) (T := TX5) (N := 10) hx hb hts (fun w h => BW_in (in_wsX50 w h)) hown hK hP 0 cr_mdl rfl 7 (by decide) (hts (.fieldLink RX5 77 "NumberFieldFactorsModel" "known" "Z") (BW_in mw_355)) (fun _ h9 => h9) rfl dX5_put_60 ?_
          refine lv_if_eq (tgt := 74) hx hb dX5_put_63 (by decide) (fun c33 => ?_) (fun c33 => ?_)
          · rw [if_pos c33] at hf
            refine lv_iconst (v := 0) hx hb dX5_put_74 (by decide) ?_
            refine va_put (ci := 5) (v := .int 0) (ty := .boolean) (C := RX5) (T := TX5) (N := 10) hx hb hts (fun w h => BW_in (in_wsX50 w h)) tyX5 tyX5_ok nmX5 hown hK hP (ww_D hj) hS 0 cr_mdl rfl 7 (by decide) (hts (.fieldLink RX5 77 "NumberFieldFactorsModel" "known" "Z") (BW_in mw_355)) (fun _ h9 => h9) rfl (by decide +kernel) (by decide) rfl (Nat.le_of_ble_eq_true rfl) dX5_put_75 (fun H locs hP hD hS => ?_)
            have hP := cs_kn hP
            refine lv_iload_n hx hb dX5_put_78 rfl (lv_at hl 0 rfl) ?_
            obtain rfl := Option.some.inj hf
            exact W.zret (v := 1) (ty := .boolean) hx hb hr (by decide) (fun t ht hW => ⟨rfl, ⟨di, by rw [ht]; exact hP⟩, hS.F ht⟩) hS.2.2 dX5_put_79
          · rw [if_neg c33] at hf
            refine lv_iload_n hx hb dX5_put_66 rfl (lv_at hl 0 rfl) ?_
            refine lv_if_ne (tgt := 74) hx hb dX5_put_67 (by decide) (fun c34 => ?_) (fun c34 => ?_)
            · rw [if_neg c34] at hf
              refine lv_iconst (v := 0) hx hb dX5_put_74 (by decide) ?_
              refine va_put (ci := 5) (v := .int 0) (ty := .boolean) (C := RX5) (T := TX5) (N := 10) hx hb hts (fun w h => BW_in (in_wsX50 w h)) tyX5 tyX5_ok nmX5 hown hK hP (ww_D hj) hS 0 cr_mdl rfl 7 (by decide) (hts (.fieldLink RX5 77 "NumberFieldFactorsModel" "known" "Z") (BW_in mw_355)) (fun _ h9 => h9) rfl (by decide +kernel) (by decide) rfl (Nat.le_of_ble_eq_true rfl) dX5_put_75 (fun H locs hP hD hS => ?_)
              have hP := cs_kn hP
              refine lv_iload_n hx hb dX5_put_78 rfl (lv_at hl 0 rfl) ?_
              obtain rfl := Option.some.inj hf
              exact W.zret (v := 1) (ty := .boolean) hx hb hr (by decide) (fun t ht hW => ⟨rfl, ⟨di, by rw [ht]; exact hP⟩, hS.F ht⟩) hS.2.2 dX5_put_79
            · rw [if_pos c34] at hf
              refine lv_iconst (v := 1) hx hb dX5_put_70 (by decide) ?_
              refine lv_goto (tgt := 75) hx hb dX5_put_71 (by decide) ?_
              refine va_put (ci := 5) (v := .int 1) (ty := .boolean) (C := RX5) (T := TX5) (N := 10) hx hb hts (fun w h => BW_in (in_wsX50 w h)) tyX5 tyX5_ok nmX5 hown hK hP (ww_D hj) hS 0 cr_mdl rfl 7 (by decide) (hts (.fieldLink RX5 77 "NumberFieldFactorsModel" "known" "Z") (BW_in mw_355)) (fun _ h9 => h9) rfl (by decide +kernel) (by decide) rfl (Nat.le_of_ble_eq_true rfl) dX5_put_75 (fun H locs hP hD hS => ?_)
              have hP := cs_kn hP
              refine lv_iload_n hx hb dX5_put_78 rfl (lv_at hl 0 rfl) ?_
              obtain rfl := Option.some.inj hf
              exact W.zret (v := 1) (ty := .boolean) hx hb hr (by decide) (fun t ht hW => ⟨rfl, ⟨di, by rw [ht]; exact hP⟩, hS.F ht⟩) hS.2.2 dX5_put_79
      · rw [if_neg c23] at hf
        refine lv_iconst (v := 0) hx hb dX5_put_33 (by decide) ?_
        obtain rfl := Option.some.inj hf
        exact W.zret (v := 0) (ty := .boolean) hx hb hr (by decide) (fun t ht hW => ⟨rfl, ⟨di, by rw [ht]; exact hP⟩, hS.F ht⟩) hS.2.2 dX5_put_34
  · rw [if_pos c3] at hf
    refine lv_iconst (v := 1) hx hb dX5_put_9 (by decide) ?_
    refine lv_goto (tgt := 14) hx hb dX5_put_10 (by decide) ?_
    refine lv_aload_n hx hb dX5_put_14 rfl (lv_at hl 0 rfl) ?_
    refine lv_iload_n hx hb dX5_put_15 rfl (lv_at hl 2 rfl) ?_
    obtain ⟨u35, g36, hf⟩ := Option.bind_eq_some_iff.mp hf
    try dsimp only at hf
    refine ct_callx (va_runV (As := [.int p1]) (rest := [.int 1, .ref (ad 0)]) ⟨hx, hb, hml, hown, hts⟩ (C_X5_isElement l D tys hj htI (res := u35) g36) (cwV 1 hts (gu_V mw_403 mw_404 mw_405 mw_330 mw_323) rfl rfl rfl (by decide +kernel) ⟨Nat.le_of_ble_eq_true rfl, Nat.le_of_ble_eq_true rfl⟩) (ct_preVx (w := fun di => ww 6 ad (cellR cI ad th kk mn md rw dg kn fc oft di)) hP hK (ci := 5) (k := 0) rfl cr_mdl) rfl rfl hl.1 rfl (lv_room (Nat.le_of_ble_eq_true rfl)) dX5_put_16 ⟨Nat.zero_le _, Nat.zero_le _⟩) hS (fun di H locs hP hS => ?_)
    refine lv_if_ne (tgt := 26) hx hb dX5_put_19 (by decide) (fun c37 => ?_) (fun c37 => ?_)
    · rw [if_neg c37] at hf
      refine lv_iconst (v := 0) hx hb dX5_put_26 (by decide) ?_
      obtain ⟨u38, g39, hf⟩ := Option.bind_eq_some_iff.mp hf
      try dsimp only at hf
      refine ct_callx (va_runV (As := [.int 1, .int 0]) (rest := []) ⟨hx, hb, hml, hown, hts⟩ (C_X5_fails l D tys hj htI (res := u38) g39) (cwV 2 hts (gu_V mw_356 mw_357 mw_358 mw_330 mw_322) rfl rfl rfl (by decide +kernel) ⟨Nat.le_of_ble_eq_true rfl, Nat.le_of_ble_eq_true rfl⟩) (ct_preVx (w := fun di => ww 6 ad (cellR cI ad th kk mn md rw dg kn fc oft di)) hP hK (ci := 5) (k := 0) rfl cr_mdl) rfl rfl hl.1 rfl (lv_room (Nat.le_of_ble_eq_true rfl)) dX5_put_27 ⟨Nat.zero_le _, Nat.zero_le _⟩) hS (fun di H locs hP hS => ?_)
      refine lv_if_eq (tgt := 35) hx hb dX5_put_30 (by decide) (fun c40 => ?_) (fun c40 => ?_)
      · rw [if_pos c40] at hf
        refine lv_aload_n hx hb dX5_put_35 rfl (lv_at hl 0 rfl) ?_
        refine lv_iconst (v := 0) hx hb dX5_put_36 (by decide) ?_
        refine lv_iload_n hx hb dX5_put_37 rfl (lv_at hl 1 rfl) ?_
        obtain ⟨u41, g42, hf⟩ := Option.bind_eq_some_iff.mp hf
        try dsimp only at hf
        refine ct_callx (va_runV (As := [.int 0, .int p0]) (rest := []) ⟨hx, hb, hml, hown, hts⟩ (C_X5_cell l D tys hj htI (res := u41) g42) (cwV 2 hts (gu_V mw_369 mw_370 mw_371 mw_330 mw_367) rfl rfl rfl (by decide +kernel) ⟨Nat.le_of_ble_eq_true rfl, Nat.le_of_ble_eq_true rfl⟩) (ct_preVx (w := fun di => ww 6 ad (cellR cI ad u38.2 kk mn md rw dg kn fc oft di)) hP hK (ci := 5) (k := 0) rfl cr_mdl) rfl rfl hl.1 rfl (lv_room (Nat.le_of_ble_eq_true rfl)) dX5_put_38 ⟨Nat.zero_le _, Nat.zero_le _⟩) hS (fun di H locs hP hS => ?_)
        refine lv_iload_n hx hb dX5_put_41 rfl (lv_at hl 2 rfl) ?_
        refine lv_icmp_eq (tgt := 49) hx hb dX5_put_42 (by decide) (fun c43 => ?_) (fun c43 => ?_)
        · rw [if_pos c43] at hf
          refine lv_iconst (v := 0) hx hb dX5_put_49 (by decide) ?_
          refine lv_istore_n (lv' := [(3, .int 0), (0, .ref (ad 0)), (1, .int p0), (2, .int p1)]) hx hb dX5_put_50 rfl hl (by decide) rfl (fun ls hl => ?_)
          refine lv_aload_n hx hb dX5_put_51 rfl (lv_at hl 1 rfl) ?_
          refine lv_iconst (v := 0) hx hb dX5_put_52 (by decide) ?_
          refine lv_iload_n hx hb dX5_put_53 rfl (lv_at hl 2 rfl) ?_
          refine lv_iload_n hx hb dX5_put_54 rfl (lv_at hl 3 rfl) ?_
          obtain ⟨u44, g45, hf⟩ := Option.bind_eq_some_iff.mp hf
          try dsimp only at hf
          refine ct_callx (va_runV (As := [.int 0, .int p0, .int p1]) (rest := []) ⟨hx, hb, hml, hown, hts⟩ (C_X5_set l D tys hj htI (res := u44) g45) (cwV 3 hts (gu_V mw_377 mw_378 mw_379 mw_330 mw_366) rfl rfl rfl (by decide +kernel) ⟨Nat.le_of_ble_eq_true rfl, Nat.le_of_ble_eq_true rfl⟩) (ct_preVx (w := fun di => ww 6 ad (cellR cI ad u38.2 kk mn md rw dg kn fc oft di)) hP hK (ci := 5) (k := 0) rfl cr_mdl) rfl rfl hl.1 rfl (lv_room (Nat.le_of_ble_eq_true rfl)) dX5_put_55 ⟨Nat.zero_le _, Nat.zero_le _⟩) hS (fun di H locs hP hS => ?_)
          refine lv_aload_n hx hb dX5_put_58 rfl (lv_at hl 1 rfl) ?_
          refine lv_aload_n hx hb dX5_put_59 rfl (lv_at hl 1 rfl) ?_
          refine va_get (ci := 5) (v := .int kn) (C := RX5) (T := TX5) (N := 10) hx hb hts (fun w h => BW_in (in_wsX50 w h)) hown hK hP 0 cr_mdl rfl 7 (by decide) (hts (.fieldLink RX5 77 "NumberFieldFactorsModel" "known" "Z") (BW_in mw_355)) (fun _ h9 => h9) rfl dX5_put_60 ?_
          refine lv_if_eq (tgt := 74) hx hb dX5_put_63 (by decide) (fun c46 => ?_) (fun c46 => ?_)
          · rw [if_pos c46] at hf
            refine lv_iconst (v := 0) hx hb dX5_put_74 (by decide) ?_
            refine va_put (ci := 5) (v := .int 0) (ty := .boolean) (C := RX5) (T := TX5) (N := 10) hx hb hts (fun w h => BW_in (in_wsX50 w h)) tyX5 tyX5_ok nmX5 hown hK hP (ww_D hj) hS 0 cr_mdl rfl 7 (by decide) (hts (.fieldLink RX5 77 "NumberFieldFactorsModel" "known" "Z") (BW_in mw_355)) (fun _ h9 => h9) rfl (by decide +kernel) (by decide) rfl (Nat.le_of_ble_eq_true rfl) dX5_put_75 (fun H locs hP hD hS => ?_)
            have hP := cs_kn hP
            refine lv_iload_n hx hb dX5_put_78 rfl (lv_at hl 0 rfl) ?_
            obtain rfl := Option.some.inj hf
            exact W.zret (v := 0) (ty := .boolean) hx hb hr (by decide) (fun t ht hW => ⟨rfl, ⟨di, by rw [ht]; exact hP⟩, hS.F ht⟩) hS.2.2 dX5_put_79
          · rw [if_neg c46] at hf
            refine lv_iload_n hx hb dX5_put_66 rfl (lv_at hl 0 rfl) ?_
            refine lv_if_ne (tgt := 74) hx hb dX5_put_67 (by decide) (fun c47 => ?_) (fun c47 => ?_)
            · rw [if_neg c47] at hf
              refine lv_iconst (v := 0) hx hb dX5_put_74 (by decide) ?_
              refine va_put (ci := 5) (v := .int 0) (ty := .boolean) (C := RX5) (T := TX5) (N := 10) hx hb hts (fun w h => BW_in (in_wsX50 w h)) tyX5 tyX5_ok nmX5 hown hK hP (ww_D hj) hS 0 cr_mdl rfl 7 (by decide) (hts (.fieldLink RX5 77 "NumberFieldFactorsModel" "known" "Z") (BW_in mw_355)) (fun _ h9 => h9) rfl (by decide +kernel) (by decide) rfl (Nat.le_of_ble_eq_true rfl) dX5_put_75 (fun H locs hP hD hS => ?_)
              have hP := cs_kn hP
              refine lv_iload_n hx hb dX5_put_78 rfl (lv_at hl 0 rfl) ?_
              obtain rfl := Option.some.inj hf
              exact W.zret (v := 0) (ty := .boolean) hx hb hr (by decide) (fun t ht hW => ⟨rfl, ⟨di, by rw [ht]; exact hP⟩, hS.F ht⟩) hS.2.2 dX5_put_79
            · rw [if_pos c47] at hf
              refine lv_iconst (v := 1) hx hb dX5_put_70 (by decide) ?_
              refine lv_goto (tgt := 75) hx hb dX5_put_71 (by decide) ?_
              refine va_put (ci := 5) (v := .int 1) (ty := .boolean) (C := RX5) (T := TX5) (N := 10) hx hb hts (fun w h => BW_in (in_wsX50 w h)) tyX5 tyX5_ok nmX5 hown hK hP (ww_D hj) hS 0 cr_mdl rfl 7 (by decide) (hts (.fieldLink RX5 77 "NumberFieldFactorsModel" "known" "Z") (BW_in mw_355)) (fun _ h9 => h9) rfl (by decide +kernel) (by decide) rfl (Nat.le_of_ble_eq_true rfl) dX5_put_75 (fun H locs hP hD hS => ?_)
              have hP := cs_kn hP
              refine lv_iload_n hx hb dX5_put_78 rfl (lv_at hl 0 rfl) ?_
              obtain rfl := Option.some.inj hf
              exact W.zret (v := 0) (ty := .boolean) hx hb hr (by decide) (fun t ht hW => ⟨rfl, ⟨di, by rw [ht]; exact hP⟩, hS.F ht⟩) hS.2.2 dX5_put_79
        · rw [if_neg c43] at hf
          refine lv_iconst (v := 1) hx hb dX5_put_45 (by decide) ?_
          refine lv_goto (tgt := 50) hx hb dX5_put_46 (by decide) ?_
          refine lv_istore_n (lv' := [(3, .int 1), (0, .ref (ad 0)), (1, .int p0), (2, .int p1)]) hx hb dX5_put_50 rfl hl (by decide) rfl (fun ls hl => ?_)
          refine lv_aload_n hx hb dX5_put_51 rfl (lv_at hl 1 rfl) ?_
          refine lv_iconst (v := 0) hx hb dX5_put_52 (by decide) ?_
          refine lv_iload_n hx hb dX5_put_53 rfl (lv_at hl 2 rfl) ?_
          refine lv_iload_n hx hb dX5_put_54 rfl (lv_at hl 3 rfl) ?_
          obtain ⟨u48, g49, hf⟩ := Option.bind_eq_some_iff.mp hf
          try dsimp only at hf
          refine ct_callx (va_runV (As := [.int 0, .int p0, .int p1]) (rest := []) ⟨hx, hb, hml, hown, hts⟩ (C_X5_set l D tys hj htI (res := u48) g49) (cwV 3 hts (gu_V mw_377 mw_378 mw_379 mw_330 mw_366) rfl rfl rfl (by decide +kernel) ⟨Nat.le_of_ble_eq_true rfl, Nat.le_of_ble_eq_true rfl⟩) (ct_preVx (w := fun di => ww 6 ad (cellR cI ad u38.2 kk mn md rw dg kn fc oft di)) hP hK (ci := 5) (k := 0) rfl cr_mdl) rfl rfl hl.1 rfl (lv_room (Nat.le_of_ble_eq_true rfl)) dX5_put_55 ⟨Nat.zero_le _, Nat.zero_le _⟩) hS (fun di H locs hP hS => ?_)
          refine lv_aload_n hx hb dX5_put_58 rfl (lv_at hl 1 rfl) ?_
          refine lv_aload_n hx hb dX5_put_59 rfl (lv_at hl 1 rfl) ?_
          refine va_get (ci := 5) (v := .int kn) (C := RX5) (T := TX5) (N := 10) hx hb hts (fun w h => BW_in (in_wsX50 w h)) hown hK hP 0 cr_mdl rfl 7 (by decide) (hts (.fieldLink RX5 77 "NumberFieldFactorsModel" "known" "Z") (BW_in mw_355)) (fun _ h9 => h9) rfl dX5_put_60 ?_
          refine lv_if_eq (tgt := 74) hx hb dX5_put_63 (by decide) (fun c50 => ?_) (fun c50 => ?_)
          · rw [if_pos c50] at hf
            refine lv_iconst (v := 0) hx hb dX5_put_74 (by decide) ?_
            refine va_put (ci := 5) (v := .int 0) (ty := .boolean) (C := RX5) (T := TX5) (N := 10) hx hb hts (fun w h => BW_in (in_wsX50 w h)) tyX5 tyX5_ok nmX5 hown hK hP (ww_D hj) hS 0 cr_mdl rfl 7 (by decide) (hts (.fieldLink RX5 77 "NumberFieldFactorsModel" "known" "Z") (BW_in mw_355)) (fun _ h9 => h9) rfl (by decide +kernel) (by decide) rfl (Nat.le_of_ble_eq_true rfl) dX5_put_75 (fun H locs hP hD hS => ?_)
            have hP := cs_kn hP
            refine lv_iload_n hx hb dX5_put_78 rfl (lv_at hl 0 rfl) ?_
            obtain rfl := Option.some.inj hf
            exact W.zret (v := 1) (ty := .boolean) hx hb hr (by decide) (fun t ht hW => ⟨rfl, ⟨di, by rw [ht]; exact hP⟩, hS.F ht⟩) hS.2.2 dX5_put_79
          · rw [if_neg c50] at hf
            refine lv_iload_n hx hb dX5_put_66 rfl (lv_at hl 0 rfl) ?_
            refine lv_if_ne (tgt := 74) hx hb dX5_put_67 (by decide) (fun c51 => ?_) (fun c51 => ?_)
            · rw [if_neg c51] at hf
              refine lv_iconst (v := 0) hx hb dX5_put_74 (by decide) ?_
              refine va_put (ci := 5) (v := .int 0) (ty := .boolean) (C := RX5) (T := TX5) (N := 10) hx hb hts (fun w h => BW_in (in_wsX50 w h)) tyX5 tyX5_ok nmX5 hown hK hP (ww_D hj) hS 0 cr_mdl rfl 7 (by decide) (hts (.fieldLink RX5 77 "NumberFieldFactorsModel" "known" "Z") (BW_in mw_355)) (fun _ h9 => h9) rfl (by decide +kernel) (by decide) rfl (Nat.le_of_ble_eq_true rfl) dX5_put_75 (fun H locs hP hD hS => ?_)
              have hP := cs_kn hP
              refine lv_iload_n hx hb dX5_put_78 rfl (lv_at hl 0 rfl) ?_
              obtain rfl := Option.some.inj hf
              exact W.zret (v := 1) (ty := .boolean) hx hb hr (by decide) (fun t ht hW => ⟨rfl, ⟨di, by rw [ht]; exact hP⟩, hS.F ht⟩) hS.2.2 dX5_put_79
            · rw [if_pos c51] at hf
              refine lv_iconst (v := 1) hx hb dX5_put_70 (by decide) ?_
              refine lv_goto (tgt := 75) hx hb dX5_put_71 (by decide) ?_
              refine va_put (ci := 5) (v := .int 1) (ty := .boolean) (C := RX5) (T := TX5) (N := 10) hx hb hts (fun w h => BW_in (in_wsX50 w h)) tyX5 tyX5_ok nmX5 hown hK hP (ww_D hj) hS 0 cr_mdl rfl 7 (by decide) (hts (.fieldLink RX5 77 "NumberFieldFactorsModel" "known" "Z") (BW_in mw_355)) (fun _ h9 => h9) rfl (by decide +kernel) (by decide) rfl (Nat.le_of_ble_eq_true rfl) dX5_put_75 (fun H locs hP hD hS => ?_)
              have hP := cs_kn hP
              refine lv_iload_n hx hb dX5_put_78 rfl (lv_at hl 0 rfl) ?_
              obtain rfl := Option.some.inj hf
              exact W.zret (v := 1) (ty := .boolean) hx hb hr (by decide) (fun t ht hW => ⟨rfl, ⟨di, by rw [ht]; exact hP⟩, hS.F ht⟩) hS.2.2 dX5_put_79
      · rw [if_neg c40] at hf
        refine lv_iconst (v := 0) hx hb dX5_put_33 (by decide) ?_
        obtain rfl := Option.some.inj hf
        exact W.zret (v := 0) (ty := .boolean) hx hb hr (by decide) (fun t ht hW => ⟨rfl, ⟨di, by rw [ht]; exact hP⟩, hS.F ht⟩) hS.2.2 dX5_put_34
    · rw [if_pos c37] at hf
      refine lv_iconst (v := 1) hx hb dX5_put_22 (by decide) ?_
      refine lv_goto (tgt := 27) hx hb dX5_put_23 (by decide) ?_
      obtain ⟨u52, g53, hf⟩ := Option.bind_eq_some_iff.mp hf
      try dsimp only at hf
      refine ct_callx (va_runV (As := [.int 1, .int 1]) (rest := []) ⟨hx, hb, hml, hown, hts⟩ (C_X5_fails l D tys hj htI (res := u52) g53) (cwV 2 hts (gu_V mw_356 mw_357 mw_358 mw_330 mw_322) rfl rfl rfl (by decide +kernel) ⟨Nat.le_of_ble_eq_true rfl, Nat.le_of_ble_eq_true rfl⟩) (ct_preVx (w := fun di => ww 6 ad (cellR cI ad th kk mn md rw dg kn fc oft di)) hP hK (ci := 5) (k := 0) rfl cr_mdl) rfl rfl hl.1 rfl (lv_room (Nat.le_of_ble_eq_true rfl)) dX5_put_27 ⟨Nat.zero_le _, Nat.zero_le _⟩) hS (fun di H locs hP hS => ?_)
      refine lv_if_eq (tgt := 35) hx hb dX5_put_30 (by decide) (fun c54 => ?_) (fun c54 => ?_)
      · rw [if_pos c54] at hf
        refine lv_aload_n hx hb dX5_put_35 rfl (lv_at hl 0 rfl) ?_
        refine lv_iconst (v := 0) hx hb dX5_put_36 (by decide) ?_
        refine lv_iload_n hx hb dX5_put_37 rfl (lv_at hl 1 rfl) ?_
        obtain ⟨u55, g56, hf⟩ := Option.bind_eq_some_iff.mp hf
        try dsimp only at hf
        refine ct_callx (va_runV (As := [.int 0, .int p0]) (rest := []) ⟨hx, hb, hml, hown, hts⟩ (C_X5_cell l D tys hj htI (res := u55) g56) (cwV 2 hts (gu_V mw_369 mw_370 mw_371 mw_330 mw_367) rfl rfl rfl (by decide +kernel) ⟨Nat.le_of_ble_eq_true rfl, Nat.le_of_ble_eq_true rfl⟩) (ct_preVx (w := fun di => ww 6 ad (cellR cI ad u52.2 kk mn md rw dg kn fc oft di)) hP hK (ci := 5) (k := 0) rfl cr_mdl) rfl rfl hl.1 rfl (lv_room (Nat.le_of_ble_eq_true rfl)) dX5_put_38 ⟨Nat.zero_le _, Nat.zero_le _⟩) hS (fun di H locs hP hS => ?_)
        refine lv_iload_n hx hb dX5_put_41 rfl (lv_at hl 2 rfl) ?_
        refine lv_icmp_eq (tgt := 49) hx hb dX5_put_42 (by decide) (fun c57 => ?_) (fun c57 => ?_)
        · rw [if_pos c57] at hf
          refine lv_iconst (v := 0) hx hb dX5_put_49 (by decide) ?_
          refine lv_istore_n (lv' := [(3, .int 0), (0, .ref (ad 0)), (1, .int p0), (2, .int p1)]) hx hb dX5_put_50 rfl hl (by decide) rfl (fun ls hl => ?_)
          refine lv_aload_n hx hb dX5_put_51 rfl (lv_at hl 1 rfl) ?_
          refine lv_iconst (v := 0) hx hb dX5_put_52 (by decide) ?_
          refine lv_iload_n hx hb dX5_put_53 rfl (lv_at hl 2 rfl) ?_
          refine lv_iload_n hx hb dX5_put_54 rfl (lv_at hl 3 rfl) ?_
          obtain ⟨u58, g59, hf⟩ := Option.bind_eq_some_iff.mp hf
          try dsimp only at hf
          refine ct_callx (va_runV (As := [.int 0, .int p0, .int p1]) (rest := []) ⟨hx, hb, hml, hown, hts⟩ (C_X5_set l D tys hj htI (res := u58) g59) (cwV 3 hts (gu_V mw_377 mw_378 mw_379 mw_330 mw_366) rfl rfl rfl (by decide +kernel) ⟨Nat.le_of_ble_eq_true rfl, Nat.le_of_ble_eq_true rfl⟩) (ct_preVx (w := fun di => ww 6 ad (cellR cI ad u52.2 kk mn md rw dg kn fc oft di)) hP hK (ci := 5) (k := 0) rfl cr_mdl) rfl rfl hl.1 rfl (lv_room (Nat.le_of_ble_eq_true rfl)) dX5_put_55 ⟨Nat.zero_le _, Nat.zero_le _⟩) hS (fun di H locs hP hS => ?_)
          refine lv_aload_n hx hb dX5_put_58 rfl (lv_at hl 1 rfl) ?_
          refine lv_aload_n hx hb dX5_put_59 rfl (lv_at hl 1 rfl) ?_
          refine va_get (ci := 5) (v := .int kn) (C := RX5) (T := TX5) (N := 10) hx hb hts (fun w h => BW_in (in_wsX50 w h)) hown hK hP 0 cr_mdl rfl 7 (by decide) (hts (.fieldLink RX5 77 "NumberFieldFactorsModel" "known" "Z") (BW_in mw_355)) (fun _ h9 => h9) rfl dX5_put_60 ?_
          refine lv_if_eq (tgt := 74) hx hb dX5_put_63 (by decide) (fun c60 => ?_) (fun c60 => ?_)
          · rw [if_pos c60] at hf
            refine lv_iconst (v := 0) hx hb dX5_put_74 (by decide) ?_
            refine va_put (ci := 5) (v := .int 0) (ty := .boolean) (C := RX5) (T := TX5) (N := 10) hx hb hts (fun w h => BW_in (in_wsX50 w h)) tyX5 tyX5_ok nmX5 hown hK hP (ww_D hj) hS 0 cr_mdl rfl 7 (by decide) (hts (.fieldLink RX5 77 "NumberFieldFactorsModel" "known" "Z") (BW_in mw_355)) (fun _ h9 => h9) rfl (by decide +kernel) (by decide) rfl (Nat.le_of_ble_eq_true rfl) dX5_put_75 (fun H locs hP hD hS => ?_)
            have hP := cs_kn hP
            refine lv_iload_n hx hb dX5_put_78 rfl (lv_at hl 0 rfl) ?_
            obtain rfl := Option.some.inj hf
            exact W.zret (v := 0) (ty := .boolean) hx hb hr (by decide) (fun t ht hW => ⟨rfl, ⟨di, by rw [ht]; exact hP⟩, hS.F ht⟩) hS.2.2 dX5_put_79
          · rw [if_neg c60] at hf
            refine lv_iload_n hx hb dX5_put_66 rfl (lv_at hl 0 rfl) ?_
            refine lv_if_ne (tgt := 74) hx hb dX5_put_67 (by decide) (fun c61 => ?_) (fun c61 => ?_)
            · rw [if_neg c61] at hf
              refine lv_iconst (v := 0) hx hb dX5_put_74 (by decide) ?_
              refine va_put (ci := 5) (v := .int 0) (ty := .boolean) (C := RX5) (T := TX5) (N := 10) hx hb hts (fun w h => BW_in (in_wsX50 w h)) tyX5 tyX5_ok nmX5 hown hK hP (ww_D hj) hS 0 cr_mdl rfl 7 (by decide) (hts (.fieldLink RX5 77 "NumberFieldFactorsModel" "known" "Z") (BW_in mw_355)) (fun _ h9 => h9) rfl (by decide +kernel) (by decide) rfl (Nat.le_of_ble_eq_true rfl) dX5_put_75 (fun H locs hP hD hS => ?_)
              have hP := cs_kn hP
              refine lv_iload_n hx hb dX5_put_78 rfl (lv_at hl 0 rfl) ?_
              obtain rfl := Option.some.inj hf
              exact W.zret (v := 0) (ty := .boolean) hx hb hr (by decide) (fun t ht hW => ⟨rfl, ⟨di, by rw [ht]; exact hP⟩, hS.F ht⟩) hS.2.2 dX5_put_79
            · rw [if_pos c61] at hf
              refine lv_iconst (v := 1) hx hb dX5_put_70 (by decide) ?_
              refine lv_goto (tgt := 75) hx hb dX5_put_71 (by decide) ?_
              refine va_put (ci := 5) (v := .int 1) (ty := .boolean) (C := RX5) (T := TX5) (N := 10) hx hb hts (fun w h => BW_in (in_wsX50 w h)) tyX5 tyX5_ok nmX5 hown hK hP (ww_D hj) hS 0 cr_mdl rfl 7 (by decide) (hts (.fieldLink RX5 77 "NumberFieldFactorsModel" "known" "Z") (BW_in mw_355)) (fun _ h9 => h9) rfl (by decide +kernel) (by decide) rfl (Nat.le_of_ble_eq_true rfl) dX5_put_75 (fun H locs hP hD hS => ?_)
              have hP := cs_kn hP
              refine lv_iload_n hx hb dX5_put_78 rfl (lv_at hl 0 rfl) ?_
              obtain rfl := Option.some.inj hf
              exact W.zret (v := 0) (ty := .boolean) hx hb hr (by decide) (fun t ht hW => ⟨rfl, ⟨di, by rw [ht]; exact hP⟩, hS.F ht⟩) hS.2.2 dX5_put_79
        · rw [if_neg c57] at hf
          refine lv_iconst (v := 1) hx hb dX5_put_45 (by decide) ?_
          refine lv_goto (tgt := 50) hx hb dX5_put_46 (by decide) ?_
          refine lv_istore_n (lv' := [(3, .int 1), (0, .ref (ad 0)), (1, .int p0), (2, .int p1)]) hx hb dX5_put_50 rfl hl (by decide) rfl (fun ls hl => ?_)
          refine lv_aload_n hx hb dX5_put_51 rfl (lv_at hl 1 rfl) ?_
          refine lv_iconst (v := 0) hx hb dX5_put_52 (by decide) ?_
          refine lv_iload_n hx hb dX5_put_53 rfl (lv_at hl 2 rfl) ?_
          refine lv_iload_n hx hb dX5_put_54 rfl (lv_at hl 3 rfl) ?_
          obtain ⟨u62, g63, hf⟩ := Option.bind_eq_some_iff.mp hf
          try dsimp only at hf
          refine ct_callx (va_runV (As := [.int 0, .int p0, .int p1]) (rest := []) ⟨hx, hb, hml, hown, hts⟩ (C_X5_set l D tys hj htI (res := u62) g63) (cwV 3 hts (gu_V mw_377 mw_378 mw_379 mw_330 mw_366) rfl rfl rfl (by decide +kernel) ⟨Nat.le_of_ble_eq_true rfl, Nat.le_of_ble_eq_true rfl⟩) (ct_preVx (w := fun di => ww 6 ad (cellR cI ad u52.2 kk mn md rw dg kn fc oft di)) hP hK (ci := 5) (k := 0) rfl cr_mdl) rfl rfl hl.1 rfl (lv_room (Nat.le_of_ble_eq_true rfl)) dX5_put_55 ⟨Nat.zero_le _, Nat.zero_le _⟩) hS (fun di H locs hP hS => ?_)
          refine lv_aload_n hx hb dX5_put_58 rfl (lv_at hl 1 rfl) ?_
          refine lv_aload_n hx hb dX5_put_59 rfl (lv_at hl 1 rfl) ?_
          refine va_get (ci := 5) (v := .int kn) (C := RX5) (T := TX5) (N := 10) hx hb hts (fun w h => BW_in (in_wsX50 w h)) hown hK hP 0 cr_mdl rfl 7 (by decide) (hts (.fieldLink RX5 77 "NumberFieldFactorsModel" "known" "Z") (BW_in mw_355)) (fun _ h9 => h9) rfl dX5_put_60 ?_
          refine lv_if_eq (tgt := 74) hx hb dX5_put_63 (by decide) (fun c64 => ?_) (fun c64 => ?_)
          · rw [if_pos c64] at hf
            refine lv_iconst (v := 0) hx hb dX5_put_74 (by decide) ?_
            refine va_put (ci := 5) (v := .int 0) (ty := .boolean) (C := RX5) (T := TX5) (N := 10) hx hb hts (fun w h => BW_in (in_wsX50 w h)) tyX5 tyX5_ok nmX5 hown hK hP (ww_D hj) hS 0 cr_mdl rfl 7 (by decide) (hts (.fieldLink RX5 77 "NumberFieldFactorsModel" "known" "Z") (BW_in mw_355)) (fun _ h9 => h9) rfl (by decide +kernel) (by decide) rfl (Nat.le_of_ble_eq_true rfl) dX5_put_75 (fun H locs hP hD hS => ?_)
            have hP := cs_kn hP
            refine lv_iload_n hx hb dX5_put_78 rfl (lv_at hl 0 rfl) ?_
            obtain rfl := Option.some.inj hf
            exact W.zret (v := 1) (ty := .boolean) hx hb hr (by decide) (fun t ht hW => ⟨rfl, ⟨di, by rw [ht]; exact hP⟩, hS.F ht⟩) hS.2.2 dX5_put_79
          · rw [if_neg c64] at hf
            refine lv_iload_n hx hb dX5_put_66 rfl (lv_at hl 0 rfl) ?_
            refine lv_if_ne (tgt := 74) hx hb dX5_put_67 (by decide) (fun c65 => ?_) (fun c65 => ?_)
            · rw [if_neg c65] at hf
              refine lv_iconst (v := 0) hx hb dX5_put_74 (by decide) ?_
              refine va_put (ci := 5) (v := .int 0) (ty := .boolean) (C := RX5) (T := TX5) (N := 10) hx hb hts (fun w h => BW_in (in_wsX50 w h)) tyX5 tyX5_ok nmX5 hown hK hP (ww_D hj) hS 0 cr_mdl rfl 7 (by decide) (hts (.fieldLink RX5 77 "NumberFieldFactorsModel" "known" "Z") (BW_in mw_355)) (fun _ h9 => h9) rfl (by decide +kernel) (by decide) rfl (Nat.le_of_ble_eq_true rfl) dX5_put_75 (fun H locs hP hD hS => ?_)
              have hP := cs_kn hP
              refine lv_iload_n hx hb dX5_put_78 rfl (lv_at hl 0 rfl) ?_
              obtain rfl := Option.some.inj hf
              exact W.zret (v := 1) (ty := .boolean) hx hb hr (by decide) (fun t ht hW => ⟨rfl, ⟨di, by rw [ht]; exact hP⟩, hS.F ht⟩) hS.2.2 dX5_put_79
            · rw [if_pos c65] at hf
              refine lv_iconst (v := 1) hx hb dX5_put_70 (by decide) ?_
              refine lv_goto (tgt := 75) hx hb dX5_put_71 (by decide) ?_
              refine va_put (ci := 5) (v := .int 1) (ty := .boolean) (C := RX5) (T := TX5) (N := 10) hx hb hts (fun w h => BW_in (in_wsX50 w h)) tyX5 tyX5_ok nmX5 hown hK hP (ww_D hj) hS 0 cr_mdl rfl 7 (by decide) (hts (.fieldLink RX5 77 "NumberFieldFactorsModel" "known" "Z") (BW_in mw_355)) (fun _ h9 => h9) rfl (by decide +kernel) (by decide) rfl (Nat.le_of_ble_eq_true rfl) dX5_put_75 (fun H locs hP hD hS => ?_)
              have hP := cs_kn hP
              refine lv_iload_n hx hb dX5_put_78 rfl (lv_at hl 0 rfl) ?_
              obtain rfl := Option.some.inj hf
              exact W.zret (v := 1) (ty := .boolean) hx hb hr (by decide) (fun t ht hW => ⟨rfl, ⟨di, by rw [ht]; exact hP⟩, hS.F ht⟩) hS.2.2 dX5_put_79
      · rw [if_neg c54] at hf
        refine lv_iconst (v := 0) hx hb dX5_put_33 (by decide) ?_
        obtain rfl := Option.some.inj hf
        exact W.zret (v := 0) (ty := .boolean) hx hb hr (by decide) (fun t ht hW => ⟨rfl, ⟨di, by rw [ht]; exact hP⟩, hS.F ht⟩) hS.2.2 dX5_put_34
def f_X5_at (th : Int32) (rw : Nat → Int32) (p0 : Int32) : Option (Int32 × (Int32)) :=
  (f_X5_isPower p0).bind (fun u1 =>
  ((
    if u1 = 0 then
      some 1
    else
      some 0 : Option (Int32))).bind (fun w3 =>
  (f_X5_fails th w3 0).bind (fun u5 =>
  if u5.1 = 0 then
    (f_X5_cell rw 0 p0).bind (fun u8 =>
    some (u8, u5.2))
  else
    some (0, u5.2))))
set_option maxHeartbeats 4000000 in
set_option maxRecDepth 100000 in
theorem C_X5_at (l : Launch) (D : va_G) (tys : List (ClassId × FieldType)) {ad : Nat → Nat} (hj : ww_inj 6 ad) {cI : ClassId} (htI : tys[0]? = some (cI, .int)) {th : Int32} {kk : Int32} {mn : Int64} {md : Nat → Int32} {rw : Nat → Int32} {dg : Nat → Int32} {kn : Int32} {fc : Int32} {oft : Nat → Int32} {p0 : Int32} {res : Int32 × (Int32)} (hf : f_X5_at th rw p0 = some res) :
    Met l yX5_at usX5_at ({ frames := 1, cells := 0, slots := 0, locals := 22 }) (va_Pc [.ref (ad 0), .int p0] (ws_Bx D tys (fun di => ww 6 ad (cellR cI ad th kk mn md rw dg kn fc oft di)))) (ct_Qx D (fun di => ww 6 ad (cellR cI ad res.2 kk mn md rw dg kn fc oft di)) (ww_A 6 ad) (some (.int res.1))) 0 0 (ww_A 6 ad) := by
  refine Met.ofW (cc := cX5_at) (maxL := 2) (ret := (some .int)) (by decide) rfl ?_
  intro p e s m args below meth c s₁ B hml hv
  obtain ⟨rfl, ⟨di, hP⟩, hK⟩ := hv
  have hx := B.exec
  have hb := B.bytes
  have hr := B.returns
  have hts := atoms_spec (ws := usX5_at) B.pre
  have hown : s.vm.findClass RX5 = some m.cls := findClass_of_methodNamed B.named
  have hlocks := B.notSynchronized
  have hS : va_S (ww_A 6 ad) s.heap s.heap [] := va_S.rf
  have hl := lv_entry ([.ref (ad 0), .int p0]) (n := 2) (Nat.le_of_ble_eq_true rfl)
  rw [lg_entry_eq]
  generalize (lg_sl ([.ref (ad 0), .int p0]) ++ List.replicate (2 - (lg_sl ([.ref (ad 0), .int p0])).length) Slot.unset).toArray = ls at hl ⊢
  have hl : lv_has ls 2 [(0, .ref (ad 0)), (1, .int p0)] := hl
  unfold f_X5_at at hf
  refine lv_aload_n hx hb dX5_at_0 rfl (lv_at hl 0 rfl) ?_
  refine lv_aload_n hx hb dX5_at_1 rfl (lv_at hl 0 rfl) ?_
  refine lv_iload_n hx hb dX5_at_2 rfl (lv_at hl 1 rfl) ?_
  obtain ⟨u1, g2, hf⟩ := Option.bind_eq_some_iff.mp hf
  try dsimp only at hf
  refine ct_callx (va_runV (As := [.int p0]) (rest := [.ref (ad 0)]) ⟨hx, hb, hml, hown, hts⟩ (C_X5_isPower l D tys hj htI (res := u1) g2) (cwV 1 hts (gu_V mw_400 mw_401 mw_402 mw_330 mw_399) rfl rfl rfl (by decide +kernel) ⟨Nat.le_of_ble_eq_true rfl, Nat.le_of_ble_eq_true rfl⟩) (ct_preVx (w := fun di => ww 6 ad (cellR cI ad th kk mn md rw dg kn fc oft di)) hP hK (ci := 5) (k := 0) rfl cr_mdl) rfl rfl hl.1 rfl (lv_room (Nat.le_of_ble_eq_true rfl)) dX5_at_3 ⟨Nat.zero_le _, Nat.zero_le _⟩) hS (fun di H locs hP hS => ?_)
  obtain ⟨w3, gw3, hf⟩ := Option.bind_eq_some_iff.mp hf
  try dsimp only at hf
  have hJ14_w3 : ∀ (di : Nat → Int32) (H : Heap) (locs : List Loc) (ls : Array Slot), va_P D vwCl (ww 6 ad (cellR cI ad th kk mn md rw dg kn fc oft di)) H → va_S (ww_A 6 ad) s.heap H locs → lv_has ls 2 [(0, .ref (ad 0)), (1, .int p0)] → W p l e (headSpec usX5_at { frames := 1, cells := 0, slots := 0, locals := 22 }).room s m [.ref (ad 0), .int p0].toArray below meth c H locs 0 0 (MQ below (ct_Qx D (fun di => ww 6 ad (cellR cI ad res.2 kk mn md rw dg kn fc oft di)) (ww_A 6 ad) (some (.int res.1))) [.ref (ad 0), .int p0].toArray s 0 0 (ww_A 6 ad)) (F0 m 14 ls [.int w3, .ref (ad 0)]) := by
    intro di H locs ls hP hS hl
    refine lv_iconst (v := 0) hx hb dX5_at_14 (by decide) ?_
    obtain ⟨u5, g6, hf⟩ := Option.bind_eq_some_iff.mp hf
    try dsimp only at hf
    refine ct_callx (va_runV (As := [.int w3, .int 0]) (rest := []) ⟨hx, hb, hml, hown, hts⟩ (C_X5_fails l D tys hj htI (res := u5) g6) (cwV 2 hts (gu_V mw_356 mw_357 mw_358 mw_330 mw_322) rfl rfl rfl (by decide +kernel) ⟨Nat.le_of_ble_eq_true rfl, Nat.le_of_ble_eq_true rfl⟩) (ct_preVx (w := fun di => ww 6 ad (cellR cI ad th kk mn md rw dg kn fc oft di)) hP hK (ci := 5) (k := 0) rfl cr_mdl) rfl rfl hl.1 rfl (lv_room (Nat.le_of_ble_eq_true rfl)) dX5_at_15 ⟨Nat.zero_le _, Nat.zero_le _⟩) hS (fun di H locs hP hS => ?_)
    refine lv_if_eq (tgt := 23) hx hb dX5_at_18 (by decide) (fun c7 => ?_) (fun c7 => ?_)
    · rw [if_pos c7] at hf
      refine lv_aload_n hx hb dX5_at_23 rfl (lv_at hl 0 rfl) ?_
      refine lv_iconst (v := 0) hx hb dX5_at_24 (by decide) ?_
      refine lv_iload_n hx hb dX5_at_25 rfl (lv_at hl 1 rfl) ?_
      obtain ⟨u8, g9, hf⟩ := Option.bind_eq_some_iff.mp hf
      try dsimp only at hf
      refine ct_callx (va_runV (As := [.int 0, .int p0]) (rest := []) ⟨hx, hb, hml, hown, hts⟩ (C_X5_cell l D tys hj htI (res := u8) g9) (cwV 2 hts (gu_V mw_369 mw_370 mw_371 mw_330 mw_367) rfl rfl rfl (by decide +kernel) ⟨Nat.le_of_ble_eq_true rfl, Nat.le_of_ble_eq_true rfl⟩) (ct_preVx (w := fun di => ww 6 ad (cellR cI ad u5.2 kk mn md rw dg kn fc oft di)) hP hK (ci := 5) (k := 0) rfl cr_mdl) rfl rfl hl.1 rfl (lv_room (Nat.le_of_ble_eq_true rfl)) dX5_at_26 ⟨Nat.zero_le _, Nat.zero_le _⟩) hS (fun di H locs hP hS => ?_)
      obtain rfl := Option.some.inj hf
      exact W.iret (v := u8) hx hb hr (fun t ht hW => ⟨rfl, ⟨di, by rw [ht]; exact hP⟩, hS.F ht⟩) hS.2.2 dX5_at_29
    · rw [if_neg c7] at hf
      refine lv_iconst (v := 0) hx hb dX5_at_21 (by decide) ?_
      obtain rfl := Option.some.inj hf
      exact W.iret (v := 0) hx hb hr (fun t ht hW => ⟨rfl, ⟨di, by rw [ht]; exact hP⟩, hS.F ht⟩) hS.2.2 dX5_at_22
  refine lv_if_ne (tgt := 13) hx hb dX5_at_6 (by decide) (fun c4 => ?_) (fun c4 => ?_)
  · rw [if_neg c4] at gw3
    refine lv_iconst (v := 0) hx hb dX5_at_13 (by decide) ?_
    obtain rfl := Option.some.inj gw3
    exact hJ14_w3 _ _ _ _ hP hS (lv_sub hl [0, 1] rfl)
  · rw [if_pos c4] at gw3
    refine lv_iconst (v := 1) hx hb dX5_at_9 (by decide) ?_
    refine lv_goto (tgt := 14) hx hb dX5_at_10 (by decide) ?_
    obtain rfl := Option.some.inj gw3
    exact hJ14_w3 _ _ _ _ hP hS (lv_sub hl [0, 1] rfl)
