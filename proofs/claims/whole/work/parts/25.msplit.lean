def f_X5_parts_l47 (k47 : Int32 → Int32 → (Nat → Int32) → (Nat → Int32) → (Int32) → Option ((Nat → Int32) × (Nat → Int32) × (Int32))) (fu : Nat) (kk : Int32) (mn : Int64) (md : Nat → Int32) (x1 : Int32) (x3 : Int64) : Nat → Int32 → Int32 → (Nat → Int32) → (Nat → Int32) → (Int32) → Option ((Nat → Int32) × (Nat → Int32) × (Int32))
  | 0, _, _, _, _, _ => none
  | n + 1, x2, x5, rw, dg, fc =>
    if x2 ≤ 0 then
      k47 x2 x5 rw dg fc
    else
      if 0 ≤ (lg_cmp x5.toInt64 mn) then
        k47 x2 x5 rw dg fc
      else
        nm ((10 + x2) - 1) (fun v7 =>
        if v7 < 0 ∨ 25 ≤ (v7).toNatClampNeg then none else
        if (dg (v7).toNatClampNeg) = x1 then
          (f_X5_found fu rw dg fc v7).bind (fun u43 =>
          f_X5_parts_l47 k47 fu kk mn md x1 x3 n (x2 + (-1)) 0 u43.1 u43.2.1 u43.2.2)
        else
          (f_X5_clear fu rw dg 2).bind (fun u10 =>
          (f_X5_set fu u10.1 u10.2 2 0 x5).bind (fun u12 =>
          (f_X5_set fu u12.1 u12.2 2 1 1).bind (fun u14 =>
          (f_X5_powers fu kk mn md u14.1 u14.2 2 x3 v7 9).bind (fun u16 =>
          (f_X5_cell u16.1 9 0).bind (fun u18 =>
          (f_X5_less u18 1).bind (fun u20 =>
          (f_X5_set fu u16.1 u16.2 9 0 u20).bind (fun u22 =>
          (f_X5_copy fu u22.1 u22.2 v7 2).bind (fun u24 =>
          (f_X5_copy fu u24.1 u24.2 9 3).bind (fun u26 =>
          (f_X5_divisor fu kk mn md u26.1 u26.2 2 3).bind (fun u28 =>
          if (2 : Int32) < 0 ∨ 25 ≤ (2 : Int32).toNatClampNeg then none else
          ((
            if (u28.2 (2 : Int32).toNatClampNeg) ≤ 0 then
              some (x2, (x5 + 1), u28.1, u28.2)
            else
              if (2 : Int32) < 0 ∨ 25 ≤ (2 : Int32).toNatClampNeg then none else
              if v7 < 0 ∨ 25 ≤ (v7).toNatClampNeg then none else
              ((
                if (u28.2 (v7).toNatClampNeg) ≤ (u28.2 (2 : Int32).toNatClampNeg) then
                  some (x2, (x5 + 1), u28.1, u28.2)
                else
                  (f_X5_copy fu u28.1 u28.2 v7 3).bind (fun u37 =>
                  (f_X5_divide fu kk mn md u37.1 u37.2 3 2 v7).bind (fun u39 =>
                  (f_X5_copy fu u39.1 u39.2 2 (v7 + 1)).bind (fun u41 =>
                  some ((x2 + 1), 0, u41.1, u41.2)))) : Option (Int32 × Int32 × (Nat → Int32) × (Nat → Int32)))).bind (fun w35 =>
              some (w35.1, w35.2.1, w35.2.2.1, w35.2.2.2)) : Option (Int32 × Int32 × (Nat → Int32) × (Nat → Int32)))).bind (fun w31 =>
          f_X5_parts_l47 k47 fu kk mn md x1 x3 n w31.1 w31.2.1 w31.2.2.1 w31.2.2.2 fc))))))))))))
def f_X5_parts (fu : Nat) (kk : Int32) (mn : Int64) (md : Nat → Int32) (rw : Nat → Int32) (dg : Nat → Int32) (fc : Int32) (p0 : Int32) : Option ((Nat → Int32) × (Nat → Int32) × (Int32)) :=
  (f_X5_copy fu rw dg 7 10).bind (fun u1 =>
  ((
    if p0 = 1 then
      some ((mn - 1) / 2)
    else
      some (((mn * mn) - 1) / 2) : Option (Int64))).bind (fun w3 =>
  f_X5_parts_l47 (fun y45 y46 rw47 dg48 fc49 =>
    some (rw47, dg48, fc49)) fu kk mn md p0 w3 fu 1 0 u1.1 u1.2 fc))
set_option maxHeartbeats 4000000 in
set_option maxRecDepth 100000 in
theorem C_X5_parts (l : Launch) (D : va_G) (tys : List (ClassId × FieldType)) {ad : Nat → Nat} (hj : ww_inj 6 ad) {cI : ClassId} (htI : tys[0]? = some (cI, .int)) {fu : Nat} {th : Int32} {kk : Int32} {mn : Int64} {md : Nat → Int32} {rw : Nat → Int32} {dg : Nat → Int32} {kn : Int32} {fc : Int32} {oft : Nat → Int32} {p0 : Int32} {res : (Nat → Int32) × (Nat → Int32) × (Int32)} (hf : f_X5_parts fu kk mn md rw dg fc p0 = some res) :
    Met l yX5_parts usX5_parts ({ frames := 6, cells := 0, slots := 0, locals := 149 }) (va_Pc [.ref (ad 0), .int p0] (ws_Bx D tys (fun di => ww 6 ad (cellR cI ad th kk mn md rw dg kn fc oft di)))) (ct_Qx D (fun di => ww 6 ad (cellR cI ad th kk mn md res.1 res.2.1 kn res.2.2 oft di)) (ww_A 6 ad) (none)) 0 0 (ww_A 6 ad) := by
  refine Met.ofW (cc := cX5_parts) (maxL := 7) (ret := none) (by decide) rfl ?_
  intro p e s m args below meth c s₁ B hml hv
  obtain ⟨rfl, ⟨di, hP⟩, hK⟩ := hv
  have hx := B.exec
  have hb := B.bytes
  have hr := B.returns
  have hts := atoms_spec (ws := usX5_parts) B.pre
  have hown : s.vm.findClass RX5 = some m.cls := findClass_of_methodNamed B.named
  have hlocks := B.notSynchronized
  have hS : va_S (ww_A 6 ad) s.heap s.heap [] := va_S.rf
  have hl := lv_entry ([.ref (ad 0), .int p0]) (n := 7) (Nat.le_of_ble_eq_true rfl)
  rw [lg_entry_eq]
  generalize (lg_sl ([.ref (ad 0), .int p0]) ++ List.replicate (7 - (lg_sl ([.ref (ad 0), .int p0])).length) Slot.unset).toArray = ls at hl ⊢
  have hl : lv_has ls 7 [(0, .ref (ad 0)), (1, .int p0)] := hl
  have L47 : ∀ (x1 : Int32) (x3 : Int64) (k47 : Int32 → Int32 → (Nat → Int32) → (Nat → Int32) → (Int32) → Option ((Nat → Int32) × (Nat → Int32) × (Int32))), (∀ (x2 : Int32) (x5 : Int32) (rw : Nat → Int32) (dg : Nat → Int32) (fc : Int32) (di : Nat → Int32) (H : Heap) (locs : List Loc) (ls : Array Slot), va_P D vwCl (ww 6 ad (cellR cI ad th kk mn md rw dg kn fc oft di)) H → va_S (ww_A 6 ad) s.heap H locs → lv_has ls 7 [(0, .ref (ad 0)), (1, .int x1), (2, .int x2), (3, .long x3), (5, .int x5)] →  k47 x2 x5 rw dg fc = some res → W p l e (headSpec usX5_parts { frames := 6, cells := 0, slots := 0, locals := 149 }).room s m [.ref (ad 0), .int p0].toArray below meth c H locs 0 0 (MQ below (ct_Qx D (fun di => ww 6 ad (cellR cI ad th kk mn md res.1 res.2.1 kn res.2.2 oft di)) (ww_A 6 ad) (none)) [.ref (ad 0), .int p0].toArray s 0 0 (ww_A 6 ad)) (F0 m 225 ls [])) → ∀ (n : Nat) (x2 : Int32) (x5 : Int32) (rw : Nat → Int32) (dg : Nat → Int32) (fc : Int32) (di : Nat → Int32) (H : Heap) (locs : List Loc) (ls : Array Slot), va_P D vwCl (ww 6 ad (cellR cI ad th kk mn md rw dg kn fc oft di)) H → va_S (ww_A 6 ad) s.heap H locs → lv_has ls 7 [(0, .ref (ad 0)), (1, .int x1), (2, .int x2), (3, .long x3), (5, .int x5)] →  f_X5_parts_l47 k47 fu kk mn md x1 x3 n x2 x5 rw dg fc = some res → W p l e (headSpec usX5_parts { frames := 6, cells := 0, slots := 0, locals := 149 }).room s m [.ref (ad 0), .int p0].toArray below meth c H locs 0 0 (MQ below (ct_Qx D (fun di => ww 6 ad (cellR cI ad th kk mn md res.1 res.2.1 kn res.2.2 oft di)) (ww_A 6 ad) (none)) [.ref (ad 0), .int p0].toArray s 0 0 (ww_A 6 ad)) (F0 m 47 ls []) := by
    intro x1 x3 k47 hk_47 n
    induction n with
    | zero => intro x2 x5 rw dg fc di H locs ls hP hS hl hf; rw [f_X5_parts_l47] at hf; cases hf
    | succ n ih =>
      intro x2 x5 rw dg fc di H locs ls hP hS hl hf
      rw [f_X5_parts_l47] at hf
      refine lv_iload_n hx hb dX5_parts_47 rfl (lv_at hl 2 rfl) ?_
      refine lv_if_le (tgt := 225) hx hb dX5_parts_48 (by decide) (fun c5 => ?_) (fun c5 => ?_)
      · rw [if_pos c5] at hf
        exact hk_47 x2 x5 rw dg fc _ _ _ _ hP hS (lv_sub hl [0, 1, 2, 3, 4] rfl) hf
      · rw [if_neg c5] at hf
        refine lv_iload hx hb dX5_parts_51 (lv_at hl 4 rfl) ?_
        refine lv_i2l hx hb dX5_parts_53 rfl ?_
        refine lv_aload_n hx hb dX5_parts_54 rfl (lv_at hl 0 rfl) ?_
        refine va_get (ci := 5) (v := .long mn) (C := RX5) (T := TX5) (N := 10) hx hb hts (fun w h => BW_in (in_wsX50 w h)) hown hK hP 0 cr_mdl rfl 2 (by decide) (hts (.fieldLink RX5 15 "NumberFieldFactorsModel" "many" "J") (BW_in mw_314)) (fun _ h9 => h9) rfl dX5_parts_55 ?_
        refine W.lcmp hx hb dX5_parts_58 ?_
        refine lv_if_ge (tgt := 225) hx hb dX5_parts_59 (by decide) (fun c6 => ?_) (fun c6 => ?_)
        · rw [if_pos c6] at hf
          exact hk_47 x2 x5 rw dg fc _ _ _ _ hP hS (lv_sub hl [0, 1, 2, 3, 4] rfl) hf
        · rw [if_neg c6] at hf
          refine lv_bipush (v := 10) hx hb dX5_parts_62 (by decide) ?_
          refine lv_iload_n hx hb dX5_parts_64 rfl (lv_at hl 2 rfl) ?_
          refine lv_iadd hx hb dX5_parts_65 ?_
          refine lv_iconst (v := 1) hx hb dX5_parts_66 (by decide) ?_
          refine lv_isub hx hb dX5_parts_67 ?_
          obtain ⟨v7, ev7, hf⟩ := nm_elim hf
          try dsimp only at hf
          refine tp_I ev7 ?_
          refine lv_istore (lv' := [(6, .int v7), (0, .ref (ad 0)), (1, .int x1), (2, .int x2), (3, .long x3), (5, .int x5)]) hx hb dX5_parts_68 hl (by decide) rfl (fun ls hl => ?_)
          refine lv_aload_n hx hb dX5_parts_70 rfl (lv_at hl 1 rfl) ?_
          refine va_get (ci := 5) (v := .ref (ad 4)) (C := RX5) (T := TX5) (N := 10) hx hb hts (fun w h => BW_in (in_wsX50 w h)) hown hK hP 0 cr_mdl rfl 6 (by decide) (hts (.fieldLink RX5 29 "NumberFieldFactorsModel" "degree" "[I") (BW_in mw_318)) (fun _ h9 => h9) rfl dX5_parts_71 ?_
          refine lv_iload hx hb dX5_parts_74 (lv_at hl 0 rfl) ?_
          by_cases b8 : v7 < 0 ∨ 25 ≤ (v7).toNatClampNeg
          · rw [if_pos b8] at hf; cases hf
          rw [if_neg b8] at hf
          refine va_iald hx hb hK hP 4 0 cr_dg htI b8 dX5_parts_76 ?_
          refine lv_iload_n hx hb dX5_parts_77 rfl (lv_at hl 2 rfl) ?_
          refine lv_icmp_ne (tgt := 96) hx hb dX5_parts_78 (by decide) (fun c9 => ?_) (fun c9 => ?_)
          · rw [if_neg c9] at hf
            refine lv_aload_n hx hb dX5_parts_96 rfl (lv_at hl 1 rfl) ?_
            refine lv_iconst (v := 2) hx hb dX5_parts_97 (by decide) ?_
            obtain ⟨u10, g11, hf⟩ := Option.bind_eq_some_iff.mp hf
            try dsimp only at hf
            refine ct_callx (va_runV (As := [.int 2]) (rest := []) ⟨hx, hb, hml, hown, hts⟩ (C_X5_clear l D tys hj htI (res := u10) g11) (cwV 1 hts (gu_V mw_361 mw_362 mw_363 mw_330 mw_351) rfl rfl rfl (by decide +kernel) ⟨Nat.le_of_ble_eq_true rfl, Nat.le_of_ble_eq_true rfl⟩) (ct_preVx (w := fun di => ww 6 ad (cellR cI ad th kk mn md rw dg kn fc oft di)) hP hK (ci := 5) (k := 0) rfl cr_mdl) rfl rfl hl.1 rfl (lv_room (Nat.le_of_ble_eq_true rfl)) dX5_parts_98 ⟨Nat.zero_le _, Nat.zero_le _⟩) hS (fun di H locs hP hS => ?_)
            refine lv_aload_n hx hb dX5_parts_101 rfl (lv_at hl 1 rfl) ?_
            refine lv_iconst (v := 2) hx hb dX5_parts_102 (by decide) ?_
            refine lv_iconst (v := 0) hx hb dX5_parts_103 (by decide) ?_
            refine lv_iload hx hb dX5_parts_104 (lv_at hl 5 rfl) ?_
            obtain ⟨u12, g13, hf⟩ := Option.bind_eq_some_iff.mp hf
            try dsimp only at hf
            refine ct_callx (va_runV (As := [.int 2, .int 0, .int x5]) (rest := []) ⟨hx, hb, hml, hown, hts⟩ (C_X5_set l D tys hj htI (res := u12) g13) (cwV 3 hts (gu_V mw_377 mw_378 mw_379 mw_330 mw_366) rfl rfl rfl (by decide +kernel) ⟨Nat.le_of_ble_eq_true rfl, Nat.le_of_ble_eq_true rfl⟩) (ct_preVx (w := fun di => ww 6 ad (cellR cI ad th kk mn md u10.1 u10.2 kn fc oft di)) hP hK (ci := 5) (k := 0) rfl cr_mdl) rfl rfl hl.1 rfl (lv_room (Nat.le_of_ble_eq_true rfl)) dX5_parts_106 ⟨Nat.zero_le _, Nat.zero_le _⟩) hS (fun di H locs hP hS => ?_)
            refine lv_aload_n hx hb dX5_parts_109 rfl (lv_at hl 1 rfl) ?_
            refine lv_iconst (v := 2) hx hb dX5_parts_110 (by decide) ?_
            refine lv_iconst (v := 1) hx hb dX5_parts_111 (by decide) ?_
            refine lv_iconst (v := 1) hx hb dX5_parts_112 (by decide) ?_
            obtain ⟨u14, g15, hf⟩ := Option.bind_eq_some_iff.mp hf
            try dsimp only at hf
            refine ct_callx (va_runV (As := [.int 2, .int 1, .int 1]) (rest := []) ⟨hx, hb, hml, hown, hts⟩ (C_X5_set l D tys hj htI (res := u14) g15) (cwV 3 hts (gu_V mw_377 mw_378 mw_379 mw_330 mw_366) rfl rfl rfl (by decide +kernel) ⟨Nat.le_of_ble_eq_true rfl, Nat.le_of_ble_eq_true rfl⟩) (ct_preVx (w := fun di => ww 6 ad (cellR cI ad th kk mn md u12.1 u12.2 kn fc oft di)) hP hK (ci := 5) (k := 0) rfl cr_mdl) rfl rfl hl.1 rfl (lv_room (Nat.le_of_ble_eq_true rfl)) dX5_parts_113 ⟨Nat.zero_le _, Nat.zero_le _⟩) hS (fun di H locs hP hS => ?_)
            refine lv_aload_n hx hb dX5_parts_116 rfl (lv_at hl 1 rfl) ?_
            refine lv_iconst (v := 2) hx hb dX5_parts_117 (by decide) ?_
            refine lv_lload_n hx hb dX5_parts_118 rfl (lv_at hl 4 rfl) ?_
            refine lv_iload hx hb dX5_parts_119 (lv_at hl 0 rfl) ?_
            refine lv_bipush (v := 9) hx hb dX5_parts_121 (by decide) ?_
            obtain ⟨u16, g17, hf⟩ := Option.bind_eq_some_iff.mp hf
            try dsimp only at hf
            refine ct_callx (va_runV (As := [.int 2, .long x3, .int v7, .int 9]) (rest := []) ⟨hx, hb, hml, hown, hts⟩ (C_X5_powers l D tys hj htI (res := u16) g17) (cwV 4 hts (gu_V mw_431 mw_432 mw_433 mw_330 mw_396) rfl rfl rfl (by decide +kernel) ⟨Nat.le_of_ble_eq_true rfl, Nat.le_of_ble_eq_true rfl⟩) (ct_preVx (w := fun di => ww 6 ad (cellR cI ad th kk mn md u14.1 u14.2 kn fc oft di)) hP hK (ci := 5) (k := 0) rfl cr_mdl) rfl rfl hl.1 rfl (lv_room (Nat.le_of_ble_eq_true rfl)) dX5_parts_123 ⟨Nat.zero_le _, Nat.zero_le _⟩) hS (fun di H locs hP hS => ?_)
            refine lv_aload_n hx hb dX5_parts_126 rfl (lv_at hl 1 rfl) ?_
            refine lv_bipush (v := 9) hx hb dX5_parts_127 (by decide) ?_
            refine lv_iconst (v := 0) hx hb dX5_parts_129 (by decide) ?_
            refine lv_aload_n hx hb dX5_parts_130 rfl (lv_at hl 1 rfl) ?_
            refine lv_bipush (v := 9) hx hb dX5_parts_131 (by decide) ?_
            refine lv_iconst (v := 0) hx hb dX5_parts_133 (by decide) ?_
            obtain ⟨u18, g19, hf⟩ := Option.bind_eq_some_iff.mp hf
            try dsimp only at hf
            refine ct_callx (va_runV (As := [.int 9, .int 0]) (rest := [.int 0, .int 9, .ref (ad 0)]) ⟨hx, hb, hml, hown, hts⟩ (C_X5_cell l D tys hj htI (res := u18) g19) (cwV 2 hts (gu_V mw_369 mw_370 mw_371 mw_330 mw_367) rfl rfl rfl (by decide +kernel) ⟨Nat.le_of_ble_eq_true rfl, Nat.le_of_ble_eq_true rfl⟩) (ct_preVx (w := fun di => ww 6 ad (cellR cI ad th kk mn md u16.1 u16.2 kn fc oft di)) hP hK (ci := 5) (k := 0) rfl cr_mdl) rfl rfl hl.1 rfl (lv_room (Nat.le_of_ble_eq_true rfl)) dX5_parts_134 ⟨Nat.zero_le _, Nat.zero_le _⟩) hS (fun di H locs hP hS => ?_)
            refine lv_iconst (v := 1) hx hb dX5_parts_137 (by decide) ?_
            obtain ⟨u20, g21, hf⟩ := Option.bind_eq_some_iff.mp hf
            try dsimp only at hf
            refine ct_callx (va_runS (As := [.int u18, .int 1]) (rest := [.int 0, .int 9, .ref (ad 0)]) ⟨hx, hb, hml, hown, hts⟩ (C_X5_less l D tys hj htI (res := u20) g21) (cwS 2 hts (gu_S mw_375 mw_376 mw_330 mw_327) rfl rfl rfl (by decide +kernel) ⟨Nat.le_of_ble_eq_true rfl, Nat.le_of_ble_eq_true rfl⟩) (ct_preSx (w := fun di => ww 6 ad (cellR cI ad th kk mn md u16.1 u16.2 kn fc oft di)) hP hK) rfl rfl hl.1 rfl (lv_room (Nat.le_of_ble_eq_true rfl)) dX5_parts_138 ⟨Nat.zero_le _, Nat.zero_le _⟩) hS (fun di H locs hP hS => ?_)
            obtain ⟨u22, g23, hf⟩ := Option.bind_eq_some_iff.mp hf
            try dsimp only at hf
            refine ct_callx (va_runV (As := [.int 9, .int 0, .int u20]) (rest := []) ⟨hx, hb, hml, hown, hts⟩ (C_X5_set l D tys hj htI (res := u22) g23) (cwV 3 hts (gu_V mw_377 mw_378 mw_379 mw_330 mw_366) rfl rfl rfl (by decide +kernel) ⟨Nat.le_of_ble_eq_true rfl, Nat.le_of_ble_eq_true rfl⟩) (ct_preVx (w := fun di => ww 6 ad (cellR cI ad th kk mn md u16.1 u16.2 kn fc oft di)) hP hK (ci := 5) (k := 0) rfl cr_mdl) rfl rfl hl.1 rfl (lv_room (Nat.le_of_ble_eq_true rfl)) dX5_parts_141 ⟨Nat.zero_le _, Nat.zero_le _⟩) hS (fun di H locs hP hS => ?_)
            refine lv_aload_n hx hb dX5_parts_144 rfl (lv_at hl 1 rfl) ?_
            refine lv_iload hx hb dX5_parts_145 (lv_at hl 0 rfl) ?_
            refine lv_iconst (v := 2) hx hb dX5_parts_147 (by decide) ?_
            obtain ⟨u24, g25, hf⟩ := Option.bind_eq_some_iff.mp hf
            try dsimp only at hf
            refine ct_callx (va_runV (As := [.int v7, .int 2]) (rest := []) ⟨hx, hb, hml, hown, hts⟩ (C_X5_copy l D tys hj htI (res := u24) g25) (cwV 2 hts (gu_V mw_385 mw_386 mw_387 mw_330 mw_365) rfl rfl rfl (by decide +kernel) ⟨Nat.le_of_ble_eq_true rfl, Nat.le_of_ble_eq_true rfl⟩) (ct_preVx (w := fun di => ww 6 ad (cellR cI ad th kk mn md u22.1 u22.2 kn fc oft di)) hP hK (ci := 5) (k := 0) rfl cr_mdl) rfl rfl hl.1 rfl (lv_room (Nat.le_of_ble_eq_true rfl)) dX5_parts_148 ⟨Nat.zero_le _, Nat.zero_le _⟩) hS (fun di H locs hP hS => ?_)
            refine lv_aload_n hx hb dX5_parts_151 rfl (lv_at hl 1 rfl) ?_
            refine lv_bipush (v := 9) hx hb dX5_parts_152 (by decide) ?_
            refine lv_iconst (v := 3) hx hb dX5_parts_154 (by decide) ?_
            obtain ⟨u26, g27, hf⟩ := Option.bind_eq_some_iff.mp hf
            try dsimp only at hf
            refine ct_callx (va_runV (As := [.int 9, .int 3]) (rest := []) ⟨hx, hb, hml, hown, hts⟩ (C_X5_copy l D tys hj htI (res := u26) g27) (cwV 2 hts (gu_V mw_385 mw_386 mw_387 mw_330 mw_365) rfl rfl rfl (by decide +kernel) ⟨Nat.le_of_ble_eq_true rfl, Nat.le_of_ble_eq_true rfl⟩) (ct_preVx (w := fun di => ww 6 ad (cellR cI ad th kk mn md u24.1 u24.2 kn fc oft di)) hP hK (ci := 5) (k := 0) rfl cr_mdl) rfl rfl hl.1 rfl (lv_room (Nat.le_of_ble_eq_true rfl)) dX5_parts_155 ⟨Nat.zero_le _, Nat.zero_le _⟩) hS (fun di H locs hP hS => ?_)
            refine lv_aload_n hx hb dX5_parts_158 rfl (lv_at hl 1 rfl) ?_
            refine lv_iconst (v := 2) hx hb dX5_parts_159 (by decide) ?_
            refine lv_iconst (v := 3) hx hb dX5_parts_160 (by decide) ?_
            obtain ⟨u28, g29, hf⟩ := Option.bind_eq_some_iff.mp hf
            try dsimp only at hf
            refine ct_callx (va_runV (As := [.int 2, .int 3]) (rest := []) ⟨hx, hb, hml, hown, hts⟩ (C_X5_divisor l D tys hj htI (res := u28) g29) (cwV 2 hts (gu_V mw_422 mw_423 mw_424 mw_330 mw_391) rfl rfl rfl (by decide +kernel) ⟨Nat.le_of_ble_eq_true rfl, Nat.le_of_ble_eq_true rfl⟩) (ct_preVx (w := fun di => ww 6 ad (cellR cI ad th kk mn md u26.1 u26.2 kn fc oft di)) hP hK (ci := 5) (k := 0) rfl cr_mdl) rfl rfl hl.1 rfl (lv_room (Nat.le_of_ble_eq_true rfl)) dX5_parts_161 ⟨Nat.zero_le _, Nat.zero_le _⟩) hS (fun di H locs hP hS => ?_)
            refine lv_iinc (v := x5 + 1) (lv' := [(5, .int (x5 + 1)), (6, .int v7), (0, .ref (ad 0)), (1, .int x1), (2, .int x2), (3, .long x3)]) hx hb dX5_parts_164 hl (k := 5) rfl rfl (by decide) rfl (fun ls hl => ?_)
            refine lv_aload_n hx hb dX5_parts_167 rfl (lv_at hl 2 rfl) ?_
            refine va_get (ci := 5) (v := .ref (ad 4)) (C := RX5) (T := TX5) (N := 10) hx hb hts (fun w h => BW_in (in_wsX50 w h)) hown hK hP 0 cr_mdl rfl 6 (by decide) (hts (.fieldLink RX5 29 "NumberFieldFactorsModel" "degree" "[I") (BW_in mw_318)) (fun _ h9 => h9) rfl dX5_parts_168 ?_
            refine lv_iconst (v := 2) hx hb dX5_parts_171 (by decide) ?_
            by_cases b30 : (2 : Int32) < 0 ∨ 25 ≤ (2 : Int32).toNatClampNeg
            · rw [if_pos b30] at hf; cases hf
            rw [if_neg b30] at hf
            refine va_iald hx hb hK hP 4 0 cr_dg htI b30 dX5_parts_172 ?_
            obtain ⟨w31, gw31, hf⟩ := Option.bind_eq_some_iff.mp hf
            try dsimp only at hf
            have hJ222_w31 : ∀ (di : Nat → Int32) (H : Heap) (locs : List Loc) (ls : Array Slot), va_P D vwCl (ww 6 ad (cellR cI ad th kk mn md w31.2.2.1 w31.2.2.2 kn fc oft di)) H → va_S (ww_A 6 ad) s.heap H locs → lv_has ls 7 [(0, .ref (ad 0)), (1, .int x1), (2, .int w31.1), (3, .long x3), (5, .int w31.2.1), (6, .int v7)] → W p l e (headSpec usX5_parts { frames := 6, cells := 0, slots := 0, locals := 149 }).room s m [.ref (ad 0), .int p0].toArray below meth c H locs 0 0 (MQ below (ct_Qx D (fun di => ww 6 ad (cellR cI ad th kk mn md res.1 res.2.1 kn res.2.2 oft di)) (ww_A 6 ad) (none)) [.ref (ad 0), .int p0].toArray s 0 0 (ww_A 6 ad)) (F0 m 222 ls []) := by
              intro di H locs ls hP hS hl
              refine lv_goto (tgt := 47) hx hb dX5_parts_222 (by decide) ?_
              exact ih w31.1 w31.2.1 w31.2.2.1 w31.2.2.2 fc _ _ _ _ hP hS (lv_sub hl [0, 1, 2, 3, 4] rfl) hf
            refine lv_if_le (tgt := 222) hx hb dX5_parts_173 (by decide) (fun c32 => ?_) (fun c32 => ?_)
            · rw [if_pos c32] at gw31
              obtain rfl := Option.some.inj gw31
              exact hJ222_w31 _ _ _ _ hP hS (lv_sub hl [2, 3, 4, 5, 0, 1] rfl)
            · rw [if_neg c32] at gw31
              refine lv_aload_n hx hb dX5_parts_176 rfl (lv_at hl 2 rfl) ?_
              refine va_get (ci := 5) (v := .ref (ad 4)) (C := RX5) (T := TX5) (N := 10) hx hb hts (fun w h => BW_in (in_wsX50 w h)) hown hK hP 0 cr_mdl rfl 6 (by decide) (hts (.fieldLink RX5 29 "NumberFieldFactorsModel" "degree" "[I") (BW_in mw_318)) (fun _ h9 => h9) rfl dX5_parts_177 ?_
              refine lv_iconst (v := 2) hx hb dX5_parts_180 (by decide) ?_
              by_cases b33 : (2 : Int32) < 0 ∨ 25 ≤ (2 : Int32).toNatClampNeg
              · rw [if_pos b33] at gw31; cases gw31
              rw [if_neg b33] at gw31
              refine va_iald hx hb hK hP 4 0 cr_dg htI b33 dX5_parts_181 ?_
              refine lv_aload_n hx hb dX5_parts_182 rfl (lv_at hl 2 rfl) ?_
              refine va_get (ci := 5) (v := .ref (ad 4)) (C := RX5) (T := TX5) (N := 10) hx hb hts (fun w h => BW_in (in_wsX50 w h)) hown hK hP 0 cr_mdl rfl 6 (by decide) (hts (.fieldLink RX5 29 "NumberFieldFactorsModel" "degree" "[I") (BW_in mw_318)) (fun _ h9 => h9) rfl dX5_parts_183 ?_
              refine lv_iload hx hb dX5_parts_186 (lv_at hl 1 rfl) ?_
              by_cases b34 : v7 < 0 ∨ 25 ≤ (v7).toNatClampNeg
              · rw [if_pos b34] at gw31; cases gw31
              rw [if_neg b34] at gw31
              refine va_iald hx hb hK hP 4 0 cr_dg htI b34 dX5_parts_188 ?_
              obtain ⟨w35, gw35, gw31⟩ := Option.bind_eq_some_iff.mp gw31
              try dsimp only at gw31
              have hJ222_w35 : ∀ (di : Nat → Int32) (H : Heap) (locs : List Loc) (ls : Array Slot), va_P D vwCl (ww 6 ad (cellR cI ad th kk mn md w35.2.2.1 w35.2.2.2 kn fc oft di)) H → va_S (ww_A 6 ad) s.heap H locs → lv_has ls 7 [(0, .ref (ad 0)), (1, .int x1), (2, .int w35.1), (3, .long x3), (5, .int w35.2.1), (6, .int v7)] → W p l e (headSpec usX5_parts { frames := 6, cells := 0, slots := 0, locals := 149 }).room s m [.ref (ad 0), .int p0].toArray below meth c H locs 0 0 (MQ below (ct_Qx D (fun di => ww 6 ad (cellR cI ad th kk mn md res.1 res.2.1 kn res.2.2 oft di)) (ww_A 6 ad) (none)) [.ref (ad 0), .int p0].toArray s 0 0 (ww_A 6 ad)) (F0 m 222 ls []) := by
                intro di H locs ls hP hS hl
                obtain rfl := Option.some.inj gw31
                exact hJ222_w31 _ _ _ _ hP hS (lv_sub hl [0, 1, 2, 3, 4, 5] rfl)
              refine lv_icmp_ge (tgt := 222) hx hb dX5_parts_189 (by decide) (fun c36 => ?_) (fun c36 => ?_)
              · rw [if_pos c36] at gw35
                obtain rfl := Option.some.inj gw35
                exact hJ222_w35 _ _ _ _ hP hS (lv_sub hl [2, 3, 4, 5, 0, 1] rfl)
              · rw [if_neg c36] at gw35
                refine lv_aload_n hx hb dX5_parts_192 rfl (lv_at hl 2 rfl) ?_
                refine lv_iload hx hb dX5_parts_193 (lv_at hl 1 rfl) ?_
                refine lv_iconst (v := 3) hx hb dX5_parts_195 (by decide) ?_
                obtain ⟨u37, g38, gw35⟩ := Option.bind_eq_some_iff.mp gw35
                try dsimp only at gw35
                refine ct_callx (va_runV (As := [.int v7, .int 3]) (rest := []) ⟨hx, hb, hml, hown, hts⟩ (C_X5_copy l D tys hj htI (res := u37) g38) (cwV 2 hts (gu_V mw_385 mw_386 mw_387 mw_330 mw_365) rfl rfl rfl (by decide +kernel) ⟨Nat.le_of_ble_eq_true rfl, Nat.le_of_ble_eq_true rfl⟩) (ct_preVx (w := fun di => ww 6 ad (cellR cI ad th kk mn md u28.1 u28.2 kn fc oft di)) hP hK (ci := 5) (k := 0) rfl cr_mdl) rfl rfl hl.1 rfl (lv_room (Nat.le_of_ble_eq_true rfl)) dX5_parts_196 ⟨Nat.zero_le _, Nat.zero_le _⟩) hS (fun di H locs hP hS => ?_)
                refine lv_aload_n hx hb dX5_parts_199 rfl (lv_at hl 2 rfl) ?_
                refine lv_iconst (v := 3) hx hb dX5_parts_200 (by decide) ?_
                refine lv_iconst (v := 2) hx hb dX5_parts_201 (by decide) ?_
                refine lv_iload hx hb dX5_parts_202 (lv_at hl 1 rfl) ?_
                obtain ⟨u39, g40, gw35⟩ := Option.bind_eq_some_iff.mp gw35
                try dsimp only at gw35
                refine ct_callx (va_runV (As := [.int 3, .int 2, .int v7]) (rest := []) ⟨hx, hb, hml, hown, hts⟩ (C_X5_divide l D tys hj htI (res := u39) g40) (cwV 3 hts (gu_V mw_382 mw_383 mw_384 mw_330 mw_380) rfl rfl rfl (by decide +kernel) ⟨Nat.le_of_ble_eq_true rfl, Nat.le_of_ble_eq_true rfl⟩) (ct_preVx (w := fun di => ww 6 ad (cellR cI ad th kk mn md u37.1 u37.2 kn fc oft di)) hP hK (ci := 5) (k := 0) rfl cr_mdl) rfl rfl hl.1 rfl (lv_room (Nat.le_of_ble_eq_true rfl)) dX5_parts_204 ⟨Nat.zero_le _, Nat.zero_le _⟩) hS (fun di H locs hP hS => ?_)
                refine lv_aload_n hx hb dX5_parts_207 rfl (lv_at hl 2 rfl) ?_
                refine lv_iconst (v := 2) hx hb dX5_parts_208 (by decide) ?_
                refine lv_iload hx hb dX5_parts_209 (lv_at hl 1 rfl) ?_
                refine lv_iconst (v := 1) hx hb dX5_parts_211 (by decide) ?_
                refine lv_iadd hx hb dX5_parts_212 ?_
                obtain ⟨u41, g42, gw35⟩ := Option.bind_eq_some_iff.mp gw35
                try dsimp only at gw35
                refine ct_callx (va_runV (As := [.int 2, .int (v7 + 1)]) (rest := []) ⟨hx, hb, hml, hown, hts⟩ (C_X5_copy l D tys hj htI (res := u41) g42) (cwV 2 hts (gu_V mw_385 mw_386 mw_387 mw_330 mw_365) rfl rfl rfl (by decide +kernel) ⟨Nat.le_of_ble_eq_true rfl, Nat.le_of_ble_eq_true rfl⟩) (ct_preVx (w := fun di => ww 6 ad (cellR cI ad th kk mn md u39.1 u39.2 kn fc oft di)) hP hK (ci := 5) (k := 0) rfl cr_mdl) rfl rfl hl.1 rfl (lv_room (Nat.le_of_ble_eq_true rfl)) dX5_parts_213 ⟨Nat.zero_le _, Nat.zero_le _⟩) hS (fun di H locs hP hS => ?_)
                refine lv_iinc (v := x2 + 1) (lv' := [(2, .int (x2 + 1)), (5, .int (x5 + 1)), (6, .int v7), (0, .ref (ad 0)), (1, .int x1), (3, .long x3)]) hx hb dX5_parts_216 hl (k := 4) rfl rfl (by decide) rfl (fun ls hl => ?_)
                refine lv_iconst (v := 0) hx hb dX5_parts_219 (by decide) ?_
                refine lv_istore (lv' := [(5, .int 0), (2, .int (x2 + 1)), (6, .int v7), (0, .ref (ad 0)), (1, .int x1), (3, .long x3)]) hx hb dX5_parts_220 hl (by decide) rfl (fun ls hl => ?_)
                obtain rfl := Option.some.inj gw35
                exact hJ222_w35 _ _ _ _ hP hS (lv_sub hl [3, 4, 1, 5, 0, 2] rfl)
          · rw [if_pos c9] at hf
            refine lv_aload_n hx hb dX5_parts_81 rfl (lv_at hl 1 rfl) ?_
            refine lv_iload hx hb dX5_parts_82 (lv_at hl 0 rfl) ?_
            obtain ⟨u43, g44, hf⟩ := Option.bind_eq_some_iff.mp hf
            try dsimp only at hf
            refine ct_callx (va_runV (As := [.int v7]) (rest := []) ⟨hx, hb, hml, hown, hts⟩ (C_X5_found l D tys hj htI (res := u43) g44) (cwV 1 hts (gu_V mw_428 mw_429 mw_430 mw_330 mw_426) rfl rfl rfl (by decide +kernel) ⟨Nat.le_of_ble_eq_true rfl, Nat.le_of_ble_eq_true rfl⟩) (ct_preVx (w := fun di => ww 6 ad (cellR cI ad th kk mn md rw dg kn fc oft di)) hP hK (ci := 5) (k := 0) rfl cr_mdl) rfl rfl hl.1 rfl (lv_room (Nat.le_of_ble_eq_true rfl)) dX5_parts_84 ⟨Nat.zero_le _, Nat.zero_le _⟩) hS (fun di H locs hP hS => ?_)
            refine lv_iinc (v := x2 + (-1)) (lv' := [(2, .int (x2 + (-1))), (6, .int v7), (0, .ref (ad 0)), (1, .int x1), (3, .long x3), (5, .int x5)]) hx hb dX5_parts_87 hl (k := 3) rfl rfl (by decide) rfl (fun ls hl => ?_)
            refine lv_iconst (v := 0) hx hb dX5_parts_90 (by decide) ?_
            refine lv_istore (lv' := [(5, .int 0), (2, .int (x2 + (-1))), (6, .int v7), (0, .ref (ad 0)), (1, .int x1), (3, .long x3)]) hx hb dX5_parts_91 hl (by decide) rfl (fun ls hl => ?_)
            refine lv_goto (tgt := 47) hx hb dX5_parts_93 (by decide) ?_
            exact ih (x2 + (-1)) 0 u43.1 u43.2.1 u43.2.2 _ _ _ _ hP hS (lv_sub hl [3, 4, 1, 5, 0] rfl) hf
  unfold f_X5_parts at hf
  refine lv_aload_n hx hb dX5_parts_0 rfl (lv_at hl 0 rfl) ?_
  refine lv_bipush (v := 7) hx hb dX5_parts_1 (by decide) ?_
  refine lv_bipush (v := 10) hx hb dX5_parts_3 (by decide) ?_
  obtain ⟨u1, g2, hf⟩ := Option.bind_eq_some_iff.mp hf
  try dsimp only at hf
  refine ct_callx (va_runV (As := [.int 7, .int 10]) (rest := []) ⟨hx, hb, hml, hown, hts⟩ (C_X5_copy l D tys hj htI (res := u1) g2) (cwV 2 hts (gu_V mw_385 mw_386 mw_387 mw_330 mw_365) rfl rfl rfl (by decide +kernel) ⟨Nat.le_of_ble_eq_true rfl, Nat.le_of_ble_eq_true rfl⟩) (ct_preVx (w := fun di => ww 6 ad (cellR cI ad th kk mn md rw dg kn fc oft di)) hP hK (ci := 5) (k := 0) rfl cr_mdl) rfl rfl hl.1 rfl (lv_room (Nat.le_of_ble_eq_true rfl)) dX5_parts_5 ⟨Nat.zero_le _, Nat.zero_le _⟩) hS (fun di H locs hP hS => ?_)
  refine lv_iconst (v := 1) hx hb dX5_parts_8 (by decide) ?_
  refine lv_istore_n (lv' := [(2, .int 1), (0, .ref (ad 0)), (1, .int p0)]) hx hb dX5_parts_9 rfl hl (by decide) rfl (fun ls hl => ?_)
  refine lv_iload_n hx hb dX5_parts_10 rfl (lv_at hl 2 rfl) ?_
  refine lv_iconst (v := 1) hx hb dX5_parts_11 (by decide) ?_
  obtain ⟨w3, gw3, hf⟩ := Option.bind_eq_some_iff.mp hf
  try dsimp only at hf
  have hJ43_w3 : ∀ (di : Nat → Int32) (H : Heap) (locs : List Loc) (ls : Array Slot), va_P D vwCl (ww 6 ad (cellR cI ad th kk mn md u1.1 u1.2 kn fc oft di)) H → va_S (ww_A 6 ad) s.heap H locs → lv_has ls 7 [(0, .ref (ad 0)), (1, .int p0), (2, .int 1)] → W p l e (headSpec usX5_parts { frames := 6, cells := 0, slots := 0, locals := 149 }).room s m [.ref (ad 0), .int p0].toArray below meth c H locs 0 0 (MQ below (ct_Qx D (fun di => ww 6 ad (cellR cI ad th kk mn md res.1 res.2.1 kn res.2.2 oft di)) (ww_A 6 ad) (none)) [.ref (ad 0), .int p0].toArray s 0 0 (ww_A 6 ad)) (F0 m 43 ls [.long w3]) := by
    intro di H locs ls hP hS hl
    refine lv_lstore_n (lv' := [(3, .long w3), (0, .ref (ad 0)), (1, .int p0), (2, .int 1)]) hx hb dX5_parts_43 rfl hl (by decide) rfl (fun ls hl => ?_)
    refine lv_iconst (v := 0) hx hb dX5_parts_44 (by decide) ?_
    refine lv_istore (lv' := [(5, .int 0), (3, .long w3), (0, .ref (ad 0)), (1, .int p0), (2, .int 1)]) hx hb dX5_parts_45 hl (by decide) rfl (fun ls hl => ?_)
    refine L47 p0 w3 _ (fun y45 y46 rw47 dg48 fc49 di H locs ls hP hS hl hf => ?_) fu 1 0 u1.1 u1.2 fc _ _ _ _ hP hS (lv_sub hl [2, 3, 4, 1, 0] rfl) hf
    try dsimp only at hf
    obtain rfl := Option.some.inj hf
    exact W.vret hx hb hr (fun t ht hW => ⟨rfl, ⟨di, by rw [ht]; exact hP⟩, hS.F ht⟩) hS.2.2 dX5_parts_225
  refine lv_icmp_ne (tgt := 28) hx hb dX5_parts_12 (by decide) (fun c4 => ?_) (fun c4 => ?_)
  · rw [if_neg c4] at gw3
    refine lv_aload_n hx hb dX5_parts_28 rfl (lv_at hl 1 rfl) ?_
    refine va_get (ci := 5) (v := .long mn) (C := RX5) (T := TX5) (N := 10) hx hb hts (fun w h => BW_in (in_wsX50 w h)) hown hK hP 0 cr_mdl rfl 2 (by decide) (hts (.fieldLink RX5 15 "NumberFieldFactorsModel" "many" "J") (BW_in mw_314)) (fun _ h9 => h9) rfl dX5_parts_29 ?_
    refine lv_aload_n hx hb dX5_parts_32 rfl (lv_at hl 1 rfl) ?_
    refine va_get (ci := 5) (v := .long mn) (C := RX5) (T := TX5) (N := 10) hx hb hts (fun w h => BW_in (in_wsX50 w h)) hown hK hP 0 cr_mdl rfl 2 (by decide) (hts (.fieldLink RX5 15 "NumberFieldFactorsModel" "many" "J") (BW_in mw_314)) (fun _ h9 => h9) rfl dX5_parts_33 ?_
    refine lv_lmul hx hb dX5_parts_36 ?_
    refine lv_lconst (v := 1) hx hb dX5_parts_37 (by decide) ?_
    refine lv_lsub hx hb dX5_parts_38 ?_
    refine lv_ldc2 (v := 2) hx hb hown (hts (.constantLong RX5 52 (2)) (BW_in mw_341)) dX5_parts_39 ?_
    refine lv_ldiv hx hb dX5_parts_42 (by decide) ?_
    obtain rfl := Option.some.inj gw3
    exact hJ43_w3 _ _ _ _ hP hS (lv_sub hl [1, 2, 0] rfl)
  · rw [if_pos c4] at gw3
    refine lv_aload_n hx hb dX5_parts_15 rfl (lv_at hl 1 rfl) ?_
    refine va_get (ci := 5) (v := .long mn) (C := RX5) (T := TX5) (N := 10) hx hb hts (fun w h => BW_in (in_wsX50 w h)) hown hK hP 0 cr_mdl rfl 2 (by decide) (hts (.fieldLink RX5 15 "NumberFieldFactorsModel" "many" "J") (BW_in mw_314)) (fun _ h9 => h9) rfl dX5_parts_16 ?_
    refine lv_lconst (v := 1) hx hb dX5_parts_19 (by decide) ?_
    refine lv_lsub hx hb dX5_parts_20 ?_
    refine lv_ldc2 (v := 2) hx hb hown (hts (.constantLong RX5 52 (2)) (BW_in mw_341)) dX5_parts_21 ?_
    refine lv_ldiv hx hb dX5_parts_24 (by decide) ?_
    refine lv_goto (tgt := 43) hx hb dX5_parts_25 (by decide) ?_
    obtain rfl := Option.some.inj gw3
    exact hJ43_w3 _ _ _ _ hP hS (lv_sub hl [1, 2, 0] rfl)
def f_X5_split_l26 (k26 : Int32 → (Nat → Int32) → (Nat → Int32) → (Int32) → Option ((Nat → Int32) × (Nat → Int32) × (Int32))) (fu : Nat) (kk : Int32) (mn : Int64) (md : Nat → Int32) : Nat → Int32 → (Nat → Int32) → (Nat → Int32) → (Int32) → Option ((Nat → Int32) × (Nat → Int32) × (Int32))
  | 0, _, _, _, _ => none
  | n + 1, x1, rw, dg, fc =>
    if 5 < x1 then
      k26 x1 rw dg fc
    else
      if (8 : Int32) < 0 ∨ 25 ≤ (8 : Int32).toNatClampNeg then none else
      if (dg (8 : Int32).toNatClampNeg) ≤ 0 then
        k26 x1 rw dg fc
      else
        if (8 : Int32) < 0 ∨ 25 ≤ (8 : Int32).toNatClampNeg then none else
        ((
          if (2 * x1) ≤ (dg (8 : Int32).toNatClampNeg) then
            (f_X5_powers fu kk mn md rw dg 4 mn 8 9).bind (fun u13 =>
            (f_X5_copy fu u13.1 u13.2 9 4).bind (fun u15 =>
            (f_X5_copy fu u15.1 u15.2 4 3).bind (fun u17 =>
            (f_X5_cell u17.1 3 1).bind (fun u19 =>
            (f_X5_less u19 1).bind (fun u21 =>
            (f_X5_set fu u17.1 u17.2 3 1 u21).bind (fun u23 =>
            (f_X5_copy fu u23.1 u23.2 8 2).bind (fun u25 =>
            (f_X5_divisor fu kk mn md u25.1 u25.2 2 3).bind (fun u27 =>
            (f_X5_copy fu u27.1 u27.2 2 7).bind (fun u29 =>
            if (2 : Int32) < 0 ∨ 25 ≤ (2 : Int32).toNatClampNeg then none else
            ((
              if 1 ≤ (u29.2 (2 : Int32).toNatClampNeg) then
                (f_X5_copy fu u29.1 u29.2 8 3).bind (fun u34 =>
                (f_X5_divide fu kk mn md u34.1 u34.2 3 2 8).bind (fun u36 =>
                (f_X5_copy fu u36.1 u36.2 2 7).bind (fun u38 =>
                (f_X5_parts fu kk mn md u38.1 u38.2 fc x1).bind (fun u40 =>
                if (8 : Int32) < 0 ∨ 25 ≤ (8 : Int32).toNatClampNeg then none else
                ((
                  if (u40.2.1 (8 : Int32).toNatClampNeg) ≤ 0 then
                    some (u40.1, u40.2.1)
                  else
                    (f_X5_divide fu kk mn md u40.1 u40.2.1 4 8 5).bind (fun u45 =>
                    some (u45.1, u45.2)) : Option ((Nat → Int32) × (Nat → Int32)))).bind (fun w43 =>
                some (w43.1, w43.2, u40.2.2))))))
              else
                some (u29.1, u29.2, fc) : Option ((Nat → Int32) × (Nat → Int32) × (Int32)))).bind (fun w32 =>
            some (w32.1, w32.2.1, w32.2.2)))))))))))
          else
            (f_X5_found fu rw dg fc 8).bind (fun u47 =>
            if (8 : Int32) < 0 ∨ 25 ≤ (8 : Int32).toNatClampNeg then none else
            some (u47.1, (upd u47.2.1 (8 : Int32).toNatClampNeg 0), u47.2.2)) : Option ((Nat → Int32) × (Nat → Int32) × (Int32)))).bind (fun w11 =>
        f_X5_split_l26 k26 fu kk mn md n (x1 + 1) w11.1 w11.2.1 w11.2.2)
def f_X5_split (fu : Nat) (kk : Int32) (mn : Int64) (md : Nat → Int32) (rw : Nat → Int32) (dg : Nat → Int32) (fc : Int32) : Option ((Nat → Int32) × (Nat → Int32) × (Int32)) :=
  (f_X5_copy fu rw dg 1 8).bind (fun u1 =>
  (f_X5_clear fu u1.1 u1.2 4).bind (fun u3 =>
  (f_X5_set fu u3.1 u3.2 4 1 1).bind (fun u5 =>
  f_X5_split_l26 (fun y50 rw51 dg52 fc53 =>
    some (rw51, dg52, fc53)) fu kk mn md fu 1 u5.1 u5.2 0)))
set_option maxHeartbeats 4000000 in
set_option maxRecDepth 100000 in
theorem C_X5_split (l : Launch) (D : va_G) (tys : List (ClassId × FieldType)) {ad : Nat → Nat} (hj : ww_inj 6 ad) {cI : ClassId} (htI : tys[0]? = some (cI, .int)) {fu : Nat} {th : Int32} {kk : Int32} {mn : Int64} {md : Nat → Int32} {rw : Nat → Int32} {dg : Nat → Int32} {kn : Int32} {fc : Int32} {oft : Nat → Int32} {res : (Nat → Int32) × (Nat → Int32) × (Int32)} (hf : f_X5_split fu kk mn md rw dg fc = some res) :
    Met l yX5_split usX5_split ({ frames := 7, cells := 0, slots := 0, locals := 175 }) (va_Pc [.ref (ad 0)] (ws_Bx D tys (fun di => ww 6 ad (cellR cI ad th kk mn md rw dg kn fc oft di)))) (ct_Qx D (fun di => ww 6 ad (cellR cI ad th kk mn md res.1 res.2.1 kn res.2.2 oft di)) (ww_A 6 ad) (none)) 0 0 (ww_A 6 ad) := by
  refine Met.ofW (cc := cX5_split) (maxL := 2) (ret := none) (by decide) rfl ?_
  intro p e s m args below meth c s₁ B hml hv
  obtain ⟨rfl, ⟨di, hP⟩, hK⟩ := hv
  have hx := B.exec
  have hb := B.bytes
  have hr := B.returns
  have hts := atoms_spec (ws := usX5_split) B.pre
  have hown : s.vm.findClass RX5 = some m.cls := findClass_of_methodNamed B.named
  have hlocks := B.notSynchronized
  have hS : va_S (ww_A 6 ad) s.heap s.heap [] := va_S.rf
  have hl := lv_entry ([.ref (ad 0)]) (n := 2) (Nat.le_of_ble_eq_true rfl)
  rw [lg_entry_eq]
  generalize (lg_sl ([.ref (ad 0)]) ++ List.replicate (2 - (lg_sl ([.ref (ad 0)])).length) Slot.unset).toArray = ls at hl ⊢
  have hl : lv_has ls 2 [(0, .ref (ad 0))] := hl
  have L26 : ∀  (k26 : Int32 → (Nat → Int32) → (Nat → Int32) → (Int32) → Option ((Nat → Int32) × (Nat → Int32) × (Int32))), (∀ (x1 : Int32) (rw : Nat → Int32) (dg : Nat → Int32) (fc : Int32) (di : Nat → Int32) (H : Heap) (locs : List Loc) (ls : Array Slot), va_P D vwCl (ww 6 ad (cellR cI ad th kk mn md rw dg kn fc oft di)) H → va_S (ww_A 6 ad) s.heap H locs → lv_has ls 2 [(0, .ref (ad 0)), (1, .int x1)] →  k26 x1 rw dg fc = some res → W p l e (headSpec usX5_split { frames := 7, cells := 0, slots := 0, locals := 175 }).room s m [.ref (ad 0)].toArray below meth c H locs 0 0 (MQ below (ct_Qx D (fun di => ww 6 ad (cellR cI ad th kk mn md res.1 res.2.1 kn res.2.2 oft di)) (ww_A 6 ad) (none)) [.ref (ad 0)].toArray s 0 0 (ww_A 6 ad)) (F0 m 197 ls [])) → ∀ (n : Nat) (x1 : Int32) (rw : Nat → Int32) (dg : Nat → Int32) (fc : Int32) (di : Nat → Int32) (H : Heap) (locs : List Loc) (ls : Array Slot), va_P D vwCl (ww 6 ad (cellR cI ad th kk mn md rw dg kn fc oft di)) H → va_S (ww_A 6 ad) s.heap H locs → lv_has ls 2 [(0, .ref (ad 0)), (1, .int x1)] →  f_X5_split_l26 k26 fu kk mn md n x1 rw dg fc = some res → W p l e (headSpec usX5_split { frames := 7, cells := 0, slots := 0, locals := 175 }).room s m [.ref (ad 0)].toArray below meth c H locs 0 0 (MQ below (ct_Qx D (fun di => ww 6 ad (cellR cI ad th kk mn md res.1 res.2.1 kn res.2.2 oft di)) (ww_A 6 ad) (none)) [.ref (ad 0)].toArray s 0 0 (ww_A 6 ad)) (F0 m 26 ls []) := by
    intro  k26 hk_26 n
    induction n with
    | zero => intro x1 rw dg fc di H locs ls hP hS hl hf; rw [f_X5_split_l26] at hf; cases hf
    | succ n ih =>
      intro x1 rw dg fc di H locs ls hP hS hl hf
      rw [f_X5_split_l26] at hf
      refine lv_iload_n hx hb dX5_split_26 rfl (lv_at hl 1 rfl) ?_
      refine lv_iconst (v := 5) hx hb dX5_split_27 (by decide) ?_
      refine lv_icmp_gt (tgt := 197) hx hb dX5_split_28 (by decide) (fun c7 => ?_) (fun c7 => ?_)
      · rw [if_pos c7] at hf
        exact hk_26 x1 rw dg fc _ _ _ _ hP hS (lv_sub hl [0, 1] rfl) hf
      · rw [if_neg c7] at hf
        refine lv_aload_n hx hb dX5_split_31 rfl (lv_at hl 0 rfl) ?_
        refine va_get (ci := 5) (v := .ref (ad 4)) (C := RX5) (T := TX5) (N := 10) hx hb hts (fun w h => BW_in (in_wsX50 w h)) hown hK hP 0 cr_mdl rfl 6 (by decide) (hts (.fieldLink RX5 29 "NumberFieldFactorsModel" "degree" "[I") (BW_in mw_318)) (fun _ h9 => h9) rfl dX5_split_32 ?_
        refine lv_bipush (v := 8) hx hb dX5_split_35 (by decide) ?_
        by_cases b8 : (8 : Int32) < 0 ∨ 25 ≤ (8 : Int32).toNatClampNeg
        · rw [if_pos b8] at hf; cases hf
        rw [if_neg b8] at hf
        refine va_iald hx hb hK hP 4 0 cr_dg htI b8 dX5_split_37 ?_
        refine lv_if_le (tgt := 197) hx hb dX5_split_38 (by decide) (fun c9 => ?_) (fun c9 => ?_)
        · rw [if_pos c9] at hf
          exact hk_26 x1 rw dg fc _ _ _ _ hP hS (lv_sub hl [0, 1] rfl) hf
        · rw [if_neg c9] at hf
          refine lv_aload_n hx hb dX5_split_41 rfl (lv_at hl 0 rfl) ?_
          refine va_get (ci := 5) (v := .ref (ad 4)) (C := RX5) (T := TX5) (N := 10) hx hb hts (fun w h => BW_in (in_wsX50 w h)) hown hK hP 0 cr_mdl rfl 6 (by decide) (hts (.fieldLink RX5 29 "NumberFieldFactorsModel" "degree" "[I") (BW_in mw_318)) (fun _ h9 => h9) rfl dX5_split_42 ?_
          refine lv_bipush (v := 8) hx hb dX5_split_45 (by decide) ?_
          by_cases b10 : (8 : Int32) < 0 ∨ 25 ≤ (8 : Int32).toNatClampNeg
          · rw [if_pos b10] at hf; cases hf
          rw [if_neg b10] at hf
          refine va_iald hx hb hK hP 4 0 cr_dg htI b10 dX5_split_47 ?_
          refine lv_iconst (v := 2) hx hb dX5_split_48 (by decide) ?_
          refine lv_iload_n hx hb dX5_split_49 rfl (lv_at hl 1 rfl) ?_
          refine lv_imul hx hb dX5_split_50 ?_
          obtain ⟨w11, gw11, hf⟩ := Option.bind_eq_some_iff.mp hf
          try dsimp only at hf
          have hJ191_w11 : ∀ (di : Nat → Int32) (H : Heap) (locs : List Loc) (ls : Array Slot), va_P D vwCl (ww 6 ad (cellR cI ad th kk mn md w11.1 w11.2.1 kn w11.2.2 oft di)) H → va_S (ww_A 6 ad) s.heap H locs → lv_has ls 2 [(0, .ref (ad 0)), (1, .int x1)] → W p l e (headSpec usX5_split { frames := 7, cells := 0, slots := 0, locals := 175 }).room s m [.ref (ad 0)].toArray below meth c H locs 0 0 (MQ below (ct_Qx D (fun di => ww 6 ad (cellR cI ad th kk mn md res.1 res.2.1 kn res.2.2 oft di)) (ww_A 6 ad) (none)) [.ref (ad 0)].toArray s 0 0 (ww_A 6 ad)) (F0 m 191 ls []) := by
            intro di H locs ls hP hS hl
            refine lv_iinc (v := x1 + 1) (lv' := [(1, .int (x1 + 1)), (0, .ref (ad 0))]) hx hb dX5_split_191 hl (k := 1) rfl rfl (by decide) rfl (fun ls hl => ?_)
            refine lv_goto (tgt := 26) hx hb dX5_split_194 (by decide) ?_
            exact ih (x1 + 1) w11.1 w11.2.1 w11.2.2 _ _ _ _ hP hS (lv_sub hl [1, 0] rfl) hf
          refine lv_icmp_ge (tgt := 71) hx hb dX5_split_51 (by decide) (fun c12 => ?_) (fun c12 => ?_)
          · rw [if_pos c12] at gw11
            refine lv_aload_n hx hb dX5_split_71 rfl (lv_at hl 0 rfl) ?_
            refine lv_iconst (v := 4) hx hb dX5_split_72 (by decide) ?_
            refine lv_aload_n hx hb dX5_split_73 rfl (lv_at hl 0 rfl) ?_
            refine va_get (ci := 5) (v := .long mn) (C := RX5) (T := TX5) (N := 10) hx hb hts (fun w h => BW_in (in_wsX50 w h)) hown hK hP 0 cr_mdl rfl 2 (by decide) (hts (.fieldLink RX5 15 "NumberFieldFactorsModel" "many" "J") (BW_in mw_314)) (fun _ h9 => h9) rfl dX5_split_74 ?_
            refine lv_bipush (v := 8) hx hb dX5_split_77 (by decide) ?_
            refine lv_bipush (v := 9) hx hb dX5_split_79 (by decide) ?_
            obtain ⟨u13, g14, gw11⟩ := Option.bind_eq_some_iff.mp gw11
            try dsimp only at gw11
            refine ct_callx (va_runV (As := [.int 4, .long mn, .int 8, .int 9]) (rest := []) ⟨hx, hb, hml, hown, hts⟩ (C_X5_powers l D tys hj htI (res := u13) g14) (cwV 4 hts (gu_V mw_431 mw_432 mw_433 mw_330 mw_396) rfl rfl rfl (by decide +kernel) ⟨Nat.le_of_ble_eq_true rfl, Nat.le_of_ble_eq_true rfl⟩) (ct_preVx (w := fun di => ww 6 ad (cellR cI ad th kk mn md rw dg kn fc oft di)) hP hK (ci := 5) (k := 0) rfl cr_mdl) rfl rfl hl.1 rfl (lv_room (Nat.le_of_ble_eq_true rfl)) dX5_split_81 ⟨Nat.zero_le _, Nat.zero_le _⟩) hS (fun di H locs hP hS => ?_)
            refine lv_aload_n hx hb dX5_split_84 rfl (lv_at hl 0 rfl) ?_
            refine lv_bipush (v := 9) hx hb dX5_split_85 (by decide) ?_
            refine lv_iconst (v := 4) hx hb dX5_split_87 (by decide) ?_
            obtain ⟨u15, g16, gw11⟩ := Option.bind_eq_some_iff.mp gw11
            try dsimp only at gw11
            refine ct_callx (va_runV (As := [.int 9, .int 4]) (rest := []) ⟨hx, hb, hml, hown, hts⟩ (C_X5_copy l D tys hj htI (res := u15) g16) (cwV 2 hts (gu_V mw_385 mw_386 mw_387 mw_330 mw_365) rfl rfl rfl (by decide +kernel) ⟨Nat.le_of_ble_eq_true rfl, Nat.le_of_ble_eq_true rfl⟩) (ct_preVx (w := fun di => ww 6 ad (cellR cI ad th kk mn md u13.1 u13.2 kn fc oft di)) hP hK (ci := 5) (k := 0) rfl cr_mdl) rfl rfl hl.1 rfl (lv_room (Nat.le_of_ble_eq_true rfl)) dX5_split_88 ⟨Nat.zero_le _, Nat.zero_le _⟩) hS (fun di H locs hP hS => ?_)
            refine lv_aload_n hx hb dX5_split_91 rfl (lv_at hl 0 rfl) ?_
            refine lv_iconst (v := 4) hx hb dX5_split_92 (by decide) ?_
            refine lv_iconst (v := 3) hx hb dX5_split_93 (by decide) ?_
            obtain ⟨u17, g18, gw11⟩ := Option.bind_eq_some_iff.mp gw11
            try dsimp only at gw11
            refine ct_callx (va_runV (As := [.int 4, .int 3]) (rest := []) ⟨hx, hb, hml, hown, hts⟩ (C_X5_copy l D tys hj htI (res := u17) g18) (cwV 2 hts (gu_V mw_385 mw_386 mw_387 mw_330 mw_365) rfl rfl rfl (by decide +kernel) ⟨Nat.le_of_ble_eq_true rfl, Nat.le_of_ble_eq_true rfl⟩) (ct_preVx (w := fun di => ww 6 ad (cellR cI ad th kk mn md u15.1 u15.2 kn fc oft di)) hP hK (ci := 5) (k := 0) rfl cr_mdl) rfl rfl hl.1 rfl (lv_room (Nat.le_of_ble_eq_true rfl)) dX5_split_94 ⟨Nat.zero_le _, Nat.zero_le _⟩) hS (fun di H locs hP hS => ?_)
            refine lv_aload_n hx hb dX5_split_97 rfl (lv_at hl 0 rfl) ?_
            refine lv_iconst (v := 3) hx hb dX5_split_98 (by decide) ?_
            refine lv_iconst (v := 1) hx hb dX5_split_99 (by decide) ?_
            refine lv_aload_n hx hb dX5_split_100 rfl (lv_at hl 0 rfl) ?_
            refine lv_iconst (v := 3) hx hb dX5_split_101 (by decide) ?_
            refine lv_iconst (v := 1) hx hb dX5_split_102 (by decide) ?_
            obtain ⟨u19, g20, gw11⟩ := Option.bind_eq_some_iff.mp gw11
            try dsimp only at gw11
            refine ct_callx (va_runV (As := [.int 3, .int 1]) (rest := [.int 1, .int 3, .ref (ad 0)]) ⟨hx, hb, hml, hown, hts⟩ (C_X5_cell l D tys hj htI (res := u19) g20) (cwV 2 hts (gu_V mw_369 mw_370 mw_371 mw_330 mw_367) rfl rfl rfl (by decide +kernel) ⟨Nat.le_of_ble_eq_true rfl, Nat.le_of_ble_eq_true rfl⟩) (ct_preVx (w := fun di => ww 6 ad (cellR cI ad th kk mn md u17.1 u17.2 kn fc oft di)) hP hK (ci := 5) (k := 0) rfl cr_mdl) rfl rfl hl.1 rfl (lv_room (Nat.le_of_ble_eq_true rfl)) dX5_split_103 ⟨Nat.zero_le _, Nat.zero_le _⟩) hS (fun di H locs hP hS => ?_)
            refine lv_iconst (v := 1) hx hb dX5_split_106 (by decide) ?_
            obtain ⟨u21, g22, gw11⟩ := Option.bind_eq_some_iff.mp gw11
            try dsimp only at gw11
            refine ct_callx (va_runS (As := [.int u19, .int 1]) (rest := [.int 1, .int 3, .ref (ad 0)]) ⟨hx, hb, hml, hown, hts⟩ (C_X5_less l D tys hj htI (res := u21) g22) (cwS 2 hts (gu_S mw_375 mw_376 mw_330 mw_327) rfl rfl rfl (by decide +kernel) ⟨Nat.le_of_ble_eq_true rfl, Nat.le_of_ble_eq_true rfl⟩) (ct_preSx (w := fun di => ww 6 ad (cellR cI ad th kk mn md u17.1 u17.2 kn fc oft di)) hP hK) rfl rfl hl.1 rfl (lv_room (Nat.le_of_ble_eq_true rfl)) dX5_split_107 ⟨Nat.zero_le _, Nat.zero_le _⟩) hS (fun di H locs hP hS => ?_)
            obtain ⟨u23, g24, gw11⟩ := Option.bind_eq_some_iff.mp gw11
            try dsimp only at gw11
            refine ct_callx (va_runV (As := [.int 3, .int 1, .int u21]) (rest := []) ⟨hx, hb, hml, hown, hts⟩ (C_X5_set l D tys hj htI (res := u23) g24) (cwV 3 hts (gu_V mw_377 mw_378 mw_379 mw_330 mw_366) rfl rfl rfl (by decide +kernel) ⟨Nat.le_of_ble_eq_true rfl, Nat.le_of_ble_eq_true rfl⟩) (ct_preVx (w := fun di => ww 6 ad (cellR cI ad th kk mn md u17.1 u17.2 kn fc oft di)) hP hK (ci := 5) (k := 0) rfl cr_mdl) rfl rfl hl.1 rfl (lv_room (Nat.le_of_ble_eq_true rfl)) dX5_split_110 ⟨Nat.zero_le _, Nat.zero_le _⟩) hS (fun di H locs hP hS => ?_)
            refine lv_aload_n hx hb dX5_split_113 rfl (lv_at hl 0 rfl) ?_
            refine lv_bipush (v := 8) hx hb dX5_split_114 (by decide) ?_
            refine lv_iconst (v := 2) hx hb dX5_split_116 (by decide) ?_
            obtain ⟨u25, g26, gw11⟩ := Option.bind_eq_some_iff.mp gw11
            try dsimp only at gw11
            refine ct_callx (va_runV (As := [.int 8, .int 2]) (rest := []) ⟨hx, hb, hml, hown, hts⟩ (C_X5_copy l D tys hj htI (res := u25) g26) (cwV 2 hts (gu_V mw_385 mw_386 mw_387 mw_330 mw_365) rfl rfl rfl (by decide +kernel) ⟨Nat.le_of_ble_eq_true rfl, Nat.le_of_ble_eq_true rfl⟩) (ct_preVx (w := fun di => ww 6 ad (cellR cI ad th kk mn md u23.1 u23.2 kn fc oft di)) hP hK (ci := 5) (k := 0) rfl cr_mdl) rfl rfl hl.1 rfl (lv_room (Nat.le_of_ble_eq_true rfl)) dX5_split_117 ⟨Nat.zero_le _, Nat.zero_le _⟩) hS (fun di H locs hP hS => ?_)
            refine lv_aload_n hx hb dX5_split_120 rfl (lv_at hl 0 rfl) ?_
            refine lv_iconst (v := 2) hx hb dX5_split_121 (by decide) ?_
            refine lv_iconst (v := 3) hx hb dX5_split_122 (by decide) ?_
            obtain ⟨u27, g28, gw11⟩ := Option.bind_eq_some_iff.mp gw11
            try dsimp only at gw11
            refine ct_callx (va_runV (As := [.int 2, .int 3]) (rest := []) ⟨hx, hb, hml, hown, hts⟩ (C_X5_divisor l D tys hj htI (res := u27) g28) (cwV 2 hts (gu_V mw_422 mw_423 mw_424 mw_330 mw_391) rfl rfl rfl (by decide +kernel) ⟨Nat.le_of_ble_eq_true rfl, Nat.le_of_ble_eq_true rfl⟩) (ct_preVx (w := fun di => ww 6 ad (cellR cI ad th kk mn md u25.1 u25.2 kn fc oft di)) hP hK (ci := 5) (k := 0) rfl cr_mdl) rfl rfl hl.1 rfl (lv_room (Nat.le_of_ble_eq_true rfl)) dX5_split_123 ⟨Nat.zero_le _, Nat.zero_le _⟩) hS (fun di H locs hP hS => ?_)
            refine lv_aload_n hx hb dX5_split_126 rfl (lv_at hl 0 rfl) ?_
            refine lv_iconst (v := 2) hx hb dX5_split_127 (by decide) ?_
            refine lv_bipush (v := 7) hx hb dX5_split_128 (by decide) ?_
            obtain ⟨u29, g30, gw11⟩ := Option.bind_eq_some_iff.mp gw11
            try dsimp only at gw11
            refine ct_callx (va_runV (As := [.int 2, .int 7]) (rest := []) ⟨hx, hb, hml, hown, hts⟩ (C_X5_copy l D tys hj htI (res := u29) g30) (cwV 2 hts (gu_V mw_385 mw_386 mw_387 mw_330 mw_365) rfl rfl rfl (by decide +kernel) ⟨Nat.le_of_ble_eq_true rfl, Nat.le_of_ble_eq_true rfl⟩) (ct_preVx (w := fun di => ww 6 ad (cellR cI ad th kk mn md u27.1 u27.2 kn fc oft di)) hP hK (ci := 5) (k := 0) rfl cr_mdl) rfl rfl hl.1 rfl (lv_room (Nat.le_of_ble_eq_true rfl)) dX5_split_130 ⟨Nat.zero_le _, Nat.zero_le _⟩) hS (fun di H locs hP hS => ?_)
            refine lv_aload_n hx hb dX5_split_133 rfl (lv_at hl 0 rfl) ?_
            refine va_get (ci := 5) (v := .ref (ad 4)) (C := RX5) (T := TX5) (N := 10) hx hb hts (fun w h => BW_in (in_wsX50 w h)) hown hK hP 0 cr_mdl rfl 6 (by decide) (hts (.fieldLink RX5 29 "NumberFieldFactorsModel" "degree" "[I") (BW_in mw_318)) (fun _ h9 => h9) rfl dX5_split_134 ?_
            refine lv_iconst (v := 2) hx hb dX5_split_137 (by decide) ?_
            by_cases b31 : (2 : Int32) < 0 ∨ 25 ≤ (2 : Int32).toNatClampNeg
            · rw [if_pos b31] at gw11; cases gw11
            rw [if_neg b31] at gw11
            refine va_iald hx hb hK hP 4 0 cr_dg htI b31 dX5_split_138 ?_
            refine lv_iconst (v := 1) hx hb dX5_split_139 (by decide) ?_
            obtain ⟨w32, gw32, gw11⟩ := Option.bind_eq_some_iff.mp gw11
            try dsimp only at gw11
            have hJ191_w32 : ∀ (di : Nat → Int32) (H : Heap) (locs : List Loc) (ls : Array Slot), va_P D vwCl (ww 6 ad (cellR cI ad th kk mn md w32.1 w32.2.1 kn w32.2.2 oft di)) H → va_S (ww_A 6 ad) s.heap H locs → lv_has ls 2 [(0, .ref (ad 0)), (1, .int x1)] → W p l e (headSpec usX5_split { frames := 7, cells := 0, slots := 0, locals := 175 }).room s m [.ref (ad 0)].toArray below meth c H locs 0 0 (MQ below (ct_Qx D (fun di => ww 6 ad (cellR cI ad th kk mn md res.1 res.2.1 kn res.2.2 oft di)) (ww_A 6 ad) (none)) [.ref (ad 0)].toArray s 0 0 (ww_A 6 ad)) (F0 m 191 ls []) := by
              intro di H locs ls hP hS hl
              obtain rfl := Option.some.inj gw11
              exact hJ191_w11 _ _ _ _ hP hS (lv_sub hl [0, 1] rfl)
            refine lv_icmp_ge (tgt := 146) hx hb dX5_split_140 (by decide) (fun c33 => ?_) (fun c33 => ?_)
            · rw [if_pos c33] at gw32
              refine lv_aload_n hx hb dX5_split_146 rfl (lv_at hl 0 rfl) ?_
              refine lv_bipush (v := 8) hx hb dX5_split_147 (by decide) ?_
              refine lv_iconst (v := 3) hx hb dX5_split_149 (by decide) ?_
              obtain ⟨u34, g35, gw32⟩ := Option.bind_eq_some_iff.mp gw32
              try dsimp only at gw32
              refine ct_callx (va_runV (As := [.int 8, .int 3]) (rest := []) ⟨hx, hb, hml, hown, hts⟩ (C_X5_copy l D tys hj htI (res := u34) g35) (cwV 2 hts (gu_V mw_385 mw_386 mw_387 mw_330 mw_365) rfl rfl rfl (by decide +kernel) ⟨Nat.le_of_ble_eq_true rfl, Nat.le_of_ble_eq_true rfl⟩) (ct_preVx (w := fun di => ww 6 ad (cellR cI ad th kk mn md u29.1 u29.2 kn fc oft di)) hP hK (ci := 5) (k := 0) rfl cr_mdl) rfl rfl hl.1 rfl (lv_room (Nat.le_of_ble_eq_true rfl)) dX5_split_150 ⟨Nat.zero_le _, Nat.zero_le _⟩) hS (fun di H locs hP hS => ?_)
              refine lv_aload_n hx hb dX5_split_153 rfl (lv_at hl 0 rfl) ?_
              refine lv_iconst (v := 3) hx hb dX5_split_154 (by decide) ?_
              refine lv_iconst (v := 2) hx hb dX5_split_155 (by decide) ?_
              refine lv_bipush (v := 8) hx hb dX5_split_156 (by decide) ?_
              obtain ⟨u36, g37, gw32⟩ := Option.bind_eq_some_iff.mp gw32
              try dsimp only at gw32
              refine ct_callx (va_runV (As := [.int 3, .int 2, .int 8]) (rest := []) ⟨hx, hb, hml, hown, hts⟩ (C_X5_divide l D tys hj htI (res := u36) g37) (cwV 3 hts (gu_V mw_382 mw_383 mw_384 mw_330 mw_380) rfl rfl rfl (by decide +kernel) ⟨Nat.le_of_ble_eq_true rfl, Nat.le_of_ble_eq_true rfl⟩) (ct_preVx (w := fun di => ww 6 ad (cellR cI ad th kk mn md u34.1 u34.2 kn fc oft di)) hP hK (ci := 5) (k := 0) rfl cr_mdl) rfl rfl hl.1 rfl (lv_room (Nat.le_of_ble_eq_true rfl)) dX5_split_158 ⟨Nat.zero_le _, Nat.zero_le _⟩) hS (fun di H locs hP hS => ?_)
              refine lv_aload_n hx hb dX5_split_161 rfl (lv_at hl 0 rfl) ?_
              refine lv_iconst (v := 2) hx hb dX5_split_162 (by decide) ?_
              refine lv_bipush (v := 7) hx hb dX5_split_163 (by decide) ?_
              obtain ⟨u38, g39, gw32⟩ := Option.bind_eq_some_iff.mp gw32
              try dsimp only at gw32
              refine ct_callx (va_runV (As := [.int 2, .int 7]) (rest := []) ⟨hx, hb, hml, hown, hts⟩ (C_X5_copy l D tys hj htI (res := u38) g39) (cwV 2 hts (gu_V mw_385 mw_386 mw_387 mw_330 mw_365) rfl rfl rfl (by decide +kernel) ⟨Nat.le_of_ble_eq_true rfl, Nat.le_of_ble_eq_true rfl⟩) (ct_preVx (w := fun di => ww 6 ad (cellR cI ad th kk mn md u36.1 u36.2 kn fc oft di)) hP hK (ci := 5) (k := 0) rfl cr_mdl) rfl rfl hl.1 rfl (lv_room (Nat.le_of_ble_eq_true rfl)) dX5_split_165 ⟨Nat.zero_le _, Nat.zero_le _⟩) hS (fun di H locs hP hS => ?_)
              refine lv_aload_n hx hb dX5_split_168 rfl (lv_at hl 0 rfl) ?_
              refine lv_iload_n hx hb dX5_split_169 rfl (lv_at hl 1 rfl) ?_
              obtain ⟨u40, g41, gw32⟩ := Option.bind_eq_some_iff.mp gw32
              try dsimp only at gw32
              refine ct_callx (va_runV (As := [.int x1]) (rest := []) ⟨hx, hb, hml, hown, hts⟩ (C_X5_parts l D tys hj htI (res := u40) g41) (cwV 1 hts (gu_V mw_435 mw_436 mw_437 mw_330 mw_434) rfl rfl rfl (by decide +kernel) ⟨Nat.le_of_ble_eq_true rfl, Nat.le_of_ble_eq_true rfl⟩) (ct_preVx (w := fun di => ww 6 ad (cellR cI ad th kk mn md u38.1 u38.2 kn fc oft di)) hP hK (ci := 5) (k := 0) rfl cr_mdl) rfl rfl hl.1 rfl (lv_room (Nat.le_of_ble_eq_true rfl)) dX5_split_170 ⟨Nat.zero_le _, Nat.zero_le _⟩) hS (fun di H locs hP hS => ?_)
              refine lv_aload_n hx hb dX5_split_173 rfl (lv_at hl 0 rfl) ?_
              refine va_get (ci := 5) (v := .ref (ad 4)) (C := RX5) (T := TX5) (N := 10) hx hb hts (fun w h => BW_in (in_wsX50 w h)) hown hK hP 0 cr_mdl rfl 6 (by decide) (hts (.fieldLink RX5 29 "NumberFieldFactorsModel" "degree" "[I") (BW_in mw_318)) (fun _ h9 => h9) rfl dX5_split_174 ?_
              refine lv_bipush (v := 8) hx hb dX5_split_177 (by decide) ?_
              by_cases b42 : (8 : Int32) < 0 ∨ 25 ≤ (8 : Int32).toNatClampNeg
              · rw [if_pos b42] at gw32; cases gw32
              rw [if_neg b42] at gw32
              refine va_iald hx hb hK hP 4 0 cr_dg htI b42 dX5_split_179 ?_
              obtain ⟨w43, gw43, gw32⟩ := Option.bind_eq_some_iff.mp gw32
              try dsimp only at gw32
              have hJ191_w43 : ∀ (di : Nat → Int32) (H : Heap) (locs : List Loc) (ls : Array Slot), va_P D vwCl (ww 6 ad (cellR cI ad th kk mn md w43.1 w43.2 kn u40.2.2 oft di)) H → va_S (ww_A 6 ad) s.heap H locs → lv_has ls 2 [(0, .ref (ad 0)), (1, .int x1)] → W p l e (headSpec usX5_split { frames := 7, cells := 0, slots := 0, locals := 175 }).room s m [.ref (ad 0)].toArray below meth c H locs 0 0 (MQ below (ct_Qx D (fun di => ww 6 ad (cellR cI ad th kk mn md res.1 res.2.1 kn res.2.2 oft di)) (ww_A 6 ad) (none)) [.ref (ad 0)].toArray s 0 0 (ww_A 6 ad)) (F0 m 191 ls []) := by
                intro di H locs ls hP hS hl
                obtain rfl := Option.some.inj gw32
                exact hJ191_w32 _ _ _ _ hP hS (lv_sub hl [0, 1] rfl)
              refine lv_if_le (tgt := 191) hx hb dX5_split_180 (by decide) (fun c44 => ?_) (fun c44 => ?_)
              · rw [if_pos c44] at gw43
                obtain rfl := Option.some.inj gw43
                exact hJ191_w43 _ _ _ _ hP hS (lv_sub hl [0, 1] rfl)
              · rw [if_neg c44] at gw43
                refine lv_aload_n hx hb dX5_split_183 rfl (lv_at hl 0 rfl) ?_
                refine lv_iconst (v := 4) hx hb dX5_split_184 (by decide) ?_
                refine lv_bipush (v := 8) hx hb dX5_split_185 (by decide) ?_
                refine lv_iconst (v := 5) hx hb dX5_split_187 (by decide) ?_
                obtain ⟨u45, g46, gw43⟩ := Option.bind_eq_some_iff.mp gw43
                try dsimp only at gw43
                refine ct_callx (va_runV (As := [.int 4, .int 8, .int 5]) (rest := []) ⟨hx, hb, hml, hown, hts⟩ (C_X5_divide l D tys hj htI (res := u45) g46) (cwV 3 hts (gu_V mw_382 mw_383 mw_384 mw_330 mw_380) rfl rfl rfl (by decide +kernel) ⟨Nat.le_of_ble_eq_true rfl, Nat.le_of_ble_eq_true rfl⟩) (ct_preVx (w := fun di => ww 6 ad (cellR cI ad th kk mn md u40.1 u40.2.1 kn u40.2.2 oft di)) hP hK (ci := 5) (k := 0) rfl cr_mdl) rfl rfl hl.1 rfl (lv_room (Nat.le_of_ble_eq_true rfl)) dX5_split_188 ⟨Nat.zero_le _, Nat.zero_le _⟩) hS (fun di H locs hP hS => ?_)
                obtain rfl := Option.some.inj gw43
                exact hJ191_w43 _ _ _ _ hP hS (lv_sub hl [0, 1] rfl)
            · rw [if_neg c33] at gw32
              refine lv_goto (tgt := 191) hx hb dX5_split_143 (by decide) ?_
              obtain rfl := Option.some.inj gw32
              exact hJ191_w32 _ _ _ _ hP hS (lv_sub hl [0, 1] rfl)
          · rw [if_neg c12] at gw11
            refine lv_aload_n hx hb dX5_split_54 rfl (lv_at hl 0 rfl) ?_
            refine lv_bipush (v := 8) hx hb dX5_split_55 (by decide) ?_
            obtain ⟨u47, g48, gw11⟩ := Option.bind_eq_some_iff.mp gw11
            try dsimp only at gw11
            refine ct_callx (va_runV (As := [.int 8]) (rest := []) ⟨hx, hb, hml, hown, hts⟩ (C_X5_found l D tys hj htI (res := u47) g48) (cwV 1 hts (gu_V mw_428 mw_429 mw_430 mw_330 mw_426) rfl rfl rfl (by decide +kernel) ⟨Nat.le_of_ble_eq_true rfl, Nat.le_of_ble_eq_true rfl⟩) (ct_preVx (w := fun di => ww 6 ad (cellR cI ad th kk mn md rw dg kn fc oft di)) hP hK (ci := 5) (k := 0) rfl cr_mdl) rfl rfl hl.1 rfl (lv_room (Nat.le_of_ble_eq_true rfl)) dX5_split_57 ⟨Nat.zero_le _, Nat.zero_le _⟩) hS (fun di H locs hP hS => ?_)
            refine lv_aload_n hx hb dX5_split_60 rfl (lv_at hl 0 rfl) ?_
            refine va_get (ci := 5) (v := .ref (ad 4)) (C := RX5) (T := TX5) (N := 10) hx hb hts (fun w h => BW_in (in_wsX50 w h)) hown hK hP 0 cr_mdl rfl 6 (by decide) (hts (.fieldLink RX5 29 "NumberFieldFactorsModel" "degree" "[I") (BW_in mw_318)) (fun _ h9 => h9) rfl dX5_split_61 ?_
            refine lv_bipush (v := 8) hx hb dX5_split_64 (by decide) ?_
            refine lv_iconst (v := 0) hx hb dX5_split_66 (by decide) ?_
            by_cases b49 : (8 : Int32) < 0 ∨ 25 ≤ (8 : Int32).toNatClampNeg
            · rw [if_pos b49] at gw11; cases gw11
            rw [if_neg b49] at gw11
            refine va_iast hx hb hK hP (ww_D hj) hS 4 0 cr_dg htI b49 dX5_split_67 (fun H locs hP hD hS => ?_)
            have hP := cs_dg hP
            refine lv_goto (tgt := 191) hx hb dX5_split_68 (by decide) ?_
            obtain rfl := Option.some.inj gw11
            exact hJ191_w11 _ _ _ _ hP hS (lv_sub hl [0, 1] rfl)
  unfold f_X5_split at hf
  refine lv_aload_n hx hb dX5_split_0 rfl (lv_at hl 0 rfl) ?_
  refine lv_iconst (v := 0) hx hb dX5_split_1 (by decide) ?_
  refine va_put (ci := 5) (v := .int 0) (ty := .int) (C := RX5) (T := TX5) (N := 10) hx hb hts (fun w h => BW_in (in_wsX50 w h)) tyX5 tyX5_ok nmX5 hown hK hP (ww_D hj) hS 0 cr_mdl rfl 8 (by decide) (hts (.fieldLink RX5 126 "NumberFieldFactorsModel" "factors" "I") (BW_in mw_427)) (fun _ h9 => h9) rfl (by decide +kernel) rfl rfl (Nat.le_of_ble_eq_true rfl) dX5_split_2 (fun H locs hP hD hS => ?_)
  have hP := cs_fc hP
  refine lv_aload_n hx hb dX5_split_5 rfl (lv_at hl 0 rfl) ?_
  refine lv_iconst (v := 1) hx hb dX5_split_6 (by decide) ?_
  refine lv_bipush (v := 8) hx hb dX5_split_7 (by decide) ?_
  obtain ⟨u1, g2, hf⟩ := Option.bind_eq_some_iff.mp hf
  try dsimp only at hf
  refine ct_callx (va_runV (As := [.int 1, .int 8]) (rest := []) ⟨hx, hb, hml, hown, hts⟩ (C_X5_copy l D tys hj htI (res := u1) g2) (cwV 2 hts (gu_V mw_385 mw_386 mw_387 mw_330 mw_365) rfl rfl rfl (by decide +kernel) ⟨Nat.le_of_ble_eq_true rfl, Nat.le_of_ble_eq_true rfl⟩) (ct_preVx (w := fun di => ww 6 ad (cellR cI ad th kk mn md rw dg kn 0 oft di)) hP hK (ci := 5) (k := 0) rfl cr_mdl) rfl rfl hl.1 rfl (lv_room (Nat.le_of_ble_eq_true rfl)) dX5_split_9 ⟨Nat.zero_le _, Nat.zero_le _⟩) hS (fun di H locs hP hS => ?_)
  refine lv_aload_n hx hb dX5_split_12 rfl (lv_at hl 0 rfl) ?_
  refine lv_iconst (v := 4) hx hb dX5_split_13 (by decide) ?_
  obtain ⟨u3, g4, hf⟩ := Option.bind_eq_some_iff.mp hf
  try dsimp only at hf
  refine ct_callx (va_runV (As := [.int 4]) (rest := []) ⟨hx, hb, hml, hown, hts⟩ (C_X5_clear l D tys hj htI (res := u3) g4) (cwV 1 hts (gu_V mw_361 mw_362 mw_363 mw_330 mw_351) rfl rfl rfl (by decide +kernel) ⟨Nat.le_of_ble_eq_true rfl, Nat.le_of_ble_eq_true rfl⟩) (ct_preVx (w := fun di => ww 6 ad (cellR cI ad th kk mn md u1.1 u1.2 kn 0 oft di)) hP hK (ci := 5) (k := 0) rfl cr_mdl) rfl rfl hl.1 rfl (lv_room (Nat.le_of_ble_eq_true rfl)) dX5_split_14 ⟨Nat.zero_le _, Nat.zero_le _⟩) hS (fun di H locs hP hS => ?_)
  refine lv_aload_n hx hb dX5_split_17 rfl (lv_at hl 0 rfl) ?_
  refine lv_iconst (v := 4) hx hb dX5_split_18 (by decide) ?_
  refine lv_iconst (v := 1) hx hb dX5_split_19 (by decide) ?_
  refine lv_iconst (v := 1) hx hb dX5_split_20 (by decide) ?_
  obtain ⟨u5, g6, hf⟩ := Option.bind_eq_some_iff.mp hf
  try dsimp only at hf
  refine ct_callx (va_runV (As := [.int 4, .int 1, .int 1]) (rest := []) ⟨hx, hb, hml, hown, hts⟩ (C_X5_set l D tys hj htI (res := u5) g6) (cwV 3 hts (gu_V mw_377 mw_378 mw_379 mw_330 mw_366) rfl rfl rfl (by decide +kernel) ⟨Nat.le_of_ble_eq_true rfl, Nat.le_of_ble_eq_true rfl⟩) (ct_preVx (w := fun di => ww 6 ad (cellR cI ad th kk mn md u3.1 u3.2 kn 0 oft di)) hP hK (ci := 5) (k := 0) rfl cr_mdl) rfl rfl hl.1 rfl (lv_room (Nat.le_of_ble_eq_true rfl)) dX5_split_21 ⟨Nat.zero_le _, Nat.zero_le _⟩) hS (fun di H locs hP hS => ?_)
  refine lv_iconst (v := 1) hx hb dX5_split_24 (by decide) ?_
  refine lv_istore_n (lv' := [(1, .int 1), (0, .ref (ad 0))]) hx hb dX5_split_25 rfl hl (by decide) rfl (fun ls hl => ?_)
  refine L26  _ (fun y50 rw51 dg52 fc53 di H locs ls hP hS hl hf => ?_) fu 1 u5.1 u5.2 0 _ _ _ _ hP hS (lv_sub hl [1, 0] rfl) hf
  try dsimp only at hf
  obtain rfl := Option.some.inj hf
  exact W.vret hx hb hr (fun t ht hW => ⟨rfl, ⟨di, by rw [ht]; exact hP⟩, hS.F ht⟩) hS.2.2 dX5_split_197
def f_X5_isAhead_l38 (k38 : Int32 → Option (Int32)) (fu : Nat) (rw : Nat → Int32) (dg : Nat → Int32) (x1 : Int32) (x2 : Int32) : Nat → Int32 → Option (Int32)
  | 0, _ => none
  | n + 1, x3 =>
    if x3 ≤ 0 then
      k38 x3
    else
      (f_X5_cell rw x1 x3).bind (fun u5 =>
      (f_X5_cell rw x2 x3).bind (fun u7 =>
      if u5 = u7 then
        f_X5_isAhead_l38 k38 fu rw dg x1 x2 n (x3 + (-1))
      else
        k38 x3))
def f_X5_isAhead (fu : Nat) (rw : Nat → Int32) (dg : Nat → Int32) (p0 : Int32) (p1 : Int32) : Option (Int32) :=
  if p0 < 0 ∨ 25 ≤ (p0).toNatClampNeg then none else
  if p1 < 0 ∨ 25 ≤ (p1).toNatClampNeg then none else
  if (dg (p0).toNatClampNeg) = (dg (p1).toNatClampNeg) then
    f_X5_isAhead_l38 (fun y10 =>
      (f_X5_cell rw p0 y10).bind (fun u11 =>
      (f_X5_cell rw p1 y10).bind (fun u13 =>
      if u13 ≤ u11 then
        some 0
      else
        some 1))) fu rw dg p0 p1 fu 5
  else
    if p0 < 0 ∨ 25 ≤ (p0).toNatClampNeg then none else
    if p1 < 0 ∨ 25 ≤ (p1).toNatClampNeg then none else
    if (dg (p1).toNatClampNeg) ≤ (dg (p0).toNatClampNeg) then
      some 0
    else
      some 1
set_option maxHeartbeats 4000000 in
set_option maxRecDepth 100000 in
theorem C_X5_isAhead (l : Launch) (D : va_G) (tys : List (ClassId × FieldType)) {ad : Nat → Nat} (hj : ww_inj 6 ad) {cI : ClassId} (htI : tys[0]? = some (cI, .int)) {fu : Nat} {th : Int32} {kk : Int32} {mn : Int64} {md : Nat → Int32} {rw : Nat → Int32} {dg : Nat → Int32} {kn : Int32} {fc : Int32} {oft : Nat → Int32} {p0 : Int32} {p1 : Int32} {res : Int32} (hf : f_X5_isAhead fu rw dg p0 p1 = some res) :
    Met l yX5_isAhead usX5_isAhead ({ frames := 1, cells := 0, slots := 0, locals := 22 }) (va_Pc [.ref (ad 0), .int p0, .int p1] (ws_Bx D tys (fun di => ww 6 ad (cellR cI ad th kk mn md rw dg kn fc oft di)))) (ct_Qx D (fun di => ww 6 ad (cellR cI ad th kk mn md rw dg kn fc oft di)) (ww_A 6 ad) (some (.int res))) 0 0 (ww_A 6 ad) := by
  refine Met.ofW (cc := cX5_isAhead) (maxL := 4) (ret := (some .boolean)) (by decide) rfl ?_
  intro p e s m args below meth c s₁ B hml hv
  obtain ⟨rfl, ⟨di, hP⟩, hK⟩ := hv
  have hx := B.exec
  have hb := B.bytes
  have hr := B.returns
  have hts := atoms_spec (ws := usX5_isAhead) B.pre
  have hown : s.vm.findClass RX5 = some m.cls := findClass_of_methodNamed B.named
  have hlocks := B.notSynchronized
  have hS : va_S (ww_A 6 ad) s.heap s.heap [] := va_S.rf
  have hl := lv_entry ([.ref (ad 0), .int p0, .int p1]) (n := 4) (Nat.le_of_ble_eq_true rfl)
  rw [lg_entry_eq]
  generalize (lg_sl ([.ref (ad 0), .int p0, .int p1]) ++ List.replicate (4 - (lg_sl ([.ref (ad 0), .int p0, .int p1])).length) Slot.unset).toArray = ls at hl ⊢
  have hl : lv_has ls 4 [(0, .ref (ad 0)), (1, .int p0), (2, .int p1)] := hl
  have L38 : ∀ (x1 : Int32) (x2 : Int32) (k38 : Int32 → Option (Int32)), (∀ (x3 : Int32) (di : Nat → Int32) (H : Heap) (locs : List Loc) (ls : Array Slot), va_P D vwCl (ww 6 ad (cellR cI ad th kk mn md rw dg kn fc oft di)) H → va_S (ww_A 6 ad) s.heap H locs → lv_has ls 4 [(0, .ref (ad 0)), (1, .int x1), (2, .int x2), (3, .int x3)] →  k38 x3 = some res → W p l e (headSpec usX5_isAhead { frames := 1, cells := 0, slots := 0, locals := 22 }).room s m [.ref (ad 0), .int p0, .int p1].toArray below meth c H locs 0 0 (MQ below (ct_Qx D (fun di => ww 6 ad (cellR cI ad th kk mn md rw dg kn fc oft di)) (ww_A 6 ad) (some (.int res))) [.ref (ad 0), .int p0, .int p1].toArray s 0 0 (ww_A 6 ad)) (F0 m 63 ls [])) → ∀ (n : Nat) (x3 : Int32) (di : Nat → Int32) (H : Heap) (locs : List Loc) (ls : Array Slot), va_P D vwCl (ww 6 ad (cellR cI ad th kk mn md rw dg kn fc oft di)) H → va_S (ww_A 6 ad) s.heap H locs → lv_has ls 4 [(0, .ref (ad 0)), (1, .int x1), (2, .int x2), (3, .int x3)] →  f_X5_isAhead_l38 k38 fu rw dg x1 x2 n x3 = some res → W p l e (headSpec usX5_isAhead { frames := 1, cells := 0, slots := 0, locals := 22 }).room s m [.ref (ad 0), .int p0, .int p1].toArray below meth c H locs 0 0 (MQ below (ct_Qx D (fun di => ww 6 ad (cellR cI ad th kk mn md rw dg kn fc oft di)) (ww_A 6 ad) (some (.int res))) [.ref (ad 0), .int p0, .int p1].toArray s 0 0 (ww_A 6 ad)) (F0 m 38 ls []) := by
    intro x1 x2 k38 hk_38 n
    induction n with
    | zero => intro x3 di H locs ls hP hS hl hf; rw [f_X5_isAhead_l38] at hf; cases hf
    | succ n ih =>
      intro x3 di H locs ls hP hS hl hf
      rw [f_X5_isAhead_l38] at hf
      refine lv_iload_n hx hb dX5_isAhead_38 rfl (lv_at hl 3 rfl) ?_
      refine lv_if_le (tgt := 63) hx hb dX5_isAhead_39 (by decide) (fun c4 => ?_) (fun c4 => ?_)
      · rw [if_pos c4] at hf
        exact hk_38 x3 _ _ _ _ hP hS (lv_sub hl [0, 1, 2, 3] rfl) hf
      · rw [if_neg c4] at hf
        refine lv_aload_n hx hb dX5_isAhead_42 rfl (lv_at hl 0 rfl) ?_
        refine lv_iload_n hx hb dX5_isAhead_43 rfl (lv_at hl 1 rfl) ?_
        refine lv_iload_n hx hb dX5_isAhead_44 rfl (lv_at hl 3 rfl) ?_
        obtain ⟨u5, g6, hf⟩ := Option.bind_eq_some_iff.mp hf
        try dsimp only at hf
        refine ct_callx (va_runV (As := [.int x1, .int x3]) (rest := []) ⟨hx, hb, hml, hown, hts⟩ (C_X5_cell l D tys hj htI (res := u5) g6) (cwV 2 hts (gu_V mw_369 mw_370 mw_371 mw_330 mw_367) rfl rfl rfl (by decide +kernel) ⟨Nat.le_of_ble_eq_true rfl, Nat.le_of_ble_eq_true rfl⟩) (ct_preVx (w := fun di => ww 6 ad (cellR cI ad th kk mn md rw dg kn fc oft di)) hP hK (ci := 5) (k := 0) rfl cr_mdl) rfl rfl hl.1 rfl (lv_room (Nat.le_of_ble_eq_true rfl)) dX5_isAhead_45 ⟨Nat.zero_le _, Nat.zero_le _⟩) hS (fun di H locs hP hS => ?_)
        refine lv_aload_n hx hb dX5_isAhead_48 rfl (lv_at hl 0 rfl) ?_
        refine lv_iload_n hx hb dX5_isAhead_49 rfl (lv_at hl 2 rfl) ?_
        refine lv_iload_n hx hb dX5_isAhead_50 rfl (lv_at hl 3 rfl) ?_
        obtain ⟨u7, g8, hf⟩ := Option.bind_eq_some_iff.mp hf
        try dsimp only at hf
        refine ct_callx (va_runV (As := [.int x2, .int x3]) (rest := [.int u5]) ⟨hx, hb, hml, hown, hts⟩ (C_X5_cell l D tys hj htI (res := u7) g8) (cwV 2 hts (gu_V mw_369 mw_370 mw_371 mw_330 mw_367) rfl rfl rfl (by decide +kernel) ⟨Nat.le_of_ble_eq_true rfl, Nat.le_of_ble_eq_true rfl⟩) (ct_preVx (w := fun di => ww 6 ad (cellR cI ad th kk mn md rw dg kn fc oft di)) hP hK (ci := 5) (k := 0) rfl cr_mdl) rfl rfl hl.1 rfl (lv_room (Nat.le_of_ble_eq_true rfl)) dX5_isAhead_51 ⟨Nat.zero_le _, Nat.zero_le _⟩) hS (fun di H locs hP hS => ?_)
        refine lv_icmp_ne (tgt := 63) hx hb dX5_isAhead_54 (by decide) (fun c9 => ?_) (fun c9 => ?_)
        · rw [if_neg c9] at hf
          exact hk_38 x3 _ _ _ _ hP hS (lv_sub hl [0, 1, 2, 3] rfl) hf
        · rw [if_pos c9] at hf
          refine lv_iinc (v := x3 + (-1)) (lv' := [(3, .int (x3 + (-1))), (0, .ref (ad 0)), (1, .int x1), (2, .int x2)]) hx hb dX5_isAhead_57 hl (k := 3) rfl rfl (by decide) rfl (fun ls hl => ?_)
          refine lv_goto (tgt := 38) hx hb dX5_isAhead_60 (by decide) ?_
          exact ih (x3 + (-1)) _ _ _ _ hP hS (lv_sub hl [1, 2, 3, 0] rfl) hf
  unfold f_X5_isAhead at hf
  refine lv_aload_n hx hb dX5_isAhead_0 rfl (lv_at hl 0 rfl) ?_
  refine va_get (ci := 5) (v := .ref (ad 4)) (C := RX5) (T := TX5) (N := 10) hx hb hts (fun w h => BW_in (in_wsX50 w h)) hown hK hP 0 cr_mdl rfl 6 (by decide) (hts (.fieldLink RX5 29 "NumberFieldFactorsModel" "degree" "[I") (BW_in mw_318)) (fun _ h9 => h9) rfl dX5_isAhead_1 ?_
  refine lv_iload_n hx hb dX5_isAhead_4 rfl (lv_at hl 1 rfl) ?_
  by_cases b1 : p0 < 0 ∨ 25 ≤ (p0).toNatClampNeg
  · rw [if_pos b1] at hf; cases hf
  rw [if_neg b1] at hf
  refine va_iald hx hb hK hP 4 0 cr_dg htI b1 dX5_isAhead_5 ?_
  refine lv_aload_n hx hb dX5_isAhead_6 rfl (lv_at hl 0 rfl) ?_
  refine va_get (ci := 5) (v := .ref (ad 4)) (C := RX5) (T := TX5) (N := 10) hx hb hts (fun w h => BW_in (in_wsX50 w h)) hown hK hP 0 cr_mdl rfl 6 (by decide) (hts (.fieldLink RX5 29 "NumberFieldFactorsModel" "degree" "[I") (BW_in mw_318)) (fun _ h9 => h9) rfl dX5_isAhead_7 ?_
  refine lv_iload_n hx hb dX5_isAhead_10 rfl (lv_at hl 2 rfl) ?_
  by_cases b2 : p1 < 0 ∨ 25 ≤ (p1).toNatClampNeg
  · rw [if_pos b2] at hf; cases hf
  rw [if_neg b2] at hf
  refine va_iald hx hb hK hP 4 0 cr_dg htI b2 dX5_isAhead_11 ?_
  refine lv_icmp_eq (tgt := 36) hx hb dX5_isAhead_12 (by decide) (fun c3 => ?_) (fun c3 => ?_)
  · rw [if_pos c3] at hf
    refine lv_iconst (v := 5) hx hb dX5_isAhead_36 (by decide) ?_
    refine lv_istore_n (lv' := [(3, .int 5), (0, .ref (ad 0)), (1, .int p0), (2, .int p1)]) hx hb dX5_isAhead_37 rfl hl (by decide) rfl (fun ls hl => ?_)
    refine L38 p0 p1 _ (fun y10 di H locs ls hP hS hl hf => ?_) fu 5 _ _ _ _ hP hS (lv_sub hl [1, 2, 3, 0] rfl) hf
    try dsimp only at hf
    refine lv_aload_n hx hb dX5_isAhead_63 rfl (lv_at hl 0 rfl) ?_
    refine lv_iload_n hx hb dX5_isAhead_64 rfl (lv_at hl 1 rfl) ?_
    refine lv_iload_n hx hb dX5_isAhead_65 rfl (lv_at hl 3 rfl) ?_
    obtain ⟨u11, g12, hf⟩ := Option.bind_eq_some_iff.mp hf
    try dsimp only at hf
    refine ct_callx (va_runV (As := [.int p0, .int y10]) (rest := []) ⟨hx, hb, hml, hown, hts⟩ (C_X5_cell l D tys hj htI (res := u11) g12) (cwV 2 hts (gu_V mw_369 mw_370 mw_371 mw_330 mw_367) rfl rfl rfl (by decide +kernel) ⟨Nat.le_of_ble_eq_true rfl, Nat.le_of_ble_eq_true rfl⟩) (ct_preVx (w := fun di => ww 6 ad (cellR cI ad th kk mn md rw dg kn fc oft di)) hP hK (ci := 5) (k := 0) rfl cr_mdl) rfl rfl hl.1 rfl (lv_room (Nat.le_of_ble_eq_true rfl)) dX5_isAhead_66 ⟨Nat.zero_le _, Nat.zero_le _⟩) hS (fun di H locs hP hS => ?_)
    refine lv_aload_n hx hb dX5_isAhead_69 rfl (lv_at hl 0 rfl) ?_
    refine lv_iload_n hx hb dX5_isAhead_70 rfl (lv_at hl 2 rfl) ?_
    refine lv_iload_n hx hb dX5_isAhead_71 rfl (lv_at hl 3 rfl) ?_
    obtain ⟨u13, g14, hf⟩ := Option.bind_eq_some_iff.mp hf
    try dsimp only at hf
    refine ct_callx (va_runV (As := [.int p1, .int y10]) (rest := [.int u11]) ⟨hx, hb, hml, hown, hts⟩ (C_X5_cell l D tys hj htI (res := u13) g14) (cwV 2 hts (gu_V mw_369 mw_370 mw_371 mw_330 mw_367) rfl rfl rfl (by decide +kernel) ⟨Nat.le_of_ble_eq_true rfl, Nat.le_of_ble_eq_true rfl⟩) (ct_preVx (w := fun di => ww 6 ad (cellR cI ad th kk mn md rw dg kn fc oft di)) hP hK (ci := 5) (k := 0) rfl cr_mdl) rfl rfl hl.1 rfl (lv_room (Nat.le_of_ble_eq_true rfl)) dX5_isAhead_72 ⟨Nat.zero_le _, Nat.zero_le _⟩) hS (fun di H locs hP hS => ?_)
    refine lv_icmp_ge (tgt := 82) hx hb dX5_isAhead_75 (by decide) (fun c15 => ?_) (fun c15 => ?_)
    · rw [if_pos c15] at hf
      refine lv_iconst (v := 0) hx hb dX5_isAhead_82 (by decide) ?_
      obtain rfl := Option.some.inj hf
      exact W.zret (v := 0) (ty := .boolean) hx hb hr (by decide) (fun t ht hW => ⟨rfl, ⟨di, by rw [ht]; exact hP⟩, hS.F ht⟩) hS.2.2 dX5_isAhead_83
    · rw [if_neg c15] at hf
      refine lv_iconst (v := 1) hx hb dX5_isAhead_78 (by decide) ?_
      refine lv_goto (tgt := 83) hx hb dX5_isAhead_79 (by decide) ?_
      obtain rfl := Option.some.inj hf
      exact W.zret (v := 1) (ty := .boolean) hx hb hr (by decide) (fun t ht hW => ⟨rfl, ⟨di, by rw [ht]; exact hP⟩, hS.F ht⟩) hS.2.2 dX5_isAhead_83
  · rw [if_neg c3] at hf
    refine lv_aload_n hx hb dX5_isAhead_15 rfl (lv_at hl 0 rfl) ?_
    refine va_get (ci := 5) (v := .ref (ad 4)) (C := RX5) (T := TX5) (N := 10) hx hb hts (fun w h => BW_in (in_wsX50 w h)) hown hK hP 0 cr_mdl rfl 6 (by decide) (hts (.fieldLink RX5 29 "NumberFieldFactorsModel" "degree" "[I") (BW_in mw_318)) (fun _ h9 => h9) rfl dX5_isAhead_16 ?_
    refine lv_iload_n hx hb dX5_isAhead_19 rfl (lv_at hl 1 rfl) ?_
    by_cases b16 : p0 < 0 ∨ 25 ≤ (p0).toNatClampNeg
    · rw [if_pos b16] at hf; cases hf
    rw [if_neg b16] at hf
    refine va_iald hx hb hK hP 4 0 cr_dg htI b16 dX5_isAhead_20 ?_
    refine lv_aload_n hx hb dX5_isAhead_21 rfl (lv_at hl 0 rfl) ?_
    refine va_get (ci := 5) (v := .ref (ad 4)) (C := RX5) (T := TX5) (N := 10) hx hb hts (fun w h => BW_in (in_wsX50 w h)) hown hK hP 0 cr_mdl rfl 6 (by decide) (hts (.fieldLink RX5 29 "NumberFieldFactorsModel" "degree" "[I") (BW_in mw_318)) (fun _ h9 => h9) rfl dX5_isAhead_22 ?_
    refine lv_iload_n hx hb dX5_isAhead_25 rfl (lv_at hl 2 rfl) ?_
    by_cases b17 : p1 < 0 ∨ 25 ≤ (p1).toNatClampNeg
    · rw [if_pos b17] at hf; cases hf
    rw [if_neg b17] at hf
    refine va_iald hx hb hK hP 4 0 cr_dg htI b17 dX5_isAhead_26 ?_
    refine lv_icmp_ge (tgt := 34) hx hb dX5_isAhead_27 (by decide) (fun c18 => ?_) (fun c18 => ?_)
    · rw [if_pos c18] at hf
      refine lv_iconst (v := 0) hx hb dX5_isAhead_34 (by decide) ?_
      obtain rfl := Option.some.inj hf
      exact W.zret (v := 0) (ty := .boolean) hx hb hr (by decide) (fun t ht hW => ⟨rfl, ⟨di, by rw [ht]; exact hP⟩, hS.F ht⟩) hS.2.2 dX5_isAhead_35
    · rw [if_neg c18] at hf
      refine lv_iconst (v := 1) hx hb dX5_isAhead_30 (by decide) ?_
      refine lv_goto (tgt := 35) hx hb dX5_isAhead_31 (by decide) ?_
      obtain rfl := Option.some.inj hf
      exact W.zret (v := 1) (ty := .boolean) hx hb hr (by decide) (fun t ht hW => ⟨rfl, ⟨di, by rw [ht]; exact hP⟩, hS.F ht⟩) hS.2.2 dX5_isAhead_35
def f_X5_order_l12 (k12 : Int32 → (Nat → Int32) → (Nat → Int32) → Option ((Nat → Int32) × (Nat → Int32))) (fu : Nat) (fc : Int32) (x1 : Int32) : Nat → Int32 → (Nat → Int32) → (Nat → Int32) → Option ((Nat → Int32) × (Nat → Int32))
  | 0, _, _, _ => none
  | n + 1, x2, rw, dg =>
    if x2 ≤ 0 then
      k12 x2 rw dg
    else
      (f_X5_isAhead fu rw dg (20 + x2) ((20 + x2) - 1)).bind (fun u3 =>
      if u3 = 0 then
        k12 x2 rw dg
      else
        (f_X5_copy fu rw dg (20 + x2) 2).bind (fun u6 =>
        (f_X5_copy fu u6.1 u6.2 ((20 + x2) - 1) (20 + x2)).bind (fun u8 =>
        (f_X5_copy fu u8.1 u8.2 2 ((20 + x2) - 1)).bind (fun u10 =>
        f_X5_order_l12 k12 fu fc x1 n (x2 + (-1)) u10.1 u10.2))))
def f_X5_order_l2 (k2 : Int32 → (Nat → Int32) → (Nat → Int32) → Option ((Nat → Int32) × (Nat → Int32))) (fu : Nat) (fc : Int32) : Nat → Int32 → (Nat → Int32) → (Nat → Int32) → Option ((Nat → Int32) × (Nat → Int32))
  | 0, _, _, _ => none
  | n + 1, x1, rw, dg =>
    if fc ≤ x1 then
      k2 x1 rw dg
    else
      f_X5_order_l12 (fun y12 rw13 dg14 =>
        f_X5_order_l2 k2 fu fc n (x1 + 1) rw13 dg14) fu fc x1 fu x1 rw dg
def f_X5_order (fu : Nat) (rw : Nat → Int32) (dg : Nat → Int32) (fc : Int32) : Option ((Nat → Int32) × (Nat → Int32)) :=
  f_X5_order_l2 (fun y15 rw16 dg17 =>
    some (rw16, dg17)) fu fc fu 1 rw dg
set_option maxHeartbeats 4000000 in
set_option maxRecDepth 100000 in
theorem C_X5_order (l : Launch) (D : va_G) (tys : List (ClassId × FieldType)) {ad : Nat → Nat} (hj : ww_inj 6 ad) {cI : ClassId} (htI : tys[0]? = some (cI, .int)) {fu : Nat} {th : Int32} {kk : Int32} {mn : Int64} {md : Nat → Int32} {rw : Nat → Int32} {dg : Nat → Int32} {kn : Int32} {fc : Int32} {oft : Nat → Int32} {res : (Nat → Int32) × (Nat → Int32)} (hf : f_X5_order fu rw dg fc = some res) :
    Met l yX5_order usX5_order ({ frames := 2, cells := 0, slots := 0, locals := 45 }) (va_Pc [.ref (ad 0)] (ws_Bx D tys (fun di => ww 6 ad (cellR cI ad th kk mn md rw dg kn fc oft di)))) (ct_Qx D (fun di => ww 6 ad (cellR cI ad th kk mn md res.1 res.2 kn fc oft di)) (ww_A 6 ad) (none)) 0 0 (ww_A 6 ad) := by
  refine Met.ofW (cc := cX5_order) (maxL := 3) (ret := none) (by decide) rfl ?_
  intro p e s m args below meth c s₁ B hml hv
  obtain ⟨rfl, ⟨di, hP⟩, hK⟩ := hv
  have hx := B.exec
  have hb := B.bytes
  have hr := B.returns
  have hts := atoms_spec (ws := usX5_order) B.pre
  have hown : s.vm.findClass RX5 = some m.cls := findClass_of_methodNamed B.named
  have hlocks := B.notSynchronized
  have hS : va_S (ww_A 6 ad) s.heap s.heap [] := va_S.rf
  have hl := lv_entry ([.ref (ad 0)]) (n := 3) (Nat.le_of_ble_eq_true rfl)
  rw [lg_entry_eq]
  generalize (lg_sl ([.ref (ad 0)]) ++ List.replicate (3 - (lg_sl ([.ref (ad 0)])).length) Slot.unset).toArray = ls at hl ⊢
  have hl : lv_has ls 3 [(0, .ref (ad 0))] := hl
  have L12 : ∀ (x1 : Int32) (k12 : Int32 → (Nat → Int32) → (Nat → Int32) → Option ((Nat → Int32) × (Nat → Int32))), (∀ (x2 : Int32) (rw : Nat → Int32) (dg : Nat → Int32) (di : Nat → Int32) (H : Heap) (locs : List Loc) (ls : Array Slot), va_P D vwCl (ww 6 ad (cellR cI ad th kk mn md rw dg kn fc oft di)) H → va_S (ww_A 6 ad) s.heap H locs → lv_has ls 3 [(0, .ref (ad 0)), (1, .int x1), (2, .int x2)] →  k12 x2 rw dg = some res → W p l e (headSpec usX5_order { frames := 2, cells := 0, slots := 0, locals := 45 }).room s m [.ref (ad 0)].toArray below meth c H locs 0 0 (MQ below (ct_Qx D (fun di => ww 6 ad (cellR cI ad th kk mn md res.1 res.2 kn fc oft di)) (ww_A 6 ad) (none)) [.ref (ad 0)].toArray s 0 0 (ww_A 6 ad)) (F0 m 73 ls [])) → ∀ (n : Nat) (x2 : Int32) (rw : Nat → Int32) (dg : Nat → Int32) (di : Nat → Int32) (H : Heap) (locs : List Loc) (ls : Array Slot), va_P D vwCl (ww 6 ad (cellR cI ad th kk mn md rw dg kn fc oft di)) H → va_S (ww_A 6 ad) s.heap H locs → lv_has ls 3 [(0, .ref (ad 0)), (1, .int x1), (2, .int x2)] →  f_X5_order_l12 k12 fu fc x1 n x2 rw dg = some res → W p l e (headSpec usX5_order { frames := 2, cells := 0, slots := 0, locals := 45 }).room s m [.ref (ad 0)].toArray below meth c H locs 0 0 (MQ below (ct_Qx D (fun di => ww 6 ad (cellR cI ad th kk mn md res.1 res.2 kn fc oft di)) (ww_A 6 ad) (none)) [.ref (ad 0)].toArray s 0 0 (ww_A 6 ad)) (F0 m 12 ls []) := by
    intro x1 k12 hk_12 n
    induction n with
    | zero => intro x2 rw dg di H locs ls hP hS hl hf; rw [f_X5_order_l12] at hf; cases hf
    | succ n ih =>
      intro x2 rw dg di H locs ls hP hS hl hf
      rw [f_X5_order_l12] at hf
      refine lv_iload_n hx hb dX5_order_12 rfl (lv_at hl 2 rfl) ?_
      refine lv_if_le (tgt := 73) hx hb dX5_order_13 (by decide) (fun c2 => ?_) (fun c2 => ?_)
      · rw [if_pos c2] at hf
        exact hk_12 x2 rw dg _ _ _ _ hP hS (lv_sub hl [0, 1, 2] rfl) hf
      · rw [if_neg c2] at hf
        refine lv_aload_n hx hb dX5_order_16 rfl (lv_at hl 0 rfl) ?_
        refine lv_bipush (v := 20) hx hb dX5_order_17 (by decide) ?_
        refine lv_iload_n hx hb dX5_order_19 rfl (lv_at hl 2 rfl) ?_
        refine lv_iadd hx hb dX5_order_20 ?_
        refine lv_bipush (v := 20) hx hb dX5_order_21 (by decide) ?_
        refine lv_iload_n hx hb dX5_order_23 rfl (lv_at hl 2 rfl) ?_
        refine lv_iadd hx hb dX5_order_24 ?_
        refine lv_iconst (v := 1) hx hb dX5_order_25 (by decide) ?_
        refine lv_isub hx hb dX5_order_26 ?_
        obtain ⟨u3, g4, hf⟩ := Option.bind_eq_some_iff.mp hf
        try dsimp only at hf
        refine ct_callx (va_runV (As := [.int (20 + x2), .int ((20 + x2) - 1)]) (rest := []) ⟨hx, hb, hml, hown, hts⟩ (C_X5_isAhead l D tys hj htI (res := u3) g4) (cwV 2 hts (gu_V mw_441 mw_442 mw_443 mw_330 mw_439) rfl rfl rfl (by decide +kernel) ⟨Nat.le_of_ble_eq_true rfl, Nat.le_of_ble_eq_true rfl⟩) (ct_preVx (w := fun di => ww 6 ad (cellR cI ad th kk mn md rw dg kn fc oft di)) hP hK (ci := 5) (k := 0) rfl cr_mdl) rfl rfl hl.1 rfl (lv_room (Nat.le_of_ble_eq_true rfl)) dX5_order_27 ⟨Nat.zero_le _, Nat.zero_le _⟩) hS (fun di H locs hP hS => ?_)
        refine lv_if_eq (tgt := 73) hx hb dX5_order_30 (by decide) (fun c5 => ?_) (fun c5 => ?_)
        · rw [if_pos c5] at hf
          exact hk_12 x2 rw dg _ _ _ _ hP hS (lv_sub hl [0, 1, 2] rfl) hf
        · rw [if_neg c5] at hf
          refine lv_aload_n hx hb dX5_order_33 rfl (lv_at hl 0 rfl) ?_
          refine lv_bipush (v := 20) hx hb dX5_order_34 (by decide) ?_
          refine lv_iload_n hx hb dX5_order_36 rfl (lv_at hl 2 rfl) ?_
          refine lv_iadd hx hb dX5_order_37 ?_
          refine lv_iconst (v := 2) hx hb dX5_order_38 (by decide) ?_
          obtain ⟨u6, g7, hf⟩ := Option.bind_eq_some_iff.mp hf
          try dsimp only at hf
          refine ct_callx (va_runV (As := [.int (20 + x2), .int 2]) (rest := []) ⟨hx, hb, hml, hown, hts⟩ (C_X5_copy l D tys hj htI (res := u6) g7) (cwV 2 hts (gu_V mw_385 mw_386 mw_387 mw_330 mw_365) rfl rfl rfl (by decide +kernel) ⟨Nat.le_of_ble_eq_true rfl, Nat.le_of_ble_eq_true rfl⟩) (ct_preVx (w := fun di => ww 6 ad (cellR cI ad th kk mn md rw dg kn fc oft di)) hP hK (ci := 5) (k := 0) rfl cr_mdl) rfl rfl hl.1 rfl (lv_room (Nat.le_of_ble_eq_true rfl)) dX5_order_39 ⟨Nat.zero_le _, Nat.zero_le _⟩) hS (fun di H locs hP hS => ?_)
          refine lv_aload_n hx hb dX5_order_42 rfl (lv_at hl 0 rfl) ?_
          refine lv_bipush (v := 20) hx hb dX5_order_43 (by decide) ?_
          refine lv_iload_n hx hb dX5_order_45 rfl (lv_at hl 2 rfl) ?_
          refine lv_iadd hx hb dX5_order_46 ?_
          refine lv_iconst (v := 1) hx hb dX5_order_47 (by decide) ?_
          refine lv_isub hx hb dX5_order_48 ?_
          refine lv_bipush (v := 20) hx hb dX5_order_49 (by decide) ?_
          refine lv_iload_n hx hb dX5_order_51 rfl (lv_at hl 2 rfl) ?_
          refine lv_iadd hx hb dX5_order_52 ?_
          obtain ⟨u8, g9, hf⟩ := Option.bind_eq_some_iff.mp hf
          try dsimp only at hf
          refine ct_callx (va_runV (As := [.int ((20 + x2) - 1), .int (20 + x2)]) (rest := []) ⟨hx, hb, hml, hown, hts⟩ (C_X5_copy l D tys hj htI (res := u8) g9) (cwV 2 hts (gu_V mw_385 mw_386 mw_387 mw_330 mw_365) rfl rfl rfl (by decide +kernel) ⟨Nat.le_of_ble_eq_true rfl, Nat.le_of_ble_eq_true rfl⟩) (ct_preVx (w := fun di => ww 6 ad (cellR cI ad th kk mn md u6.1 u6.2 kn fc oft di)) hP hK (ci := 5) (k := 0) rfl cr_mdl) rfl rfl hl.1 rfl (lv_room (Nat.le_of_ble_eq_true rfl)) dX5_order_53 ⟨Nat.zero_le _, Nat.zero_le _⟩) hS (fun di H locs hP hS => ?_)
          refine lv_aload_n hx hb dX5_order_56 rfl (lv_at hl 0 rfl) ?_
          refine lv_iconst (v := 2) hx hb dX5_order_57 (by decide) ?_
          refine lv_bipush (v := 20) hx hb dX5_order_58 (by decide) ?_
          refine lv_iload_n hx hb dX5_order_60 rfl (lv_at hl 2 rfl) ?_
          refine lv_iadd hx hb dX5_order_61 ?_
          refine lv_iconst (v := 1) hx hb dX5_order_62 (by decide) ?_
          refine lv_isub hx hb dX5_order_63 ?_
          obtain ⟨u10, g11, hf⟩ := Option.bind_eq_some_iff.mp hf
          try dsimp only at hf
          refine ct_callx (va_runV (As := [.int 2, .int ((20 + x2) - 1)]) (rest := []) ⟨hx, hb, hml, hown, hts⟩ (C_X5_copy l D tys hj htI (res := u10) g11) (cwV 2 hts (gu_V mw_385 mw_386 mw_387 mw_330 mw_365) rfl rfl rfl (by decide +kernel) ⟨Nat.le_of_ble_eq_true rfl, Nat.le_of_ble_eq_true rfl⟩) (ct_preVx (w := fun di => ww 6 ad (cellR cI ad th kk mn md u8.1 u8.2 kn fc oft di)) hP hK (ci := 5) (k := 0) rfl cr_mdl) rfl rfl hl.1 rfl (lv_room (Nat.le_of_ble_eq_true rfl)) dX5_order_64 ⟨Nat.zero_le _, Nat.zero_le _⟩) hS (fun di H locs hP hS => ?_)
          refine lv_iinc (v := x2 + (-1)) (lv' := [(2, .int (x2 + (-1))), (0, .ref (ad 0)), (1, .int x1)]) hx hb dX5_order_67 hl (k := 2) rfl rfl (by decide) rfl (fun ls hl => ?_)
          refine lv_goto (tgt := 12) hx hb dX5_order_70 (by decide) ?_
          exact ih (x2 + (-1)) u10.1 u10.2 _ _ _ _ hP hS (lv_sub hl [1, 2, 0] rfl) hf
  have L2 : ∀  (k2 : Int32 → (Nat → Int32) → (Nat → Int32) → Option ((Nat → Int32) × (Nat → Int32))), (∀ (x1 : Int32) (rw : Nat → Int32) (dg : Nat → Int32) (di : Nat → Int32) (H : Heap) (locs : List Loc) (ls : Array Slot), va_P D vwCl (ww 6 ad (cellR cI ad th kk mn md rw dg kn fc oft di)) H → va_S (ww_A 6 ad) s.heap H locs → lv_has ls 3 [(0, .ref (ad 0)), (1, .int x1)] →  k2 x1 rw dg = some res → W p l e (headSpec usX5_order { frames := 2, cells := 0, slots := 0, locals := 45 }).room s m [.ref (ad 0)].toArray below meth c H locs 0 0 (MQ below (ct_Qx D (fun di => ww 6 ad (cellR cI ad th kk mn md res.1 res.2 kn fc oft di)) (ww_A 6 ad) (none)) [.ref (ad 0)].toArray s 0 0 (ww_A 6 ad)) (F0 m 79 ls [])) → ∀ (n : Nat) (x1 : Int32) (rw : Nat → Int32) (dg : Nat → Int32) (di : Nat → Int32) (H : Heap) (locs : List Loc) (ls : Array Slot), va_P D vwCl (ww 6 ad (cellR cI ad th kk mn md rw dg kn fc oft di)) H → va_S (ww_A 6 ad) s.heap H locs → lv_has ls 3 [(0, .ref (ad 0)), (1, .int x1)] →  f_X5_order_l2 k2 fu fc n x1 rw dg = some res → W p l e (headSpec usX5_order { frames := 2, cells := 0, slots := 0, locals := 45 }).room s m [.ref (ad 0)].toArray below meth c H locs 0 0 (MQ below (ct_Qx D (fun di => ww 6 ad (cellR cI ad th kk mn md res.1 res.2 kn fc oft di)) (ww_A 6 ad) (none)) [.ref (ad 0)].toArray s 0 0 (ww_A 6 ad)) (F0 m 2 ls []) := by
    intro  k2 hk_2 n
    induction n with
    | zero => intro x1 rw dg di H locs ls hP hS hl hf; rw [f_X5_order_l2] at hf; cases hf
    | succ n ih =>
      intro x1 rw dg di H locs ls hP hS hl hf
      rw [f_X5_order_l2] at hf
      refine lv_iload_n hx hb dX5_order_2 rfl (lv_at hl 1 rfl) ?_
      refine lv_aload_n hx hb dX5_order_3 rfl (lv_at hl 0 rfl) ?_
      refine va_get (ci := 5) (v := .int fc) (C := RX5) (T := TX5) (N := 10) hx hb hts (fun w h => BW_in (in_wsX50 w h)) hown hK hP 0 cr_mdl rfl 8 (by decide) (hts (.fieldLink RX5 126 "NumberFieldFactorsModel" "factors" "I") (BW_in mw_427)) (fun _ h9 => h9) rfl dX5_order_4 ?_
      refine lv_icmp_ge (tgt := 79) hx hb dX5_order_7 (by decide) (fun c1 => ?_) (fun c1 => ?_)
      · rw [if_pos c1] at hf
        exact hk_2 x1 rw dg _ _ _ _ hP hS (lv_sub hl [0, 1] rfl) hf
      · rw [if_neg c1] at hf
        refine lv_iload_n hx hb dX5_order_10 rfl (lv_at hl 1 rfl) ?_
        refine lv_istore_n (lv' := [(2, .int x1), (0, .ref (ad 0)), (1, .int x1)]) hx hb dX5_order_11 rfl hl (by decide) rfl (fun ls hl => ?_)
        refine L12 x1 _ (fun y12 rw13 dg14 di H locs ls hP hS hl hf => ?_) fu x1 rw dg _ _ _ _ hP hS (lv_sub hl [1, 2, 0] rfl) hf
        try dsimp only at hf
        refine lv_iinc (v := x1 + 1) (lv' := [(1, .int (x1 + 1)), (0, .ref (ad 0)), (2, .int y12)]) hx hb dX5_order_73 hl (k := 1) rfl rfl (by decide) rfl (fun ls hl => ?_)
        refine lv_goto (tgt := 2) hx hb dX5_order_76 (by decide) ?_
        exact ih (x1 + 1) rw13 dg14 _ _ _ _ hP hS (lv_sub hl [1, 0] rfl) hf
  unfold f_X5_order at hf
  refine lv_iconst (v := 1) hx hb dX5_order_0 (by decide) ?_
  refine lv_istore_n (lv' := [(1, .int 1), (0, .ref (ad 0))]) hx hb dX5_order_1 rfl hl (by decide) rfl (fun ls hl => ?_)
  refine L2  _ (fun y15 rw16 dg17 di H locs ls hP hS hl hf => ?_) fu 1 rw dg _ _ _ _ hP hS (lv_sub hl [1, 0] rfl) hf
  try dsimp only at hf
  obtain rfl := Option.some.inj hf
  exact W.vret hx hb hr (fun t ht hW => ⟨rfl, ⟨di, by rw [ht]; exact hP⟩, hS.F ht⟩) hS.2.2 dX5_order_79
def f_X5_factorise_l45 (k45 : Int32 → (Nat → Int32) → (Nat → Int32) → (Nat → Int32) → Option ((Nat → Int32) × (Nat → Int32) × (Int32) × (Int32) × (Nat → Int32))) (fu : Nat) (kk : Int32) (mn : Int64) (md : Nat → Int32) (kn : Int32) (fc : Int32) (x1 : Int32) : Nat → Int32 → (Nat → Int32) → (Nat → Int32) → (Nat → Int32) → Option ((Nat → Int32) × (Nat → Int32) × (Int32) × (Int32) × (Nat → Int32))
  | 0, _, _, _, _ => none
  | n + 1, x2, rw, dg, oft =>
    if x2 = 0 then
      k45 x2 rw dg oft
    else
      (f_X5_divide fu kk mn md rw dg 2 (20 + x1) 3).bind (fun u13 =>
      if (2 : Int32) < 0 ∨ 25 ≤ (2 : Int32).toNatClampNeg then none else
      ((
        if 0 ≤ (u13.2 (2 : Int32).toNatClampNeg) then
          some 0
        else
          if (3 : Int32) < 0 ∨ 25 ≤ (3 : Int32).toNatClampNeg then none else
          ((
            if (u13.2 (3 : Int32).toNatClampNeg) < 0 then
              some 0
            else
              some 1 : Option (Int32))).bind (fun w19 =>
          some w19) : Option (Int32))).bind (fun w16 =>
      if x1 < 0 ∨ 5 ≤ (x1).toNatClampNeg then none else
      ((
        if w16 = 0 then
          some 0
        else
          some 1 : Option (Int32))).bind (fun w22 =>
      if x1 < 0 ∨ 5 ≤ (x1).toNatClampNeg then none else
      (f_X5_copy fu u13.1 u13.2 3 2).bind (fun u25 =>
      f_X5_factorise_l45 k45 fu kk mn md kn fc x1 n w16 u25.1 u25.2 (upd oft (x1).toNatClampNeg ((oft (x1).toNatClampNeg) + w22))))))
def f_X5_factorise_l22 (k22 : Int32 → (Nat → Int32) → (Nat → Int32) → (Nat → Int32) → Option ((Nat → Int32) × (Nat → Int32) × (Int32) × (Int32) × (Nat → Int32))) (fu : Nat) (kk : Int32) (mn : Int64) (md : Nat → Int32) (kn : Int32) (fc : Int32) : Nat → Int32 → (Nat → Int32) → (Nat → Int32) → (Nat → Int32) → Option ((Nat → Int32) × (Nat → Int32) × (Int32) × (Int32) × (Nat → Int32))
  | 0, _, _, _, _ => none
  | n + 1, x1, rw, dg, oft =>
    if fc ≤ x1 then
      k22 x1 rw dg oft
    else
      if x1 < 0 ∨ 5 ≤ (x1).toNatClampNeg then none else
      (f_X5_copy fu rw dg 0 2).bind (fun u10 =>
      f_X5_factorise_l45 (fun y27 rw28 dg29 oft30 =>
        f_X5_factorise_l22 k22 fu kk mn md kn fc n (x1 + 1) rw28 dg29 oft30) fu kk mn md kn fc x1 fu 1 u10.1 u10.2 (upd oft (x1).toNatClampNeg 0))
def f_X5_factorise (fu : Nat) (kk : Int32) (mn : Int64) (md : Nat → Int32) (rw : Nat → Int32) (dg : Nat → Int32) (kn : Int32) (fc : Int32) (oft : Nat → Int32) : Option ((Nat → Int32) × (Nat → Int32) × (Int32) × (Int32) × (Nat → Int32)) :=
  if kn = 0 then
    (f_X5_root fu kk mn md rw dg).bind (fun u2 =>
    (f_X5_split fu kk mn md u2.1 u2.2 fc).bind (fun u4 =>
    (f_X5_order fu u4.1 u4.2.1 u4.2.2).bind (fun u6 =>
    f_X5_factorise_l22 (fun y31 rw32 dg33 oft34 =>
      some (rw32, dg33, 1, u4.2.2, oft34)) fu kk mn md kn u4.2.2 fu 0 u6.1 u6.2 oft)))
  else
    some (rw, dg, kn, fc, oft)
set_option maxHeartbeats 4000000 in
set_option maxRecDepth 100000 in
theorem C_X5_factorise (l : Launch) (D : va_G) (tys : List (ClassId × FieldType)) {ad : Nat → Nat} (hj : ww_inj 6 ad) {cI : ClassId} (htI : tys[0]? = some (cI, .int)) {fu : Nat} {th : Int32} {kk : Int32} {mn : Int64} {md : Nat → Int32} {rw : Nat → Int32} {dg : Nat → Int32} {kn : Int32} {fc : Int32} {oft : Nat → Int32} {res : (Nat → Int32) × (Nat → Int32) × (Int32) × (Int32) × (Nat → Int32)} (hf : f_X5_factorise fu kk mn md rw dg kn fc oft = some res) :
    Met l yX5_factorise usX5_factorise ({ frames := 8, cells := 0, slots := 0, locals := 196 }) (va_Pc [.ref (ad 0)] (ws_Bx D tys (fun di => ww 6 ad (cellR cI ad th kk mn md rw dg kn fc oft di)))) (ct_Qx D (fun di => ww 6 ad (cellR cI ad th kk mn md res.1 res.2.1 res.2.2.1 res.2.2.2.1 res.2.2.2.2 di)) (ww_A 6 ad) (none)) 0 0 (ww_A 6 ad) := by
  refine Met.ofW (cc := cX5_factorise) (maxL := 3) (ret := none) (by decide) rfl ?_
  intro p e s m args below meth c s₁ B hml hv
  obtain ⟨rfl, ⟨di, hP⟩, hK⟩ := hv
  have hx := B.exec
  have hb := B.bytes
  have hr := B.returns
  have hts := atoms_spec (ws := usX5_factorise) B.pre
  have hown : s.vm.findClass RX5 = some m.cls := findClass_of_methodNamed B.named
  have hlocks := B.notSynchronized
  have hS : va_S (ww_A 6 ad) s.heap s.heap [] := va_S.rf
  have hl := lv_entry ([.ref (ad 0)]) (n := 3) (Nat.le_of_ble_eq_true rfl)
  rw [lg_entry_eq]
  generalize (lg_sl ([.ref (ad 0)]) ++ List.replicate (3 - (lg_sl ([.ref (ad 0)])).length) Slot.unset).toArray = ls at hl ⊢
  have hl : lv_has ls 3 [(0, .ref (ad 0))] := hl
  have L45 : ∀ (kn : Int32) (fc : Int32) (x1 : Int32) (k45 : Int32 → (Nat → Int32) → (Nat → Int32) → (Nat → Int32) → Option ((Nat → Int32) × (Nat → Int32) × (Int32) × (Int32) × (Nat → Int32))), (∀ (x2 : Int32) (rw : Nat → Int32) (dg : Nat → Int32) (oft : Nat → Int32) (di : Nat → Int32) (H : Heap) (locs : List Loc) (ls : Array Slot), va_P D vwCl (ww 6 ad (cellR cI ad th kk mn md rw dg kn fc oft di)) H → va_S (ww_A 6 ad) s.heap H locs → lv_has ls 3 [(0, .ref (ad 0)), (1, .int x1), (2, .int x2)] →  k45 x2 rw dg oft = some res → W p l e (headSpec usX5_factorise { frames := 8, cells := 0, slots := 0, locals := 196 }).room s m [.ref (ad 0)].toArray below meth c H locs 0 0 (MQ below (ct_Qx D (fun di => ww 6 ad (cellR cI ad th kk mn md res.1 res.2.1 res.2.2.1 res.2.2.2.1 res.2.2.2.2 di)) (ww_A 6 ad) (none)) [.ref (ad 0)].toArray s 0 0 (ww_A 6 ad)) (F0 m 110 ls [])) → ∀ (n : Nat) (x2 : Int32) (rw : Nat → Int32) (dg : Nat → Int32) (oft : Nat → Int32) (di : Nat → Int32) (H : Heap) (locs : List Loc) (ls : Array Slot), va_P D vwCl (ww 6 ad (cellR cI ad th kk mn md rw dg kn fc oft di)) H → va_S (ww_A 6 ad) s.heap H locs → lv_has ls 3 [(0, .ref (ad 0)), (1, .int x1), (2, .int x2)] →  f_X5_factorise_l45 k45 fu kk mn md kn fc x1 n x2 rw dg oft = some res → W p l e (headSpec usX5_factorise { frames := 8, cells := 0, slots := 0, locals := 196 }).room s m [.ref (ad 0)].toArray below meth c H locs 0 0 (MQ below (ct_Qx D (fun di => ww 6 ad (cellR cI ad th kk mn md res.1 res.2.1 res.2.2.1 res.2.2.2.1 res.2.2.2.2 di)) (ww_A 6 ad) (none)) [.ref (ad 0)].toArray s 0 0 (ww_A 6 ad)) (F0 m 45 ls []) := by
    intro kn fc x1 k45 hk_45 n
    induction n with
    | zero => intro x2 rw dg oft di H locs ls hP hS hl hf; rw [f_X5_factorise_l45] at hf; cases hf
    | succ n ih =>
      intro x2 rw dg oft di H locs ls hP hS hl hf
      rw [f_X5_factorise_l45] at hf
      refine lv_iload_n hx hb dX5_factorise_45 rfl (lv_at hl 2 rfl) ?_
      refine lv_if_eq (tgt := 110) hx hb dX5_factorise_46 (by decide) (fun c12 => ?_) (fun c12 => ?_)
      · rw [if_pos c12] at hf
        exact hk_45 x2 rw dg oft _ _ _ _ hP hS (lv_sub hl [0, 1, 2] rfl) hf
      · rw [if_neg c12] at hf
        refine lv_aload_n hx hb dX5_factorise_49 rfl (lv_at hl 0 rfl) ?_
        refine lv_iconst (v := 2) hx hb dX5_factorise_50 (by decide) ?_
        refine lv_bipush (v := 20) hx hb dX5_factorise_51 (by decide) ?_
        refine lv_iload_n hx hb dX5_factorise_53 rfl (lv_at hl 1 rfl) ?_
        refine lv_iadd hx hb dX5_factorise_54 ?_
        refine lv_iconst (v := 3) hx hb dX5_factorise_55 (by decide) ?_
        obtain ⟨u13, g14, hf⟩ := Option.bind_eq_some_iff.mp hf
        try dsimp only at hf
        refine ct_callx (va_runV (As := [.int 2, .int (20 + x1), .int 3]) (rest := []) ⟨hx, hb, hml, hown, hts⟩ (C_X5_divide l D tys hj htI (res := u13) g14) (cwV 3 hts (gu_V mw_382 mw_383 mw_384 mw_330 mw_380) rfl rfl rfl (by decide +kernel) ⟨Nat.le_of_ble_eq_true rfl, Nat.le_of_ble_eq_true rfl⟩) (ct_preVx (w := fun di => ww 6 ad (cellR cI ad th kk mn md rw dg kn fc oft di)) hP hK (ci := 5) (k := 0) rfl cr_mdl) rfl rfl hl.1 rfl (lv_room (Nat.le_of_ble_eq_true rfl)) dX5_factorise_56 ⟨Nat.zero_le _, Nat.zero_le _⟩) hS (fun di H locs hP hS => ?_)
        refine lv_aload_n hx hb dX5_factorise_59 rfl (lv_at hl 0 rfl) ?_
        refine va_get (ci := 5) (v := .ref (ad 4)) (C := RX5) (T := TX5) (N := 10) hx hb hts (fun w h => BW_in (in_wsX50 w h)) hown hK hP 0 cr_mdl rfl 6 (by decide) (hts (.fieldLink RX5 29 "NumberFieldFactorsModel" "degree" "[I") (BW_in mw_318)) (fun _ h9 => h9) rfl dX5_factorise_60 ?_
        refine lv_iconst (v := 2) hx hb dX5_factorise_63 (by decide) ?_
        by_cases b15 : (2 : Int32) < 0 ∨ 25 ≤ (2 : Int32).toNatClampNeg
        · rw [if_pos b15] at hf; cases hf
        rw [if_neg b15] at hf
        refine va_iald hx hb hK hP 4 0 cr_dg htI b15 dX5_factorise_64 ?_
        obtain ⟨w16, gw16, hf⟩ := Option.bind_eq_some_iff.mp hf
        try dsimp only at hf
        have hJ82_w16 : ∀ (di : Nat → Int32) (H : Heap) (locs : List Loc) (ls : Array Slot), va_P D vwCl (ww 6 ad (cellR cI ad th kk mn md u13.1 u13.2 kn fc oft di)) H → va_S (ww_A 6 ad) s.heap H locs → lv_has ls 3 [(0, .ref (ad 0)), (1, .int x1), (2, .int x2)] → W p l e (headSpec usX5_factorise { frames := 8, cells := 0, slots := 0, locals := 196 }).room s m [.ref (ad 0)].toArray below meth c H locs 0 0 (MQ below (ct_Qx D (fun di => ww 6 ad (cellR cI ad th kk mn md res.1 res.2.1 res.2.2.1 res.2.2.2.1 res.2.2.2.2 di)) (ww_A 6 ad) (none)) [.ref (ad 0)].toArray s 0 0 (ww_A 6 ad)) (F0 m 82 ls [.int w16]) := by
          intro di H locs ls hP hS hl
          refine lv_istore_n (lv' := [(2, .int w16), (0, .ref (ad 0)), (1, .int x1)]) hx hb dX5_factorise_82 rfl hl (by decide) rfl (fun ls hl => ?_)
          refine lv_aload_n hx hb dX5_factorise_83 rfl (lv_at hl 1 rfl) ?_
          refine va_get (ci := 5) (v := .ref (ad 5)) (C := RX5) (T := TX5) (N := 10) hx hb hts (fun w h => BW_in (in_wsX50 w h)) hown hK hP 0 cr_mdl rfl 9 (by decide) (hts (.fieldLink RX5 32 "NumberFieldFactorsModel" "often" "[I") (BW_in mw_319)) (fun _ h9 => h9) rfl dX5_factorise_84 ?_
          refine lv_iload_n hx hb dX5_factorise_87 rfl (lv_at hl 2 rfl) ?_
          refine lv_dup2_11 hx hb dX5_factorise_88 rfl rfl ?_
          by_cases b21 : x1 < 0 ∨ 5 ≤ (x1).toNatClampNeg
          · rw [if_pos b21] at hf; cases hf
          rw [if_neg b21] at hf
          refine va_iald hx hb hK hP 5 0 cr_oft htI b21 dX5_factorise_89 ?_
          refine lv_iload_n hx hb dX5_factorise_90 rfl (lv_at hl 0 rfl) ?_
          obtain ⟨w22, gw22, hf⟩ := Option.bind_eq_some_iff.mp hf
          try dsimp only at hf
          have hJ99_w22 : ∀ (di : Nat → Int32) (H : Heap) (locs : List Loc) (ls : Array Slot), va_P D vwCl (ww 6 ad (cellR cI ad th kk mn md u13.1 u13.2 kn fc oft di)) H → va_S (ww_A 6 ad) s.heap H locs → lv_has ls 3 [(0, .ref (ad 0)), (1, .int x1), (2, .int w16)] → W p l e (headSpec usX5_factorise { frames := 8, cells := 0, slots := 0, locals := 196 }).room s m [.ref (ad 0)].toArray below meth c H locs 0 0 (MQ below (ct_Qx D (fun di => ww 6 ad (cellR cI ad th kk mn md res.1 res.2.1 res.2.2.1 res.2.2.2.1 res.2.2.2.2 di)) (ww_A 6 ad) (none)) [.ref (ad 0)].toArray s 0 0 (ww_A 6 ad)) (F0 m 99 ls [.int w22, .int (oft (x1).toNatClampNeg), .int x1, .ref (ad 5)]) := by
            intro di H locs ls hP hS hl
            refine lv_iadd hx hb dX5_factorise_99 ?_
            by_cases b24 : x1 < 0 ∨ 5 ≤ (x1).toNatClampNeg
            · rw [if_pos b24] at hf; cases hf
            rw [if_neg b24] at hf
            refine va_iast hx hb hK hP (ww_D hj) hS 5 0 cr_oft htI b24 dX5_factorise_100 (fun H locs hP hD hS => ?_)
            have hP := cs_oft hP
            refine lv_aload_n hx hb dX5_factorise_101 rfl (lv_at hl 0 rfl) ?_
            refine lv_iconst (v := 3) hx hb dX5_factorise_102 (by decide) ?_
            refine lv_iconst (v := 2) hx hb dX5_factorise_103 (by decide) ?_
            obtain ⟨u25, g26, hf⟩ := Option.bind_eq_some_iff.mp hf
            try dsimp only at hf
            refine ct_callx (va_runV (As := [.int 3, .int 2]) (rest := []) ⟨hx, hb, hml, hown, hts⟩ (C_X5_copy l D tys hj htI (res := u25) g26) (cwV 2 hts (gu_V mw_385 mw_386 mw_387 mw_330 mw_365) rfl rfl rfl (by decide +kernel) ⟨Nat.le_of_ble_eq_true rfl, Nat.le_of_ble_eq_true rfl⟩) (ct_preVx (w := fun di => ww 6 ad (cellR cI ad th kk mn md u13.1 u13.2 kn fc (upd oft (x1).toNatClampNeg ((oft (x1).toNatClampNeg) + w22)) di)) hP hK (ci := 5) (k := 0) rfl cr_mdl) rfl rfl hl.1 rfl (lv_room (Nat.le_of_ble_eq_true rfl)) dX5_factorise_104 ⟨Nat.zero_le _, Nat.zero_le _⟩) hS (fun di H locs hP hS => ?_)
            refine lv_goto (tgt := 45) hx hb dX5_factorise_107 (by decide) ?_
            exact ih w16 u25.1 u25.2 (upd oft (x1).toNatClampNeg ((oft (x1).toNatClampNeg) + w22)) _ _ _ _ hP hS (lv_sub hl [0, 1, 2] rfl) hf
          refine lv_if_eq (tgt := 98) hx hb dX5_factorise_91 (by decide) (fun c23 => ?_) (fun c23 => ?_)
          · rw [if_pos c23] at gw22
            refine lv_iconst (v := 0) hx hb dX5_factorise_98 (by decide) ?_
            obtain rfl := Option.some.inj gw22
            exact hJ99_w22 _ _ _ _ hP hS (lv_sub hl [1, 2, 0] rfl)
          · rw [if_neg c23] at gw22
            refine lv_iconst (v := 1) hx hb dX5_factorise_94 (by decide) ?_
            refine lv_goto (tgt := 99) hx hb dX5_factorise_95 (by decide) ?_
            obtain rfl := Option.some.inj gw22
            exact hJ99_w22 _ _ _ _ hP hS (lv_sub hl [1, 2, 0] rfl)
        refine lv_if_ge (tgt := 81) hx hb dX5_factorise_65 (by decide) (fun c17 => ?_) (fun c17 => ?_)
        · rw [if_pos c17] at gw16
          refine lv_iconst (v := 0) hx hb dX5_factorise_81 (by decide) ?_
          obtain rfl := Option.some.inj gw16
          exact hJ82_w16 _ _ _ _ hP hS (lv_sub hl [0, 1, 2] rfl)
        · rw [if_neg c17] at gw16
          refine lv_aload_n hx hb dX5_factorise_68 rfl (lv_at hl 0 rfl) ?_
          refine va_get (ci := 5) (v := .ref (ad 4)) (C := RX5) (T := TX5) (N := 10) hx hb hts (fun w h => BW_in (in_wsX50 w h)) hown hK hP 0 cr_mdl rfl 6 (by decide) (hts (.fieldLink RX5 29 "NumberFieldFactorsModel" "degree" "[I") (BW_in mw_318)) (fun _ h9 => h9) rfl dX5_factorise_69 ?_
          refine lv_iconst (v := 3) hx hb dX5_factorise_72 (by decide) ?_
          by_cases b18 : (3 : Int32) < 0 ∨ 25 ≤ (3 : Int32).toNatClampNeg
          · rw [if_pos b18] at gw16; cases gw16
          rw [if_neg b18] at gw16
          refine va_iald hx hb hK hP 4 0 cr_dg htI b18 dX5_factorise_73 ?_
          obtain ⟨w19, gw19, gw16⟩ := Option.bind_eq_some_iff.mp gw16
          try dsimp only at gw16
          have hJ82_w19 : ∀ (di : Nat → Int32) (H : Heap) (locs : List Loc) (ls : Array Slot), va_P D vwCl (ww 6 ad (cellR cI ad th kk mn md u13.1 u13.2 kn fc oft di)) H → va_S (ww_A 6 ad) s.heap H locs → lv_has ls 3 [(0, .ref (ad 0)), (1, .int x1), (2, .int x2)] → W p l e (headSpec usX5_factorise { frames := 8, cells := 0, slots := 0, locals := 196 }).room s m [.ref (ad 0)].toArray below meth c H locs 0 0 (MQ below (ct_Qx D (fun di => ww 6 ad (cellR cI ad th kk mn md res.1 res.2.1 res.2.2.1 res.2.2.2.1 res.2.2.2.2 di)) (ww_A 6 ad) (none)) [.ref (ad 0)].toArray s 0 0 (ww_A 6 ad)) (F0 m 82 ls [.int w19]) := by
            intro di H locs ls hP hS hl
            obtain rfl := Option.some.inj gw16
            exact hJ82_w16 _ _ _ _ hP hS (lv_sub hl [0, 1, 2] rfl)
          refine lv_if_lt (tgt := 81) hx hb dX5_factorise_74 (by decide) (fun c20 => ?_) (fun c20 => ?_)
          · rw [if_pos c20] at gw19
            refine lv_iconst (v := 0) hx hb dX5_factorise_81 (by decide) ?_
            obtain rfl := Option.some.inj gw19
            exact hJ82_w19 _ _ _ _ hP hS (lv_sub hl [0, 1, 2] rfl)
          · rw [if_neg c20] at gw19
            refine lv_iconst (v := 1) hx hb dX5_factorise_77 (by decide) ?_
            refine lv_goto (tgt := 82) hx hb dX5_factorise_78 (by decide) ?_
            obtain rfl := Option.some.inj gw19
            exact hJ82_w19 _ _ _ _ hP hS (lv_sub hl [0, 1, 2] rfl)
  have L22 : ∀ (kn : Int32) (fc : Int32) (k22 : Int32 → (Nat → Int32) → (Nat → Int32) → (Nat → Int32) → Option ((Nat → Int32) × (Nat → Int32) × (Int32) × (Int32) × (Nat → Int32))), (∀ (x1 : Int32) (rw : Nat → Int32) (dg : Nat → Int32) (oft : Nat → Int32) (di : Nat → Int32) (H : Heap) (locs : List Loc) (ls : Array Slot), va_P D vwCl (ww 6 ad (cellR cI ad th kk mn md rw dg kn fc oft di)) H → va_S (ww_A 6 ad) s.heap H locs → lv_has ls 3 [(0, .ref (ad 0)), (1, .int x1)] →  k22 x1 rw dg oft = some res → W p l e (headSpec usX5_factorise { frames := 8, cells := 0, slots := 0, locals := 196 }).room s m [.ref (ad 0)].toArray below meth c H locs 0 0 (MQ below (ct_Qx D (fun di => ww 6 ad (cellR cI ad th kk mn md res.1 res.2.1 res.2.2.1 res.2.2.2.1 res.2.2.2.2 di)) (ww_A 6 ad) (none)) [.ref (ad 0)].toArray s 0 0 (ww_A 6 ad)) (F0 m 116 ls [])) → ∀ (n : Nat) (x1 : Int32) (rw : Nat → Int32) (dg : Nat → Int32) (oft : Nat → Int32) (di : Nat → Int32) (H : Heap) (locs : List Loc) (ls : Array Slot), va_P D vwCl (ww 6 ad (cellR cI ad th kk mn md rw dg kn fc oft di)) H → va_S (ww_A 6 ad) s.heap H locs → lv_has ls 3 [(0, .ref (ad 0)), (1, .int x1)] →  f_X5_factorise_l22 k22 fu kk mn md kn fc n x1 rw dg oft = some res → W p l e (headSpec usX5_factorise { frames := 8, cells := 0, slots := 0, locals := 196 }).room s m [.ref (ad 0)].toArray below meth c H locs 0 0 (MQ below (ct_Qx D (fun di => ww 6 ad (cellR cI ad th kk mn md res.1 res.2.1 res.2.2.1 res.2.2.2.1 res.2.2.2.2 di)) (ww_A 6 ad) (none)) [.ref (ad 0)].toArray s 0 0 (ww_A 6 ad)) (F0 m 22 ls []) := by
    intro kn fc k22 hk_22 n
    induction n with
    | zero => intro x1 rw dg oft di H locs ls hP hS hl hf; rw [f_X5_factorise_l22] at hf; cases hf
    | succ n ih =>
      intro x1 rw dg oft di H locs ls hP hS hl hf
      rw [f_X5_factorise_l22] at hf
      refine lv_iload_n hx hb dX5_factorise_22 rfl (lv_at hl 1 rfl) ?_
      refine lv_aload_n hx hb dX5_factorise_23 rfl (lv_at hl 0 rfl) ?_
      refine va_get (ci := 5) (v := .int fc) (C := RX5) (T := TX5) (N := 10) hx hb hts (fun w h => BW_in (in_wsX50 w h)) hown hK hP 0 cr_mdl rfl 8 (by decide) (hts (.fieldLink RX5 126 "NumberFieldFactorsModel" "factors" "I") (BW_in mw_427)) (fun _ h9 => h9) rfl dX5_factorise_24 ?_
      refine lv_icmp_ge (tgt := 116) hx hb dX5_factorise_27 (by decide) (fun c8 => ?_) (fun c8 => ?_)
      · rw [if_pos c8] at hf
        exact hk_22 x1 rw dg oft _ _ _ _ hP hS (lv_sub hl [0, 1] rfl) hf
      · rw [if_neg c8] at hf
        refine lv_aload_n hx hb dX5_factorise_30 rfl (lv_at hl 0 rfl) ?_
        refine va_get (ci := 5) (v := .ref (ad 5)) (C := RX5) (T := TX5) (N := 10) hx hb hts (fun w h => BW_in (in_wsX50 w h)) hown hK hP 0 cr_mdl rfl 9 (by decide) (hts (.fieldLink RX5 32 "NumberFieldFactorsModel" "often" "[I") (BW_in mw_319)) (fun _ h9 => h9) rfl dX5_factorise_31 ?_
        refine lv_iload_n hx hb dX5_factorise_34 rfl (lv_at hl 1 rfl) ?_
        refine lv_iconst (v := 0) hx hb dX5_factorise_35 (by decide) ?_
        by_cases b9 : x1 < 0 ∨ 5 ≤ (x1).toNatClampNeg
        · rw [if_pos b9] at hf; cases hf
        rw [if_neg b9] at hf
        refine va_iast hx hb hK hP (ww_D hj) hS 5 0 cr_oft htI b9 dX5_factorise_36 (fun H locs hP hD hS => ?_)
        have hP := cs_oft hP
        refine lv_aload_n hx hb dX5_factorise_37 rfl (lv_at hl 0 rfl) ?_
        refine lv_iconst (v := 0) hx hb dX5_factorise_38 (by decide) ?_
        refine lv_iconst (v := 2) hx hb dX5_factorise_39 (by decide) ?_
        obtain ⟨u10, g11, hf⟩ := Option.bind_eq_some_iff.mp hf
        try dsimp only at hf
        refine ct_callx (va_runV (As := [.int 0, .int 2]) (rest := []) ⟨hx, hb, hml, hown, hts⟩ (C_X5_copy l D tys hj htI (res := u10) g11) (cwV 2 hts (gu_V mw_385 mw_386 mw_387 mw_330 mw_365) rfl rfl rfl (by decide +kernel) ⟨Nat.le_of_ble_eq_true rfl, Nat.le_of_ble_eq_true rfl⟩) (ct_preVx (w := fun di => ww 6 ad (cellR cI ad th kk mn md rw dg kn fc (upd oft (x1).toNatClampNeg 0) di)) hP hK (ci := 5) (k := 0) rfl cr_mdl) rfl rfl hl.1 rfl (lv_room (Nat.le_of_ble_eq_true rfl)) dX5_factorise_40 ⟨Nat.zero_le _, Nat.zero_le _⟩) hS (fun di H locs hP hS => ?_)
        refine lv_iconst (v := 1) hx hb dX5_factorise_43 (by decide) ?_
        refine lv_istore_n (lv' := [(2, .int 1), (0, .ref (ad 0)), (1, .int x1)]) hx hb dX5_factorise_44 rfl hl (by decide) rfl (fun ls hl => ?_)
        refine L45 kn fc x1 _ (fun y27 rw28 dg29 oft30 di H locs ls hP hS hl hf => ?_) fu 1 u10.1 u10.2 (upd oft (x1).toNatClampNeg 0) _ _ _ _ hP hS (lv_sub hl [1, 2, 0] rfl) hf
        try dsimp only at hf
        refine lv_iinc (v := x1 + 1) (lv' := [(1, .int (x1 + 1)), (0, .ref (ad 0)), (2, .int y27)]) hx hb dX5_factorise_110 hl (k := 1) rfl rfl (by decide) rfl (fun ls hl => ?_)
        refine lv_goto (tgt := 22) hx hb dX5_factorise_113 (by decide) ?_
        exact ih (x1 + 1) rw28 dg29 oft30 _ _ _ _ hP hS (lv_sub hl [1, 0] rfl) hf
  unfold f_X5_factorise at hf
  refine lv_aload_n hx hb dX5_factorise_0 rfl (lv_at hl 0 rfl) ?_
  refine va_get (ci := 5) (v := .int kn) (C := RX5) (T := TX5) (N := 10) hx hb hts (fun w h => BW_in (in_wsX50 w h)) hown hK hP 0 cr_mdl rfl 7 (by decide) (hts (.fieldLink RX5 77 "NumberFieldFactorsModel" "known" "Z") (BW_in mw_355)) (fun _ h9 => h9) rfl dX5_factorise_1 ?_
  refine lv_if_eq (tgt := 8) hx hb dX5_factorise_4 (by decide) (fun c1 => ?_) (fun c1 => ?_)
  · rw [if_pos c1] at hf
    refine lv_aload_n hx hb dX5_factorise_8 rfl (lv_at hl 0 rfl) ?_
    obtain ⟨u2, g3, hf⟩ := Option.bind_eq_some_iff.mp hf
    try dsimp only at hf
    refine ct_callx (va_runV (As := []) (rest := []) ⟨hx, hb, hml, hown, hts⟩ (C_X5_root l D tys hj htI (res := u2) g3) (cwV 0 hts (gu_V mw_444 mw_445 mw_446 mw_330 mw_425) rfl rfl rfl (by decide +kernel) ⟨Nat.le_of_ble_eq_true rfl, Nat.le_of_ble_eq_true rfl⟩) (ct_preVx (w := fun di => ww 6 ad (cellR cI ad th kk mn md rw dg kn fc oft di)) hP hK (ci := 5) (k := 0) rfl cr_mdl) rfl rfl hl.1 rfl (lv_room (Nat.le_of_ble_eq_true rfl)) dX5_factorise_9 ⟨Nat.zero_le _, Nat.zero_le _⟩) hS (fun di H locs hP hS => ?_)
    refine lv_aload_n hx hb dX5_factorise_12 rfl (lv_at hl 0 rfl) ?_
    obtain ⟨u4, g5, hf⟩ := Option.bind_eq_some_iff.mp hf
    try dsimp only at hf
    refine ct_callx (va_runV (As := []) (rest := []) ⟨hx, hb, hml, hown, hts⟩ (C_X5_split l D tys hj htI (res := u4) g5) (cwV 0 hts (gu_V mw_447 mw_448 mw_449 mw_330 mw_438) rfl rfl rfl (by decide +kernel) ⟨Nat.le_of_ble_eq_true rfl, Nat.le_of_ble_eq_true rfl⟩) (ct_preVx (w := fun di => ww 6 ad (cellR cI ad th kk mn md u2.1 u2.2 kn fc oft di)) hP hK (ci := 5) (k := 0) rfl cr_mdl) rfl rfl hl.1 rfl (lv_room (Nat.le_of_ble_eq_true rfl)) dX5_factorise_13 ⟨Nat.zero_le _, Nat.zero_le _⟩) hS (fun di H locs hP hS => ?_)
    refine lv_aload_n hx hb dX5_factorise_16 rfl (lv_at hl 0 rfl) ?_
    obtain ⟨u6, g7, hf⟩ := Option.bind_eq_some_iff.mp hf
    try dsimp only at hf
    refine ct_callx (va_runV (As := []) (rest := []) ⟨hx, hb, hml, hown, hts⟩ (C_X5_order l D tys hj htI (res := u6) g7) (cwV 0 hts (gu_V mw_450 mw_451 mw_452 mw_330 mw_440) rfl rfl rfl (by decide +kernel) ⟨Nat.le_of_ble_eq_true rfl, Nat.le_of_ble_eq_true rfl⟩) (ct_preVx (w := fun di => ww 6 ad (cellR cI ad th kk mn md u4.1 u4.2.1 kn u4.2.2 oft di)) hP hK (ci := 5) (k := 0) rfl cr_mdl) rfl rfl hl.1 rfl (lv_room (Nat.le_of_ble_eq_true rfl)) dX5_factorise_17 ⟨Nat.zero_le _, Nat.zero_le _⟩) hS (fun di H locs hP hS => ?_)
    refine lv_iconst (v := 0) hx hb dX5_factorise_20 (by decide) ?_
    refine lv_istore_n (lv' := [(1, .int 0), (0, .ref (ad 0))]) hx hb dX5_factorise_21 rfl hl (by decide) rfl (fun ls hl => ?_)
    refine L22 kn u4.2.2 _ (fun y31 rw32 dg33 oft34 di H locs ls hP hS hl hf => ?_) fu 0 u6.1 u6.2 oft _ _ _ _ hP hS (lv_sub hl [1, 0] rfl) hf
    try dsimp only at hf
    refine lv_aload_n hx hb dX5_factorise_116 rfl (lv_at hl 0 rfl) ?_
    refine lv_iconst (v := 1) hx hb dX5_factorise_117 (by decide) ?_
    refine va_put (ci := 5) (v := .int 1) (ty := .boolean) (C := RX5) (T := TX5) (N := 10) hx hb hts (fun w h => BW_in (in_wsX50 w h)) tyX5 tyX5_ok nmX5 hown hK hP (ww_D hj) hS 0 cr_mdl rfl 7 (by decide) (hts (.fieldLink RX5 77 "NumberFieldFactorsModel" "known" "Z") (BW_in mw_355)) (fun _ h9 => h9) rfl (by decide +kernel) (by decide) rfl (Nat.le_of_ble_eq_true rfl) dX5_factorise_118 (fun H locs hP hD hS => ?_)
    have hP := cs_kn hP
    obtain rfl := Option.some.inj hf
    exact W.vret hx hb hr (fun t ht hW => ⟨rfl, ⟨di, by rw [ht]; exact hP⟩, hS.F ht⟩) hS.2.2 dX5_factorise_121
  · rw [if_neg c1] at hf
    obtain rfl := Option.some.inj hf
    exact W.vret hx hb hr (fun t ht hW => ⟨rfl, ⟨di, by rw [ht]; exact hP⟩, hS.F ht⟩) hS.2.2 dX5_factorise_7
