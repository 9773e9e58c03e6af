def f_X5_isNothing (dg : Nat → Int32) : Option (Int32) :=
  if (0 : Int32) < 0 ∨ 25 ≤ (0 : Int32).toNatClampNeg then none else
  if 0 ≤ (dg (0 : Int32).toNatClampNeg) then
    some 0
  else
    some 1
set_option maxHeartbeats 4000000 in
set_option maxRecDepth 100000 in
theorem C_X5_isNothing (l : Launch) (D : va_G) (tys : List (ClassId × FieldType)) {ad : Nat → Nat} (hj : ww_inj 6 ad) {cI : ClassId} (htI : tys[0]? = some (cI, .int)) {th : Int32} {kk : Int32} {mn : Int64} {md : Nat → Int32} {rw : Nat → Int32} {dg : Nat → Int32} {kn : Int32} {fc : Int32} {oft : Nat → Int32} {res : Int32} (hf : f_X5_isNothing dg = some res) :
    Met l yX5_isNothing usX5_isNothing ({ frames := 0, cells := 0, slots := 0, locals := 0 }) (va_Pc [.ref (ad 0)] (ws_Bx D tys (fun di => ww 6 ad (cellR cI ad th kk mn md rw dg kn fc oft di)))) (ct_Qx D (fun di => ww 6 ad (cellR cI ad th kk mn md rw dg kn fc oft di)) (ww_A 6 ad) (some (.int res))) 0 0 (ww_A 6 ad) := by
  refine Met.ofW (cc := cX5_isNothing) (maxL := 1) (ret := (some .boolean)) (by decide) rfl ?_
  intro p e s m args below meth c s₁ B hml hv
  obtain ⟨rfl, ⟨di, hP⟩, hK⟩ := hv
  have hx := B.exec
  have hb := B.bytes
  have hr := B.returns
  have hts := atoms_spec (ws := usX5_isNothing) B.pre
  have hown : s.vm.findClass RX5 = some m.cls := findClass_of_methodNamed B.named
  have hlocks := B.notSynchronized
  have hS : va_S (ww_A 6 ad) s.heap s.heap [] := va_S.rf
  have hl := lv_entry ([.ref (ad 0)]) (n := 1) (Nat.le_of_ble_eq_true rfl)
  rw [lg_entry_eq]
  generalize (lg_sl ([.ref (ad 0)]) ++ List.replicate (1 - (lg_sl ([.ref (ad 0)])).length) Slot.unset).toArray = ls at hl ⊢
  have hl : lv_has ls 1 [(0, .ref (ad 0))] := hl
  unfold f_X5_isNothing at hf
  refine lv_aload_n hx hb dX5_isNothing_0 rfl (lv_at hl 0 rfl) ?_
  refine va_get (ci := 5) (v := .ref (ad 4)) (C := RX5) (T := TX5) (N := 10) hx hb hts (fun w h => BW_in (in_wsX50 w h)) hown hK hP 0 cr_mdl rfl 6 (by decide) (hts (.fieldLink RX5 29 "NumberFieldFactorsModel" "degree" "[I") (BW_in mw_318)) (fun _ h9 => h9) rfl dX5_isNothing_1 ?_
  refine lv_iconst (v := 0) hx hb dX5_isNothing_4 (by decide) ?_
  by_cases b1 : (0 : Int32) < 0 ∨ 25 ≤ (0 : Int32).toNatClampNeg
  · rw [if_pos b1] at hf; cases hf
  rw [if_neg b1] at hf
  refine va_iald hx hb hK hP 4 0 cr_dg htI b1 dX5_isNothing_5 ?_
  refine lv_if_ge (tgt := 13) hx hb dX5_isNothing_6 (by decide) (fun c2 => ?_) (fun c2 => ?_)
  · rw [if_pos c2] at hf
    refine lv_iconst (v := 0) hx hb dX5_isNothing_13 (by decide) ?_
    obtain rfl := Option.some.inj hf
    exact W.zret (v := 0) (ty := .boolean) hx hb hr (by decide) (fun t ht hW => ⟨rfl, ⟨di, by rw [ht]; exact hP⟩, hS.F ht⟩) hS.2.2 dX5_isNothing_14
  · rw [if_neg c2] at hf
    refine lv_iconst (v := 1) hx hb dX5_isNothing_9 (by decide) ?_
    refine lv_goto (tgt := 14) hx hb dX5_isNothing_10 (by decide) ?_
    obtain rfl := Option.some.inj hf
    exact W.zret (v := 1) (ty := .boolean) hx hb hr (by decide) (fun t ht hW => ⟨rfl, ⟨di, by rw [ht]; exact hP⟩, hS.F ht⟩) hS.2.2 dX5_isNothing_14
def f_X5_shift_l37 (k37 : Int32 → Int32 → (Nat → Int32) → (Nat → Int32) → Option (Int32 × (Int32) × (Nat → Int32) × (Nat → Int32))) (fu : Nat) (th : Int32) (kk : Int32) (mn : Int64) (md : Nat → Int32) (x1 : Int32) : Nat → Int32 → Int32 → (Nat → Int32) → (Nat → Int32) → Option (Int32 × (Int32) × (Nat → Int32) × (Nat → Int32))
  | 0, _, _, _, _ => none
  | n + 1, x2, x3, rw, dg =>
    if x3 = 0 then
      k37 x2 x3 rw dg
    else
      if 101 ≤ x2 then
        k37 x2 x3 rw dg
      else
        (f_X5_times fu kk md x1 x2).bind (fun u12 =>
        (f_X5_negative u12).bind (fun u14 =>
        (f_X5_moved fu kk md rw dg 1 u14 8).bind (fun u16 =>
        (f_X5_normOf fu kk md u16.1 u16.2 8 10).bind (fun u18 =>
        (f_X5_copy fu u18.1 u18.2 10 2).bind (fun u20 =>
        (f_X5_slope fu kk md u20.1 u20.2 10 3).bind (fun u22 =>
        (f_X5_divisor fu kk mn md u22.1 u22.2 2 3).bind (fun u24 =>
        if (2 : Int32) < 0 ∨ 25 ≤ (2 : Int32).toNatClampNeg then none else
        ((
          if (u24.2 (2 : Int32).toNatClampNeg) ≤ 0 then
            some 0
          else
            some 1 : Option (Int32))).bind (fun w27 =>
        ((
          if w27 = 0 then
            some 0
          else
            some 1 : Option (Int32))).bind (fun w29 =>
        nm (x2 + w29) (fun v31 =>
        f_X5_shift_l37 k37 fu th kk mn md x1 n v31 w27 u24.1 u24.2))))))))))
def f_X5_shift (fu : Nat) (th : Int32) (kk : Int32) (mn : Int64) (md : Nat → Int32) (rw : Nat → Int32) (dg : Nat → Int32) : Option (Int32 × (Int32) × (Nat → Int32) × (Nat → Int32)) :=
  (f_X5_isNothing dg).bind (fun u1 =>
  (f_X5_fails th u1 0).bind (fun u3 =>
  if u3.1 = 0 then
    (f_X5_root fu kk mn md rw dg).bind (fun u6 =>
    ((
      if kk = 1 then
        some 0
      else
        some 101 : Option (Int32))).bind (fun w8 =>
    f_X5_shift_l37 (fun y32 y33 rw34 dg35 =>
      some (y32, u3.2, rw34, dg35)) fu u3.2 kk mn md w8 fu 0 1 u6.1 u6.2))
  else
    some (0, u3.2, rw, dg)))
set_option maxHeartbeats 4000000 in
set_option maxRecDepth 100000 in
theorem C_X5_shift (l : Launch) (D : va_G) (tys : List (ClassId × FieldType)) {ad : Nat → Nat} (hj : ww_inj 6 ad) {cI : ClassId} (htI : tys[0]? = some (cI, .int)) {fu : Nat} {th : Int32} {kk : Int32} {mn : Int64} {md : Nat → Int32} {rw : Nat → Int32} {dg : Nat → Int32} {kn : Int32} {fc : Int32} {oft : Nat → Int32} {res : Int32 × (Int32) × (Nat → Int32) × (Nat → Int32)} (hf : f_X5_shift fu th kk mn md rw dg = some res) :
    Met l yX5_shift usX5_shift ({ frames := 7, cells := 0, slots := 0, locals := 165 }) (va_Pc [.ref (ad 0)] (ws_Bx D tys (fun di => ww 6 ad (cellR cI ad th kk mn md rw dg kn fc oft di)))) (ct_Qx D (fun di => ww 6 ad (cellR cI ad res.2.1 kk mn md res.2.2.1 res.2.2.2 kn fc oft di)) (ww_A 6 ad) (some (.int res.1))) 0 0 (ww_A 6 ad) := by
  refine Met.ofW (cc := cX5_shift) (maxL := 4) (ret := (some .int)) (by decide) rfl ?_
  intro p e s m args below meth c s₁ B hml hv
  obtain ⟨rfl, ⟨di, hP⟩, hK⟩ := hv
  have hx := B.exec
  have hb := B.bytes
  have hr := B.returns
  have hts := atoms_spec (ws := usX5_shift) B.pre
  have hown : s.vm.findClass RX5 = some m.cls := findClass_of_methodNamed B.named
  have hlocks := B.notSynchronized
  have hS : va_S (ww_A 6 ad) s.heap s.heap [] := va_S.rf
  have hl := lv_entry ([.ref (ad 0)]) (n := 4) (Nat.le_of_ble_eq_true rfl)
  rw [lg_entry_eq]
  generalize (lg_sl ([.ref (ad 0)]) ++ List.replicate (4 - (lg_sl ([.ref (ad 0)])).length) Slot.unset).toArray = ls at hl ⊢
  have hl : lv_has ls 4 [(0, .ref (ad 0))] := hl
  have L37 : ∀ (th : Int32) (x1 : Int32) (k37 : Int32 → Int32 → (Nat → Int32) → (Nat → Int32) → Option (Int32 × (Int32) × (Nat → Int32) × (Nat → Int32))), (∀ (x2 : Int32) (x3 : Int32) (rw : Nat → Int32) (dg : Nat → Int32) (di : Nat → Int32) (H : Heap) (locs : List Loc) (ls : Array Slot), va_P D vwCl (ww 6 ad (cellR cI ad th kk mn md rw dg kn fc oft di)) H → va_S (ww_A 6 ad) s.heap H locs → lv_has ls 4 [(0, .ref (ad 0)), (1, .int x1), (2, .int x2), (3, .int x3)] →  k37 x2 x3 rw dg = some res → W p l e (headSpec usX5_shift { frames := 7, cells := 0, slots := 0, locals := 165 }).room s m [.ref (ad 0)].toArray below meth c H locs 0 0 (MQ below (ct_Qx D (fun di => ww 6 ad (cellR cI ad res.2.1 kk mn md res.2.2.1 res.2.2.2 kn fc oft di)) (ww_A 6 ad) (some (.int res.1))) [.ref (ad 0)].toArray s 0 0 (ww_A 6 ad)) (F0 m 121 ls [])) → ∀ (n : Nat) (x2 : Int32) (x3 : Int32) (rw : Nat → Int32) (dg : Nat → Int32) (di : Nat → Int32) (H : Heap) (locs : List Loc) (ls : Array Slot), va_P D vwCl (ww 6 ad (cellR cI ad th kk mn md rw dg kn fc oft di)) H → va_S (ww_A 6 ad) s.heap H locs → lv_has ls 4 [(0, .ref (ad 0)), (1, .int x1), (2, .int x2), (3, .int x3)] →  f_X5_shift_l37 k37 fu th kk mn md x1 n x2 x3 rw dg = some res → W p l e (headSpec usX5_shift { frames := 7, cells := 0, slots := 0, locals := 165 }).room s m [.ref (ad 0)].toArray below meth c H locs 0 0 (MQ below (ct_Qx D (fun di => ww 6 ad (cellR cI ad res.2.1 kk mn md res.2.2.1 res.2.2.2 kn fc oft di)) (ww_A 6 ad) (some (.int res.1))) [.ref (ad 0)].toArray s 0 0 (ww_A 6 ad)) (F0 m 37 ls []) := by
    intro th x1 k37 hk_37 n
    induction n with
    | zero => intro x2 x3 rw dg di H locs ls hP hS hl hf; rw [f_X5_shift_l37] at hf; cases hf
    | succ n ih =>
      intro x2 x3 rw dg di H locs ls hP hS hl hf
      rw [f_X5_shift_l37] at hf
      refine lv_iload_n hx hb dX5_shift_37 rfl (lv_at hl 3 rfl) ?_
      refine lv_if_eq (tgt := 121) hx hb dX5_shift_38 (by decide) (fun c10 => ?_) (fun c10 => ?_)
      · rw [if_pos c10] at hf
        exact hk_37 x2 x3 rw dg _ _ _ _ hP hS (lv_sub hl [0, 1, 2, 3] rfl) hf
      · rw [if_neg c10] at hf
        refine lv_iload_n hx hb dX5_shift_41 rfl (lv_at hl 2 rfl) ?_
        refine lv_bipush (v := 101) hx hb dX5_shift_42 (by decide) ?_
        refine lv_icmp_ge (tgt := 121) hx hb dX5_shift_44 (by decide) (fun c11 => ?_) (fun c11 => ?_)
        · rw [if_pos c11] at hf
          exact hk_37 x2 x3 rw dg _ _ _ _ hP hS (lv_sub hl [0, 1, 2, 3] rfl) hf
        · rw [if_neg c11] at hf
          refine lv_aload_n hx hb dX5_shift_47 rfl (lv_at hl 0 rfl) ?_
          refine lv_iconst (v := 1) hx hb dX5_shift_48 (by decide) ?_
          refine lv_aload_n hx hb dX5_shift_49 rfl (lv_at hl 0 rfl) ?_
          refine lv_iload_n hx hb dX5_shift_50 rfl (lv_at hl 1 rfl) ?_
          refine lv_iload_n hx hb dX5_shift_51 rfl (lv_at hl 2 rfl) ?_
          obtain ⟨u12, g13, hf⟩ := Option.bind_eq_some_iff.mp hf
          try dsimp only at hf
          refine ct_callx (va_runV (As := [.int x1, .int x2]) (rest := [.int 1, .ref (ad 0)]) ⟨hx, hb, hml, hown, hts⟩ (C_X5_times l D tys hj htI (res := u12) g13) (cwV 2 hts (gu_V mw_337 mw_338 mw_339 mw_330 mw_333) rfl rfl rfl (by decide +kernel) ⟨Nat.le_of_ble_eq_true rfl, Nat.le_of_ble_eq_true rfl⟩) (ct_preVx (w := fun di => ww 6 ad (cellR cI ad th kk mn md rw dg kn fc oft di)) hP hK (ci := 5) (k := 0) rfl cr_mdl) rfl rfl hl.1 rfl (lv_room (Nat.le_of_ble_eq_true rfl)) dX5_shift_52 ⟨Nat.zero_le _, Nat.zero_le _⟩) hS (fun di H locs hP hS => ?_)
          obtain ⟨u14, g15, hf⟩ := Option.bind_eq_some_iff.mp hf
          try dsimp only at hf
          refine ct_callx (va_runS (As := [.int u12]) (rest := [.int 1, .ref (ad 0)]) ⟨hx, hb, hml, hown, hts⟩ (C_X5_negative l D tys hj htI (res := u14) g15) (cwS 1 hts (gu_S mw_328 mw_329 mw_330 mw_326) rfl rfl rfl (by decide +kernel) ⟨Nat.le_of_ble_eq_true rfl, Nat.le_of_ble_eq_true rfl⟩) (ct_preSx (w := fun di => ww 6 ad (cellR cI ad th kk mn md rw dg kn fc oft di)) hP hK) rfl rfl hl.1 rfl (lv_room (Nat.le_of_ble_eq_true rfl)) dX5_shift_55 ⟨Nat.zero_le _, Nat.zero_le _⟩) hS (fun di H locs hP hS => ?_)
          refine lv_bipush (v := 8) hx hb dX5_shift_58 (by decide) ?_
          obtain ⟨u16, g17, hf⟩ := Option.bind_eq_some_iff.mp hf
          try dsimp only at hf
          refine ct_callx (va_runV (As := [.int 1, .int u14, .int 8]) (rest := []) ⟨hx, hb, hml, hown, hts⟩ (C_X5_moved l D tys hj htI (res := u16) g17) (cwV 3 hts (gu_V mw_458 mw_459 mw_460 mw_330 mw_397) rfl rfl rfl (by decide +kernel) ⟨Nat.le_of_ble_eq_true rfl, Nat.le_of_ble_eq_true rfl⟩) (ct_preVx (w := fun di => ww 6 ad (cellR cI ad th kk mn md rw dg kn fc oft di)) hP hK (ci := 5) (k := 0) rfl cr_mdl) rfl rfl hl.1 rfl (lv_room (Nat.le_of_ble_eq_true rfl)) dX5_shift_60 ⟨Nat.zero_le _, Nat.zero_le _⟩) hS (fun di H locs hP hS => ?_)
          refine lv_aload_n hx hb dX5_shift_63 rfl (lv_at hl 0 rfl) ?_
          refine lv_bipush (v := 8) hx hb dX5_shift_64 (by decide) ?_
          refine lv_bipush (v := 10) hx hb dX5_shift_66 (by decide) ?_
          obtain ⟨u18, g19, hf⟩ := Option.bind_eq_some_iff.mp hf
          try dsimp only at hf
          refine ct_callx (va_runV (As := [.int 8, .int 10]) (rest := []) ⟨hx, hb, hml, hown, hts⟩ (C_X5_normOf l D tys hj htI (res := u18) g19) (cwV 2 hts (gu_V mw_415 mw_416 mw_417 mw_330 mw_398) rfl rfl rfl (by decide +kernel) ⟨Nat.le_of_ble_eq_true rfl, Nat.le_of_ble_eq_true rfl⟩) (ct_preVx (w := fun di => ww 6 ad (cellR cI ad th kk mn md u16.1 u16.2 kn fc oft di)) hP hK (ci := 5) (k := 0) rfl cr_mdl) rfl rfl hl.1 rfl (lv_room (Nat.le_of_ble_eq_true rfl)) dX5_shift_68 ⟨Nat.zero_le _, Nat.zero_le _⟩) hS (fun di H locs hP hS => ?_)
          refine lv_aload_n hx hb dX5_shift_71 rfl (lv_at hl 0 rfl) ?_
          refine lv_bipush (v := 10) hx hb dX5_shift_72 (by decide) ?_
          refine lv_iconst (v := 2) hx hb dX5_shift_74 (by decide) ?_
          obtain ⟨u20, g21, hf⟩ := Option.bind_eq_some_iff.mp hf
          try dsimp only at hf
          refine ct_callx (va_runV (As := [.int 10, .int 2]) (rest := []) ⟨hx, hb, hml, hown, hts⟩ (C_X5_copy l D tys hj htI (res := u20) g21) (cwV 2 hts (gu_V mw_385 mw_386 mw_387 mw_330 mw_365) rfl rfl rfl (by decide +kernel) ⟨Nat.le_of_ble_eq_true rfl, Nat.le_of_ble_eq_true rfl⟩) (ct_preVx (w := fun di => ww 6 ad (cellR cI ad th kk mn md u18.1 u18.2 kn fc oft di)) hP hK (ci := 5) (k := 0) rfl cr_mdl) rfl rfl hl.1 rfl (lv_room (Nat.le_of_ble_eq_true rfl)) dX5_shift_75 ⟨Nat.zero_le _, Nat.zero_le _⟩) hS (fun di H locs hP hS => ?_)
          refine lv_aload_n hx hb dX5_shift_78 rfl (lv_at hl 0 rfl) ?_
          refine lv_bipush (v := 10) hx hb dX5_shift_79 (by decide) ?_
          refine lv_iconst (v := 3) hx hb dX5_shift_81 (by decide) ?_
          obtain ⟨u22, g23, hf⟩ := Option.bind_eq_some_iff.mp hf
          try dsimp only at hf
          refine ct_callx (va_runV (As := [.int 10, .int 3]) (rest := []) ⟨hx, hb, hml, hown, hts⟩ (C_X5_slope l D tys hj htI (res := u22) g23) (cwV 2 hts (gu_V mw_419 mw_420 mw_421 mw_330 mw_392) rfl rfl rfl (by decide +kernel) ⟨Nat.le_of_ble_eq_true rfl, Nat.le_of_ble_eq_true rfl⟩) (ct_preVx (w := fun di => ww 6 ad (cellR cI ad th kk mn md u20.1 u20.2 kn fc oft di)) hP hK (ci := 5) (k := 0) rfl cr_mdl) rfl rfl hl.1 rfl (lv_room (Nat.le_of_ble_eq_true rfl)) dX5_shift_82 ⟨Nat.zero_le _, Nat.zero_le _⟩) hS (fun di H locs hP hS => ?_)
          refine lv_aload_n hx hb dX5_shift_85 rfl (lv_at hl 0 rfl) ?_
          refine lv_iconst (v := 2) hx hb dX5_shift_86 (by decide) ?_
          refine lv_iconst (v := 3) hx hb dX5_shift_87 (by decide) ?_
          obtain ⟨u24, g25, hf⟩ := Option.bind_eq_some_iff.mp hf
          try dsimp only at hf
          refine ct_callx (va_runV (As := [.int 2, .int 3]) (rest := []) ⟨hx, hb, hml, hown, hts⟩ (C_X5_divisor l D tys hj htI (res := u24) g25) (cwV 2 hts (gu_V mw_422 mw_423 mw_424 mw_330 mw_391) rfl rfl rfl (by decide +kernel) ⟨Nat.le_of_ble_eq_true rfl, Nat.le_of_ble_eq_true rfl⟩) (ct_preVx (w := fun di => ww 6 ad (cellR cI ad th kk mn md u22.1 u22.2 kn fc oft di)) hP hK (ci := 5) (k := 0) rfl cr_mdl) rfl rfl hl.1 rfl (lv_room (Nat.le_of_ble_eq_true rfl)) dX5_shift_88 ⟨Nat.zero_le _, Nat.zero_le _⟩) hS (fun di H locs hP hS => ?_)
          refine lv_aload_n hx hb dX5_shift_91 rfl (lv_at hl 0 rfl) ?_
          refine va_get (ci := 5) (v := .ref (ad 4)) (C := RX5) (T := TX5) (N := 10) hx hb hts (fun w h => BW_in (in_wsX50 w h)) hown hK hP 0 cr_mdl rfl 6 (by decide) (hts (.fieldLink RX5 29 "NumberFieldFactorsModel" "degree" "[I") (BW_in mw_318)) (fun _ h9 => h9) rfl dX5_shift_92 ?_
          refine lv_iconst (v := 2) hx hb dX5_shift_95 (by decide) ?_
          by_cases b26 : (2 : Int32) < 0 ∨ 25 ≤ (2 : Int32).toNatClampNeg
          · rw [if_pos b26] at hf; cases hf
          rw [if_neg b26] at hf
          refine va_iald hx hb hK hP 4 0 cr_dg htI b26 dX5_shift_96 ?_
          obtain ⟨w27, gw27, hf⟩ := Option.bind_eq_some_iff.mp hf
          try dsimp only at hf
          have hJ105_w27 : ∀ (di : Nat → Int32) (H : Heap) (locs : List Loc) (ls : Array Slot), va_P D vwCl (ww 6 ad (cellR cI ad th kk mn md u24.1 u24.2 kn fc oft di)) H → va_S (ww_A 6 ad) s.heap H locs → lv_has ls 4 [(0, .ref (ad 0)), (1, .int x1), (2, .int x2), (3, .int x3)] → W p l e (headSpec usX5_shift { frames := 7, cells := 0, slots := 0, locals := 165 }).room s m [.ref (ad 0)].toArray below meth c H locs 0 0 (MQ below (ct_Qx D (fun di => ww 6 ad (cellR cI ad res.2.1 kk mn md res.2.2.1 res.2.2.2 kn fc oft di)) (ww_A 6 ad) (some (.int res.1))) [.ref (ad 0)].toArray s 0 0 (ww_A 6 ad)) (F0 m 105 ls [.int w27]) := by
            intro di H locs ls hP hS hl
            refine lv_istore_n (lv' := [(3, .int w27), (0, .ref (ad 0)), (1, .int x1), (2, .int x2)]) hx hb dX5_shift_105 rfl hl (by decide) rfl (fun ls hl => ?_)
            refine lv_iload_n hx hb dX5_shift_106 rfl (lv_at hl 3 rfl) ?_
            refine lv_iload_n hx hb dX5_shift_107 rfl (lv_at hl 0 rfl) ?_
            obtain ⟨w29, gw29, hf⟩ := Option.bind_eq_some_iff.mp hf
            try dsimp only at hf
            have hJ116_w29 : ∀ (di : Nat → Int32) (H : Heap) (locs : List Loc) (ls : Array Slot), va_P D vwCl (ww 6 ad (cellR cI ad th kk mn md u24.1 u24.2 kn fc oft di)) H → va_S (ww_A 6 ad) s.heap H locs → lv_has ls 4 [(0, .ref (ad 0)), (1, .int x1), (2, .int x2), (3, .int w27)] → W p l e (headSpec usX5_shift { frames := 7, cells := 0, slots := 0, locals := 165 }).room s m [.ref (ad 0)].toArray below meth c H locs 0 0 (MQ below (ct_Qx D (fun di => ww 6 ad (cellR cI ad res.2.1 kk mn md res.2.2.1 res.2.2.2 kn fc oft di)) (ww_A 6 ad) (some (.int res.1))) [.ref (ad 0)].toArray s 0 0 (ww_A 6 ad)) (F0 m 116 ls [.int w29, .int x2]) := by
              intro di H locs ls hP hS hl
              refine lv_iadd hx hb dX5_shift_116 ?_
              obtain ⟨v31, ev31, hf⟩ := nm_elim hf
              try dsimp only at hf
              refine tp_I ev31 ?_
              refine lv_istore_n (lv' := [(2, .int v31), (0, .ref (ad 0)), (1, .int x1), (3, .int w27)]) hx hb dX5_shift_117 rfl hl (by decide) rfl (fun ls hl => ?_)
              refine lv_goto (tgt := 37) hx hb dX5_shift_118 (by decide) ?_
              exact ih v31 w27 u24.1 u24.2 _ _ _ _ hP hS (lv_sub hl [1, 2, 0, 3] rfl) hf
            refine lv_if_eq (tgt := 115) hx hb dX5_shift_108 (by decide) (fun c30 => ?_) (fun c30 => ?_)
            · rw [if_pos c30] at gw29
              refine lv_iconst (v := 0) hx hb dX5_shift_115 (by decide) ?_
              obtain rfl := Option.some.inj gw29
              exact hJ116_w29 _ _ _ _ hP hS (lv_sub hl [1, 2, 3, 0] rfl)
            · rw [if_neg c30] at gw29
              refine lv_iconst (v := 1) hx hb dX5_shift_111 (by decide) ?_
              refine lv_goto (tgt := 116) hx hb dX5_shift_112 (by decide) ?_
              obtain rfl := Option.some.inj gw29
              exact hJ116_w29 _ _ _ _ hP hS (lv_sub hl [1, 2, 3, 0] rfl)
          refine lv_if_le (tgt := 104) hx hb dX5_shift_97 (by decide) (fun c28 => ?_) (fun c28 => ?_)
          · rw [if_pos c28] at gw27
            refine lv_iconst (v := 0) hx hb dX5_shift_104 (by decide) ?_
            obtain rfl := Option.some.inj gw27
            exact hJ105_w27 _ _ _ _ hP hS (lv_sub hl [0, 1, 2, 3] rfl)
          · rw [if_neg c28] at gw27
            refine lv_iconst (v := 1) hx hb dX5_shift_100 (by decide) ?_
            refine lv_goto (tgt := 105) hx hb dX5_shift_101 (by decide) ?_
            obtain rfl := Option.some.inj gw27
            exact hJ105_w27 _ _ _ _ hP hS (lv_sub hl [0, 1, 2, 3] rfl)
  unfold f_X5_shift at hf
  refine lv_aload_n hx hb dX5_shift_0 rfl (lv_at hl 0 rfl) ?_
  refine lv_aload_n hx hb dX5_shift_1 rfl (lv_at hl 0 rfl) ?_
  obtain ⟨u1, g2, hf⟩ := Option.bind_eq_some_iff.mp hf
  try dsimp only at hf
  refine ct_callx (va_runV (As := []) (rest := [.ref (ad 0)]) ⟨hx, hb, hml, hown, hts⟩ (C_X5_isNothing l D tys hj htI (res := u1) g2) (cwV 0 hts (gu_V mw_455 mw_456 mw_457 mw_330 mw_454) rfl rfl rfl (by decide +kernel) ⟨Nat.le_of_ble_eq_true rfl, Nat.le_of_ble_eq_true rfl⟩) (ct_preVx (w := fun di => ww 6 ad (cellR cI ad th kk mn md rw dg kn fc oft di)) hP hK (ci := 5) (k := 0) rfl cr_mdl) rfl rfl hl.1 rfl (lv_room (Nat.le_of_ble_eq_true rfl)) dX5_shift_2 ⟨Nat.zero_le _, Nat.zero_le _⟩) hS (fun di H locs hP hS => ?_)
  refine lv_iconst (v := 0) hx hb dX5_shift_5 (by decide) ?_
  obtain ⟨u3, g4, hf⟩ := Option.bind_eq_some_iff.mp hf
  try dsimp only at hf
  refine ct_callx (va_runV (As := [.int u1, .int 0]) (rest := []) ⟨hx, hb, hml, hown, hts⟩ (C_X5_fails l D tys hj htI (res := u3) g4) (cwV 2 hts (gu_V mw_356 mw_357 mw_358 mw_330 mw_322) rfl rfl rfl (by decide +kernel) ⟨Nat.le_of_ble_eq_true rfl, Nat.le_of_ble_eq_true rfl⟩) (ct_preVx (w := fun di => ww 6 ad (cellR cI ad th kk mn md rw dg kn fc oft di)) hP hK (ci := 5) (k := 0) rfl cr_mdl) rfl rfl hl.1 rfl (lv_room (Nat.le_of_ble_eq_true rfl)) dX5_shift_6 ⟨Nat.zero_le _, Nat.zero_le _⟩) hS (fun di H locs hP hS => ?_)
  refine lv_if_eq (tgt := 14) hx hb dX5_shift_9 (by decide) (fun c5 => ?_) (fun c5 => ?_)
  · rw [if_pos c5] at hf
    refine lv_aload_n hx hb dX5_shift_14 rfl (lv_at hl 0 rfl) ?_
    obtain ⟨u6, g7, hf⟩ := Option.bind_eq_some_iff.mp hf
    try dsimp only at hf
    refine ct_callx (va_runV (As := []) (rest := []) ⟨hx, hb, hml, hown, hts⟩ (C_X5_root l D tys hj htI (res := u6) g7) (cwV 0 hts (gu_V mw_444 mw_445 mw_446 mw_330 mw_425) rfl rfl rfl (by decide +kernel) ⟨Nat.le_of_ble_eq_true rfl, Nat.le_of_ble_eq_true rfl⟩) (ct_preVx (w := fun di => ww 6 ad (cellR cI ad u3.2 kk mn md rw dg kn fc oft di)) hP hK (ci := 5) (k := 0) rfl cr_mdl) rfl rfl hl.1 rfl (lv_room (Nat.le_of_ble_eq_true rfl)) dX5_shift_15 ⟨Nat.zero_le _, Nat.zero_le _⟩) hS (fun di H locs hP hS => ?_)
    refine lv_aload_n hx hb dX5_shift_18 rfl (lv_at hl 0 rfl) ?_
    refine va_get (ci := 5) (v := .int kk) (C := RX5) (T := TX5) (N := 10) hx hb hts (fun w h => BW_in (in_wsX50 w h)) hown hK hP 0 cr_mdl rfl 1 (by decide) (hts (.fieldLink RX5 7 "NumberFieldFactorsModel" "k" "I") (BW_in mw_312)) (fun _ h9 => h9) rfl dX5_shift_19 ?_
    refine lv_iconst (v := 1) hx hb dX5_shift_22 (by decide) ?_
    obtain ⟨w8, gw8, hf⟩ := Option.bind_eq_some_iff.mp hf
    try dsimp only at hf
    have hJ32_w8 : ∀ (di : Nat → Int32) (H : Heap) (locs : List Loc) (ls : Array Slot), va_P D vwCl (ww 6 ad (cellR cI ad u3.2 kk mn md u6.1 u6.2 kn fc oft di)) H → va_S (ww_A 6 ad) s.heap H locs → lv_has ls 4 [(0, .ref (ad 0))] → W p l e (headSpec usX5_shift { frames := 7, cells := 0, slots := 0, locals := 165 }).room s m [.ref (ad 0)].toArray below meth c H locs 0 0 (MQ below (ct_Qx D (fun di => ww 6 ad (cellR cI ad res.2.1 kk mn md res.2.2.1 res.2.2.2 kn fc oft di)) (ww_A 6 ad) (some (.int res.1))) [.ref (ad 0)].toArray s 0 0 (ww_A 6 ad)) (F0 m 32 ls [.int w8]) := by
      intro di H locs ls hP hS hl
      refine lv_istore_n (lv' := [(1, .int w8), (0, .ref (ad 0))]) hx hb dX5_shift_32 rfl hl (by decide) rfl (fun ls hl => ?_)
      refine lv_iconst (v := 0) hx hb dX5_shift_33 (by decide) ?_
      refine lv_istore_n (lv' := [(2, .int 0), (1, .int w8), (0, .ref (ad 0))]) hx hb dX5_shift_34 rfl hl (by decide) rfl (fun ls hl => ?_)
      refine lv_iconst (v := 1) hx hb dX5_shift_35 (by decide) ?_
      refine lv_istore_n (lv' := [(3, .int 1), (2, .int 0), (1, .int w8), (0, .ref (ad 0))]) hx hb dX5_shift_36 rfl hl (by decide) rfl (fun ls hl => ?_)
      refine L37 u3.2 w8 _ (fun y32 y33 rw34 dg35 di H locs ls hP hS hl hf => ?_) fu 0 1 u6.1 u6.2 _ _ _ _ hP hS (lv_sub hl [3, 2, 1, 0] rfl) hf
      try dsimp only at hf
      refine lv_iload_n hx hb dX5_shift_121 rfl (lv_at hl 2 rfl) ?_
      obtain rfl := Option.some.inj hf
      exact W.iret (v := y32) hx hb hr (fun t ht hW => ⟨rfl, ⟨di, by rw [ht]; exact hP⟩, hS.F ht⟩) hS.2.2 dX5_shift_122
    refine lv_icmp_ne (tgt := 30) hx hb dX5_shift_23 (by decide) (fun c9 => ?_) (fun c9 => ?_)
    · rw [if_neg c9] at gw8
      refine lv_bipush (v := 101) hx hb dX5_shift_30 (by decide) ?_
      obtain rfl := Option.some.inj gw8
      exact hJ32_w8 _ _ _ _ hP hS (lv_sub hl [0] rfl)
    · rw [if_pos c9] at gw8
      refine lv_iconst (v := 0) hx hb dX5_shift_26 (by decide) ?_
      refine lv_goto (tgt := 32) hx hb dX5_shift_27 (by decide) ?_
      obtain rfl := Option.some.inj gw8
      exact hJ32_w8 _ _ _ _ hP hS (lv_sub hl [0] rfl)
  · rw [if_neg c5] at hf
    refine lv_iconst (v := 0) hx hb dX5_shift_12 (by decide) ?_
    obtain rfl := Option.some.inj hf
    exact W.iret (v := 0) hx hb hr (fun t ht hW => ⟨rfl, ⟨di, by rw [ht]; exact hP⟩, hS.F ht⟩) hS.2.2 dX5_shift_13
def f_X5_factors (fu : Nat) (th : Int32) (kk : Int32) (mn : Int64) (md : Nat → Int32) (rw : Nat → Int32) (dg : Nat → Int32) (kn : Int32) (fc : Int32) (oft : Nat → Int32) : Option (Int32 × (Int32) × (Nat → Int32) × (Nat → Int32) × (Int32) × (Int32) × (Nat → Int32)) :=
  (f_X5_isNothing dg).bind (fun u1 =>
  (f_X5_fails th u1 0).bind (fun u3 =>
  if u3.1 = 0 then
    (f_X5_factorise fu kk mn md rw dg kn fc oft).bind (fun u6 =>
    some (u6.2.2.2.1, u3.2, u6.1, u6.2.1, u6.2.2.1, u6.2.2.2.1, u6.2.2.2.2))
  else
    some (0, u3.2, rw, dg, kn, fc, oft)))
set_option maxHeartbeats 4000000 in
set_option maxRecDepth 100000 in
theorem C_X5_factors (l : Launch) (D : va_G) (tys : List (ClassId × FieldType)) {ad : Nat → Nat} (hj : ww_inj 6 ad) {cI : ClassId} (htI : tys[0]? = some (cI, .int)) {fu : Nat} {th : Int32} {kk : Int32} {mn : Int64} {md : Nat → Int32} {rw : Nat → Int32} {dg : Nat → Int32} {kn : Int32} {fc : Int32} {oft : Nat → Int32} {res : Int32 × (Int32) × (Nat → Int32) × (Nat → Int32) × (Int32) × (Int32) × (Nat → Int32)} (hf : f_X5_factors fu th kk mn md rw dg kn fc oft = some res) :
    Met l yX5_factors usX5_factors ({ frames := 9, cells := 0, slots := 0, locals := 218 }) (va_Pc [.ref (ad 0)] (ws_Bx D tys (fun di => ww 6 ad (cellR cI ad th kk mn md rw dg kn fc oft di)))) (ct_Qx D (fun di => ww 6 ad (cellR cI ad res.2.1 kk mn md res.2.2.1 res.2.2.2.1 res.2.2.2.2.1 res.2.2.2.2.2.1 res.2.2.2.2.2.2 di)) (ww_A 6 ad) (some (.int res.1))) 0 0 (ww_A 6 ad) := by
  refine Met.ofW (cc := cX5_factors) (maxL := 1) (ret := (some .int)) (by decide) rfl ?_
  intro p e s m args below meth c s₁ B hml hv
  obtain ⟨rfl, ⟨di, hP⟩, hK⟩ := hv
  have hx := B.exec
  have hb := B.bytes
  have hr := B.returns
  have hts := atoms_spec (ws := usX5_factors) B.pre
  have hown : s.vm.findClass RX5 = some m.cls := findClass_of_methodNamed B.named
  have hlocks := B.notSynchronized
  have hS : va_S (ww_A 6 ad) s.heap s.heap [] := va_S.rf
  have hl := lv_entry ([.ref (ad 0)]) (n := 1) (Nat.le_of_ble_eq_true rfl)
  rw [lg_entry_eq]
  generalize (lg_sl ([.ref (ad 0)]) ++ List.replicate (1 - (lg_sl ([.ref (ad 0)])).length) Slot.unset).toArray = ls at hl ⊢
  have hl : lv_has ls 1 [(0, .ref (ad 0))] := hl
  unfold f_X5_factors at hf
  refine lv_aload_n hx hb dX5_factors_0 rfl (lv_at hl 0 rfl) ?_
  refine lv_aload_n hx hb dX5_factors_1 rfl (lv_at hl 0 rfl) ?_
  obtain ⟨u1, g2, hf⟩ := Option.bind_eq_some_iff.mp hf
  try dsimp only at hf
  refine ct_callx (va_runV (As := []) (rest := [.ref (ad 0)]) ⟨hx, hb, hml, hown, hts⟩ (C_X5_isNothing l D tys hj htI (res := u1) g2) (cwV 0 hts (gu_V mw_455 mw_456 mw_457 mw_330 mw_454) rfl rfl rfl (by decide +kernel) ⟨Nat.le_of_ble_eq_true rfl, Nat.le_of_ble_eq_true rfl⟩) (ct_preVx (w := fun di => ww 6 ad (cellR cI ad th kk mn md rw dg kn fc oft di)) hP hK (ci := 5) (k := 0) rfl cr_mdl) rfl rfl hl.1 rfl (lv_room (Nat.le_of_ble_eq_true rfl)) dX5_factors_2 ⟨Nat.zero_le _, Nat.zero_le _⟩) hS (fun di H locs hP hS => ?_)
  refine lv_iconst (v := 0) hx hb dX5_factors_5 (by decide) ?_
  obtain ⟨u3, g4, hf⟩ := Option.bind_eq_some_iff.mp hf
  try dsimp only at hf
  refine ct_callx (va_runV (As := [.int u1, .int 0]) (rest := []) ⟨hx, hb, hml, hown, hts⟩ (C_X5_fails l D tys hj htI (res := u3) g4) (cwV 2 hts (gu_V mw_356 mw_357 mw_358 mw_330 mw_322) rfl rfl rfl (by decide +kernel) ⟨Nat.le_of_ble_eq_true rfl, Nat.le_of_ble_eq_true rfl⟩) (ct_preVx (w := fun di => ww 6 ad (cellR cI ad th kk mn md rw dg kn fc oft di)) hP hK (ci := 5) (k := 0) rfl cr_mdl) rfl rfl hl.1 rfl (lv_room (Nat.le_of_ble_eq_true rfl)) dX5_factors_6 ⟨Nat.zero_le _, Nat.zero_le _⟩) hS (fun di H locs hP hS => ?_)
  refine lv_if_eq (tgt := 14) hx hb dX5_factors_9 (by decide) (fun c5 => ?_) (fun c5 => ?_)
  · rw [if_pos c5] at hf
    refine lv_aload_n hx hb dX5_factors_14 rfl (lv_at hl 0 rfl) ?_
    obtain ⟨u6, g7, hf⟩ := Option.bind_eq_some_iff.mp hf
    try dsimp only at hf
    refine ct_callx (va_runV (As := []) (rest := []) ⟨hx, hb, hml, hown, hts⟩ (C_X5_factorise l D tys hj htI (res := u6) g7) (cwV 0 hts (gu_V mw_462 mw_463 mw_464 mw_330 mw_453) rfl rfl rfl (by decide +kernel) ⟨Nat.le_of_ble_eq_true rfl, Nat.le_of_ble_eq_true rfl⟩) (ct_preVx (w := fun di => ww 6 ad (cellR cI ad u3.2 kk mn md rw dg kn fc oft di)) hP hK (ci := 5) (k := 0) rfl cr_mdl) rfl rfl hl.1 rfl (lv_room (Nat.le_of_ble_eq_true rfl)) dX5_factors_15 ⟨Nat.zero_le _, Nat.zero_le _⟩) hS (fun di H locs hP hS => ?_)
    refine lv_aload_n hx hb dX5_factors_18 rfl (lv_at hl 0 rfl) ?_
    refine va_get (ci := 5) (v := .int u6.2.2.2.1) (C := RX5) (T := TX5) (N := 10) hx hb hts (fun w h => BW_in (in_wsX50 w h)) hown hK hP 0 cr_mdl rfl 8 (by decide) (hts (.fieldLink RX5 126 "NumberFieldFactorsModel" "factors" "I") (BW_in mw_427)) (fun _ h9 => h9) rfl dX5_factors_19 ?_
    obtain rfl := Option.some.inj hf
    exact W.iret (v := u6.2.2.2.1) hx hb hr (fun t ht hW => ⟨rfl, ⟨di, by rw [ht]; exact hP⟩, hS.F ht⟩) hS.2.2 dX5_factors_22
  · rw [if_neg c5] at hf
    refine lv_iconst (v := 0) hx hb dX5_factors_12 (by decide) ?_
    obtain rfl := Option.some.inj hf
    exact W.iret (v := 0) hx hb hr (fun t ht hW => ⟨rfl, ⟨di, by rw [ht]; exact hP⟩, hS.F ht⟩) hS.2.2 dX5_factors_13
def f_X5_lacks (fu : Nat) (kk : Int32) (mn : Int64) (md : Nat → Int32) (rw : Nat → Int32) (dg : Nat → Int32) (kn : Int32) (fc : Int32) (oft : Nat → Int32) (p0 : Int32) : Option (Int32 × (Nat → Int32) × (Nat → Int32) × (Int32) × (Int32) × (Nat → Int32)) :=
  (f_X5_isNothing dg).bind (fun u1 =>
  if u1 = 0 then
    (f_X5_factorise fu kk mn md rw dg kn fc oft).bind (fun u4 =>
    if p0 < 0 then
      some (1, u4.1, u4.2.1, u4.2.2.1, u4.2.2.2.1, u4.2.2.2.2)
    else
      if p0 < u4.2.2.2.1 then
        some (0, u4.1, u4.2.1, u4.2.2.1, u4.2.2.2.1, u4.2.2.2.2)
      else
        some (1, u4.1, u4.2.1, u4.2.2.1, u4.2.2.2.1, u4.2.2.2.2))
  else
    some (0, rw, dg, kn, fc, oft))
set_option maxHeartbeats 4000000 in
set_option maxRecDepth 100000 in
theorem C_X5_lacks (l : Launch) (D : va_G) (tys : List (ClassId × FieldType)) {ad : Nat → Nat} (hj : ww_inj 6 ad) {cI : ClassId} (htI : tys[0]? = some (cI, .int)) {fu : Nat} {th : Int32} {kk : Int32} {mn : Int64} {md : Nat → Int32} {rw : Nat → Int32} {dg : Nat → Int32} {kn : Int32} {fc : Int32} {oft : Nat → Int32} {p0 : Int32} {res : Int32 × (Nat → Int32) × (Nat → Int32) × (Int32) × (Int32) × (Nat → Int32)} (hf : f_X5_lacks fu kk mn md rw dg kn fc oft p0 = some res) :
    Met l yX5_lacks usX5_lacks ({ frames := 9, cells := 0, slots := 0, locals := 218 }) (va_Pc [.ref (ad 0), .int p0] (ws_Bx D tys (fun di => ww 6 ad (cellR cI ad th kk mn md rw dg kn fc oft di)))) (ct_Qx D (fun di => ww 6 ad (cellR cI ad th kk mn md res.2.1 res.2.2.1 res.2.2.2.1 res.2.2.2.2.1 res.2.2.2.2.2 di)) (ww_A 6 ad) (some (.int res.1))) 0 0 (ww_A 6 ad) := by
  refine Met.ofW (cc := cX5_lacks) (maxL := 2) (ret := (some .boolean)) (by decide) rfl ?_
  intro p e s m args below meth c s₁ B hml hv
  obtain ⟨rfl, ⟨di, hP⟩, hK⟩ := hv
  have hx := B.exec
  have hb := B.bytes
  have hr := B.returns
  have hts := atoms_spec (ws := usX5_lacks) B.pre
  have hown : s.vm.findClass RX5 = some m.cls := findClass_of_methodNamed B.named
  have hlocks := B.notSynchronized
  have hS : va_S (ww_A 6 ad) s.heap s.heap [] := va_S.rf
  have hl := lv_entry ([.ref (ad 0), .int p0]) (n := 2) (Nat.le_of_ble_eq_true rfl)
  rw [lg_entry_eq]
  generalize (lg_sl ([.ref (ad 0), .int p0]) ++ List.replicate (2 - (lg_sl ([.ref (ad 0), .int p0])).length) Slot.unset).toArray = ls at hl ⊢
  have hl : lv_has ls 2 [(0, .ref (ad 0)), (1, .int p0)] := hl
  unfold f_X5_lacks at hf
  refine lv_aload_n hx hb dX5_lacks_0 rfl (lv_at hl 0 rfl) ?_
  obtain ⟨u1, g2, hf⟩ := Option.bind_eq_some_iff.mp hf
  try dsimp only at hf
  refine ct_callx (va_runV (As := []) (rest := []) ⟨hx, hb, hml, hown, hts⟩ (C_X5_isNothing l D tys hj htI (res := u1) g2) (cwV 0 hts (gu_V mw_455 mw_456 mw_457 mw_330 mw_454) rfl rfl rfl (by decide +kernel) ⟨Nat.le_of_ble_eq_true rfl, Nat.le_of_ble_eq_true rfl⟩) (ct_preVx (w := fun di => ww 6 ad (cellR cI ad th kk mn md rw dg kn fc oft di)) hP hK (ci := 5) (k := 0) rfl cr_mdl) rfl rfl hl.1 rfl (lv_room (Nat.le_of_ble_eq_true rfl)) dX5_lacks_1 ⟨Nat.zero_le _, Nat.zero_le _⟩) hS (fun di H locs hP hS => ?_)
  refine lv_if_eq (tgt := 9) hx hb dX5_lacks_4 (by decide) (fun c3 => ?_) (fun c3 => ?_)
  · rw [if_pos c3] at hf
    refine lv_aload_n hx hb dX5_lacks_9 rfl (lv_at hl 0 rfl) ?_
    obtain ⟨u4, g5, hf⟩ := Option.bind_eq_some_iff.mp hf
    try dsimp only at hf
    refine ct_callx (va_runV (As := []) (rest := []) ⟨hx, hb, hml, hown, hts⟩ (C_X5_factorise l D tys hj htI (res := u4) g5) (cwV 0 hts (gu_V mw_462 mw_463 mw_464 mw_330 mw_453) rfl rfl rfl (by decide +kernel) ⟨Nat.le_of_ble_eq_true rfl, Nat.le_of_ble_eq_true rfl⟩) (ct_preVx (w := fun di => ww 6 ad (cellR cI ad th kk mn md rw dg kn fc oft di)) hP hK (ci := 5) (k := 0) rfl cr_mdl) rfl rfl hl.1 rfl (lv_room (Nat.le_of_ble_eq_true rfl)) dX5_lacks_10 ⟨Nat.zero_le _, Nat.zero_le _⟩) hS (fun di H locs hP hS => ?_)
    refine lv_iload_n hx hb dX5_lacks_13 rfl (lv_at hl 1 rfl) ?_
    refine lv_if_lt (tgt := 25) hx hb dX5_lacks_14 (by decide) (fun c6 => ?_) (fun c6 => ?_)
    · rw [if_pos c6] at hf
      refine lv_iconst (v := 1) hx hb dX5_lacks_25 (by decide) ?_
      refine lv_goto (tgt := 30) hx hb dX5_lacks_26 (by decide) ?_
      obtain rfl := Option.some.inj hf
      exact W.zret (v := 1) (ty := .boolean) hx hb hr (by decide) (fun t ht hW => ⟨rfl, ⟨di, by rw [ht]; exact hP⟩, hS.F ht⟩) hS.2.2 dX5_lacks_30
    · rw [if_neg c6] at hf
      refine lv_iload_n hx hb dX5_lacks_17 rfl (lv_at hl 1 rfl) ?_
      refine lv_aload_n hx hb dX5_lacks_18 rfl (lv_at hl 0 rfl) ?_
      refine va_get (ci := 5) (v := .int u4.2.2.2.1) (C := RX5) (T := TX5) (N := 10) hx hb hts (fun w h => BW_in (in_wsX50 w h)) hown hK hP 0 cr_mdl rfl 8 (by decide) (hts (.fieldLink RX5 126 "NumberFieldFactorsModel" "factors" "I") (BW_in mw_427)) (fun _ h9 => h9) rfl dX5_lacks_19 ?_
      refine lv_icmp_lt (tgt := 29) hx hb dX5_lacks_22 (by decide) (fun c7 => ?_) (fun c7 => ?_)
      · rw [if_pos c7] at hf
        refine lv_iconst (v := 0) hx hb dX5_lacks_29 (by decide) ?_
        obtain rfl := Option.some.inj hf
        exact W.zret (v := 0) (ty := .boolean) hx hb hr (by decide) (fun t ht hW => ⟨rfl, ⟨di, by rw [ht]; exact hP⟩, hS.F ht⟩) hS.2.2 dX5_lacks_30
      · rw [if_neg c7] at hf
        refine lv_iconst (v := 1) hx hb dX5_lacks_25 (by decide) ?_
        refine lv_goto (tgt := 30) hx hb dX5_lacks_26 (by decide) ?_
        obtain rfl := Option.some.inj hf
        exact W.zret (v := 1) (ty := .boolean) hx hb hr (by decide) (fun t ht hW => ⟨rfl, ⟨di, by rw [ht]; exact hP⟩, hS.F ht⟩) hS.2.2 dX5_lacks_30
  · rw [if_neg c3] at hf
    refine lv_iconst (v := 0) hx hb dX5_lacks_7 (by decide) ?_
    obtain rfl := Option.some.inj hf
    exact W.zret (v := 0) (ty := .boolean) hx hb hr (by decide) (fun t ht hW => ⟨rfl, ⟨di, by rw [ht]; exact hP⟩, hS.F ht⟩) hS.2.2 dX5_lacks_8
def f_X5_factor (fu : Nat) (th : Int32) (kk : Int32) (mn : Int64) (md : Nat → Int32) (rw : Nat → Int32) (dg : Nat → Int32) (kn : Int32) (fc : Int32) (oft : Nat → Int32) (p0 : Int32) (p1 : Int32) : Option (Int32 × (Int32) × (Nat → Int32) × (Nat → Int32) × (Int32) × (Int32) × (Nat → Int32)) :=
  (f_X5_isNothing dg).bind (fun u1 =>
  (f_X5_lacks fu kk mn md rw dg kn fc oft p0).bind (fun u3 =>
  ((
    if u3.1 = 0 then
      (f_X5_isPower p1).bind (fun u7 =>
      ((
        if u7 = 0 then
          some 1
        else
          some 0 : Option (Int32))).bind (fun w9 =>
      some w9))
    else
      some 1 : Option (Int32))).bind (fun w5 =>
  (f_X5_fails th u1 w5).bind (fun u11 =>
  if u11.1 = 0 then
    (f_X5_cell u3.2.1 (20 + p0) p1).bind (fun u14 =>
    some (u14, u11.2, u3.2.1, u3.2.2.1, u3.2.2.2.1, u3.2.2.2.2.1, u3.2.2.2.2.2))
  else
    some (0, u11.2, u3.2.1, u3.2.2.1, u3.2.2.2.1, u3.2.2.2.2.1, u3.2.2.2.2.2)))))
set_option maxHeartbeats 4000000 in
set_option maxRecDepth 100000 in
theorem C_X5_factor (l : Launch) (D : va_G) (tys : List (ClassId × FieldType)) {ad : Nat → Nat} (hj : ww_inj 6 ad) {cI : ClassId} (htI : tys[0]? = some (cI, .int)) {fu : Nat} {th : Int32} {kk : Int32} {mn : Int64} {md : Nat → Int32} {rw : Nat → Int32} {dg : Nat → Int32} {kn : Int32} {fc : Int32} {oft : Nat → Int32} {p0 : Int32} {p1 : Int32} {res : Int32 × (Int32) × (Nat → Int32) × (Nat → Int32) × (Int32) × (Int32) × (Nat → Int32)} (hf : f_X5_factor fu th kk mn md rw dg kn fc oft p0 p1 = some res) :
    Met l yX5_factor usX5_factor ({ frames := 10, cells := 0, slots := 0, locals := 239 }) (va_Pc [.ref (ad 0), .int p0, .int p1] (ws_Bx D tys (fun di => ww 6 ad (cellR cI ad th kk mn md rw dg kn fc oft di)))) (ct_Qx D (fun di => ww 6 ad (cellR cI ad res.2.1 kk mn md res.2.2.1 res.2.2.2.1 res.2.2.2.2.1 res.2.2.2.2.2.1 res.2.2.2.2.2.2 di)) (ww_A 6 ad) (some (.int res.1))) 0 0 (ww_A 6 ad) := by
  refine Met.ofW (cc := cX5_factor) (maxL := 3) (ret := (some .int)) (by decide) rfl ?_
  intro p e s m args below meth c s₁ B hml hv
  obtain ⟨rfl, ⟨di, hP⟩, hK⟩ := hv
  have hx := B.exec
  have hb := B.bytes
  have hr := B.returns
  have hts := atoms_spec (ws := usX5_factor) B.pre
  have hown : s.vm.findClass RX5 = some m.cls := findClass_of_methodNamed B.named
  have hlocks := B.notSynchronized
  have hS : va_S (ww_A 6 ad) s.heap s.heap [] := va_S.rf
  have hl := lv_entry ([.ref (ad 0), .int p0, .int p1]) (n := 3) (Nat.le_of_ble_eq_true rfl)
  rw [lg_entry_eq]
  generalize (lg_sl ([.ref (ad 0), .int p0, .int p1]) ++ List.replicate (3 - (lg_sl ([.ref (ad 0), .int p0, .int p1])).length) Slot.unset).toArray = ls at hl ⊢
  have hl : lv_has ls 3 [(0, .ref (ad 0)), (1, .int p0), (2, .int p1)] := hl
  unfold f_X5_factor at hf
  refine lv_aload_n hx hb dX5_factor_0 rfl (lv_at hl 0 rfl) ?_
  refine lv_aload_n hx hb dX5_factor_1 rfl (lv_at hl 0 rfl) ?_
  obtain ⟨u1, g2, hf⟩ := Option.bind_eq_some_iff.mp hf
  try dsimp only at hf
  refine ct_callx (va_runV (As := []) (rest := [.ref (ad 0)]) ⟨hx, hb, hml, hown, hts⟩ (C_X5_isNothing l D tys hj htI (res := u1) g2) (cwV 0 hts (gu_V mw_455 mw_456 mw_457 mw_330 mw_454) rfl rfl rfl (by decide +kernel) ⟨Nat.le_of_ble_eq_true rfl, Nat.le_of_ble_eq_true rfl⟩) (ct_preVx (w := fun di => ww 6 ad (cellR cI ad th kk mn md rw dg kn fc oft di)) hP hK (ci := 5) (k := 0) rfl cr_mdl) rfl rfl hl.1 rfl (lv_room (Nat.le_of_ble_eq_true rfl)) dX5_factor_2 ⟨Nat.zero_le _, Nat.zero_le _⟩) hS (fun di H locs hP hS => ?_)
  refine lv_aload_n hx hb dX5_factor_5 rfl (lv_at hl 0 rfl) ?_
  refine lv_iload_n hx hb dX5_factor_6 rfl (lv_at hl 1 rfl) ?_
  obtain ⟨u3, g4, hf⟩ := Option.bind_eq_some_iff.mp hf
  try dsimp only at hf
  refine ct_callx (va_runV (As := [.int p0]) (rest := [.int u1, .ref (ad 0)]) ⟨hx, hb, hml, hown, hts⟩ (C_X5_lacks l D tys hj htI (res := u3) g4) (cwV 1 hts (gu_V mw_467 mw_468 mw_469 mw_330 mw_466) rfl rfl rfl (by decide +kernel) ⟨Nat.le_of_ble_eq_true rfl, Nat.le_of_ble_eq_true rfl⟩) (ct_preVx (w := fun di => ww 6 ad (cellR cI ad th kk mn md rw dg kn fc oft di)) hP hK (ci := 5) (k := 0) rfl cr_mdl) rfl rfl hl.1 rfl (lv_room (Nat.le_of_ble_eq_true rfl)) dX5_factor_7 ⟨Nat.zero_le _, Nat.zero_le _⟩) hS (fun di H locs hP hS => ?_)
  obtain ⟨w5, gw5, hf⟩ := Option.bind_eq_some_iff.mp hf
  try dsimp only at hf
  have hJ26_w5 : ∀ (di : Nat → Int32) (H : Heap) (locs : List Loc) (ls : Array Slot), va_P D vwCl (ww 6 ad (cellR cI ad th kk mn md u3.2.1 u3.2.2.1 u3.2.2.2.1 u3.2.2.2.2.1 u3.2.2.2.2.2 di)) H → va_S (ww_A 6 ad) s.heap H locs → lv_has ls 3 [(0, .ref (ad 0)), (1, .int p0), (2, .int p1)] → W p l e (headSpec usX5_factor { frames := 10, cells := 0, slots := 0, locals := 239 }).room s m [.ref (ad 0), .int p0, .int p1].toArray below meth c H locs 0 0 (MQ below (ct_Qx D (fun di => ww 6 ad (cellR cI ad res.2.1 kk mn md res.2.2.1 res.2.2.2.1 res.2.2.2.2.1 res.2.2.2.2.2.1 res.2.2.2.2.2.2 di)) (ww_A 6 ad) (some (.int res.1))) [.ref (ad 0), .int p0, .int p1].toArray s 0 0 (ww_A 6 ad)) (F0 m 26 ls [.int w5, .int u1, .ref (ad 0)]) := by
    intro di H locs ls hP hS hl
    obtain ⟨u11, g12, hf⟩ := Option.bind_eq_some_iff.mp hf
    try dsimp only at hf
    refine ct_callx (va_runV (As := [.int u1, .int w5]) (rest := []) ⟨hx, hb, hml, hown, hts⟩ (C_X5_fails l D tys hj htI (res := u11) g12) (cwV 2 hts (gu_V mw_356 mw_357 mw_358 mw_330 mw_322) rfl rfl rfl (by decide +kernel) ⟨Nat.le_of_ble_eq_true rfl, Nat.le_of_ble_eq_true rfl⟩) (ct_preVx (w := fun di => ww 6 ad (cellR cI ad th kk mn md u3.2.1 u3.2.2.1 u3.2.2.2.1 u3.2.2.2.2.1 u3.2.2.2.2.2 di)) hP hK (ci := 5) (k := 0) rfl cr_mdl) rfl rfl hl.1 rfl (lv_room (Nat.le_of_ble_eq_true rfl)) dX5_factor_26 ⟨Nat.zero_le _, Nat.zero_le _⟩) hS (fun di H locs hP hS => ?_)
    refine lv_if_eq (tgt := 34) hx hb dX5_factor_29 (by decide) (fun c13 => ?_) (fun c13 => ?_)
    · rw [if_pos c13] at hf
      refine lv_aload_n hx hb dX5_factor_34 rfl (lv_at hl 0 rfl) ?_
      refine lv_bipush (v := 20) hx hb dX5_factor_35 (by decide) ?_
      refine lv_iload_n hx hb dX5_factor_37 rfl (lv_at hl 1 rfl) ?_
      refine lv_iadd hx hb dX5_factor_38 ?_
      refine lv_iload_n hx hb dX5_factor_39 rfl (lv_at hl 2 rfl) ?_
      obtain ⟨u14, g15, hf⟩ := Option.bind_eq_some_iff.mp hf
      try dsimp only at hf
      refine ct_callx (va_runV (As := [.int (20 + p0), .int p1]) (rest := []) ⟨hx, hb, hml, hown, hts⟩ (C_X5_cell l D tys hj htI (res := u14) g15) (cwV 2 hts (gu_V mw_369 mw_370 mw_371 mw_330 mw_367) rfl rfl rfl (by decide +kernel) ⟨Nat.le_of_ble_eq_true rfl, Nat.le_of_ble_eq_true rfl⟩) (ct_preVx (w := fun di => ww 6 ad (cellR cI ad u11.2 kk mn md u3.2.1 u3.2.2.1 u3.2.2.2.1 u3.2.2.2.2.1 u3.2.2.2.2.2 di)) hP hK (ci := 5) (k := 0) rfl cr_mdl) rfl rfl hl.1 rfl (lv_room (Nat.le_of_ble_eq_true rfl)) dX5_factor_40 ⟨Nat.zero_le _, Nat.zero_le _⟩) hS (fun di H locs hP hS => ?_)
      obtain rfl := Option.some.inj hf
      exact W.iret (v := u14) hx hb hr (fun t ht hW => ⟨rfl, ⟨di, by rw [ht]; exact hP⟩, hS.F ht⟩) hS.2.2 dX5_factor_43
    · rw [if_neg c13] at hf
      refine lv_iconst (v := 0) hx hb dX5_factor_32 (by decide) ?_
      obtain rfl := Option.some.inj hf
      exact W.iret (v := 0) hx hb hr (fun t ht hW => ⟨rfl, ⟨di, by rw [ht]; exact hP⟩, hS.F ht⟩) hS.2.2 dX5_factor_33
  refine lv_if_ne (tgt := 21) hx hb dX5_factor_10 (by decide) (fun c6 => ?_) (fun c6 => ?_)
  · rw [if_neg c6] at gw5
    refine lv_iconst (v := 1) hx hb dX5_factor_21 (by decide) ?_
    refine lv_goto (tgt := 26) hx hb dX5_factor_22 (by decide) ?_
    obtain rfl := Option.some.inj gw5
    exact hJ26_w5 _ _ _ _ hP hS (lv_sub hl [0, 1, 2] rfl)
  · rw [if_pos c6] at gw5
    refine lv_aload_n hx hb dX5_factor_13 rfl (lv_at hl 0 rfl) ?_
    refine lv_iload_n hx hb dX5_factor_14 rfl (lv_at hl 2 rfl) ?_
    obtain ⟨u7, g8, gw5⟩ := Option.bind_eq_some_iff.mp gw5
    try dsimp only at gw5
    refine ct_callx (va_runV (As := [.int p1]) (rest := [.int u1, .ref (ad 0)]) ⟨hx, hb, hml, hown, hts⟩ (C_X5_isPower l D tys hj htI (res := u7) g8) (cwV 1 hts (gu_V mw_400 mw_401 mw_402 mw_330 mw_399) rfl rfl rfl (by decide +kernel) ⟨Nat.le_of_ble_eq_true rfl, Nat.le_of_ble_eq_true rfl⟩) (ct_preVx (w := fun di => ww 6 ad (cellR cI ad th kk mn md u3.2.1 u3.2.2.1 u3.2.2.2.1 u3.2.2.2.2.1 u3.2.2.2.2.2 di)) hP hK (ci := 5) (k := 0) rfl cr_mdl) rfl rfl hl.1 rfl (lv_room (Nat.le_of_ble_eq_true rfl)) dX5_factor_15 ⟨Nat.zero_le _, Nat.zero_le _⟩) hS (fun di H locs hP hS => ?_)
    obtain ⟨w9, gw9, gw5⟩ := Option.bind_eq_some_iff.mp gw5
    try dsimp only at gw5
    have hJ26_w9 : ∀ (di : Nat → Int32) (H : Heap) (locs : List Loc) (ls : Array Slot), va_P D vwCl (ww 6 ad (cellR cI ad th kk mn md u3.2.1 u3.2.2.1 u3.2.2.2.1 u3.2.2.2.2.1 u3.2.2.2.2.2 di)) H → va_S (ww_A 6 ad) s.heap H locs → lv_has ls 3 [(0, .ref (ad 0)), (1, .int p0), (2, .int p1)] → W p l e (headSpec usX5_factor { frames := 10, cells := 0, slots := 0, locals := 239 }).room s m [.ref (ad 0), .int p0, .int p1].toArray below meth c H locs 0 0 (MQ below (ct_Qx D (fun di => ww 6 ad (cellR cI ad res.2.1 kk mn md res.2.2.1 res.2.2.2.1 res.2.2.2.2.1 res.2.2.2.2.2.1 res.2.2.2.2.2.2 di)) (ww_A 6 ad) (some (.int res.1))) [.ref (ad 0), .int p0, .int p1].toArray s 0 0 (ww_A 6 ad)) (F0 m 26 ls [.int w9, .int u1, .ref (ad 0)]) := by
      intro di H locs ls hP hS hl
      obtain rfl := Option.some.inj gw5
      exact hJ26_w5 _ _ _ _ hP hS (lv_sub hl [0, 1, 2] rfl)
    refine lv_if_ne (tgt := 25) hx hb dX5_factor_18 (by decide) (fun c10 => ?_) (fun c10 => ?_)
    · rw [if_neg c10] at gw9
      refine lv_iconst (v := 0) hx hb dX5_factor_25 (by decide) ?_
      obtain rfl := Option.some.inj gw9
      exact hJ26_w9 _ _ _ _ hP hS (lv_sub hl [0, 1, 2] rfl)
    · rw [if_pos c10] at gw9
      refine lv_iconst (v := 1) hx hb dX5_factor_21 (by decide) ?_
      refine lv_goto (tgt := 26) hx hb dX5_factor_22 (by decide) ?_
      obtain rfl := Option.some.inj gw9
      exact hJ26_w9 _ _ _ _ hP hS (lv_sub hl [0, 1, 2] rfl)
def f_X5_often (fu : Nat) (th : Int32) (kk : Int32) (mn : Int64) (md : Nat → Int32) (rw : Nat → Int32) (dg : Nat → Int32) (kn : Int32) (fc : Int32) (oft : Nat → Int32) (p0 : Int32) : Option (Int32 × (Int32) × (Nat → Int32) × (Nat → Int32) × (Int32) × (Int32) × (Nat → Int32)) :=
  (f_X5_isNothing dg).bind (fun u1 =>
  (f_X5_lacks fu kk mn md rw dg kn fc oft p0).bind (fun u3 =>
  (f_X5_fails th u1 u3.1).bind (fun u5 =>
  if u5.1 = 0 then
    if p0 < 0 ∨ 5 ≤ (p0).toNatClampNeg then none else
    some (u3.2.2.2.2.2 (p0).toNatClampNeg, u5.2, u3.2.1, u3.2.2.1, u3.2.2.2.1, u3.2.2.2.2.1, u3.2.2.2.2.2)
  else
    some (0, u5.2, u3.2.1, u3.2.2.1, u3.2.2.2.1, u3.2.2.2.2.1, u3.2.2.2.2.2))))
set_option maxHeartbeats 4000000 in
set_option maxRecDepth 100000 in
theorem C_X5_often (l : Launch) (D : va_G) (tys : List (ClassId × FieldType)) {ad : Nat → Nat} (hj : ww_inj 6 ad) {cI : ClassId} (htI : tys[0]? = some (cI, .int)) {fu : Nat} {th : Int32} {kk : Int32} {mn : Int64} {md : Nat → Int32} {rw : Nat → Int32} {dg : Nat → Int32} {kn : Int32} {fc : Int32} {oft : Nat → Int32} {p0 : Int32} {res : Int32 × (Int32) × (Nat → Int32) × (Nat → Int32) × (Int32) × (Int32) × (Nat → Int32)} (hf : f_X5_often fu th kk mn md rw dg kn fc oft p0 = some res) :
    Met l yX5_often usX5_often ({ frames := 10, cells := 0, slots := 0, locals := 239 }) (va_Pc [.ref (ad 0), .int p0] (ws_Bx D tys (fun di => ww 6 ad (cellR cI ad th kk mn md rw dg kn fc oft di)))) (ct_Qx D (fun di => ww 6 ad (cellR cI ad res.2.1 kk mn md res.2.2.1 res.2.2.2.1 res.2.2.2.2.1 res.2.2.2.2.2.1 res.2.2.2.2.2.2 di)) (ww_A 6 ad) (some (.int res.1))) 0 0 (ww_A 6 ad) := by
  refine Met.ofW (cc := cX5_often) (maxL := 2) (ret := (some .int)) (by decide) rfl ?_
  intro p e s m args below meth c s₁ B hml hv
  obtain ⟨rfl, ⟨di, hP⟩, hK⟩ := hv
  have hx := B.exec
  have hb := B.bytes
  have hr := B.returns
  have hts := atoms_spec (ws := usX5_often) B.pre
  have hown : s.vm.findClass RX5 = some m.cls := findClass_of_methodNamed B.named
  have hlocks := B.notSynchronized
  have hS : va_S (ww_A 6 ad) s.heap s.heap [] := va_S.rf
  have hl := lv_entry ([.ref (ad 0), .int p0]) (n := 2) (Nat.le_of_ble_eq_true rfl)
  rw [lg_entry_eq]
  generalize (lg_sl ([.ref (ad 0), .int p0]) ++ List.replicate (2 - (lg_sl ([.ref (ad 0), .int p0])).length) Slot.unset).toArray = ls at hl ⊢
  have hl : lv_has ls 2 [(0, .ref (ad 0)), (1, .int p0)] := hl
  unfold f_X5_often at hf
  refine lv_aload_n hx hb dX5_often_0 rfl (lv_at hl 0 rfl) ?_
  refine lv_aload_n hx hb dX5_often_1 rfl (lv_at hl 0 rfl) ?_
  obtain ⟨u1, g2, hf⟩ := Option.bind_eq_some_iff.mp hf
  try dsimp only at hf
  refine ct_callx (va_runV (As := []) (rest := [.ref (ad 0)]) ⟨hx, hb, hml, hown, hts⟩ (C_X5_isNothing l D tys hj htI (res := u1) g2) (cwV 0 hts (gu_V mw_455 mw_456 mw_457 mw_330 mw_454) rfl rfl rfl (by decide +kernel) ⟨Nat.le_of_ble_eq_true rfl, Nat.le_of_ble_eq_true rfl⟩) (ct_preVx (w := fun di => ww 6 ad (cellR cI ad th kk mn md rw dg kn fc oft di)) hP hK (ci := 5) (k := 0) rfl cr_mdl) rfl rfl hl.1 rfl (lv_room (Nat.le_of_ble_eq_true rfl)) dX5_often_2 ⟨Nat.zero_le _, Nat.zero_le _⟩) hS (fun di H locs hP hS => ?_)
  refine lv_aload_n hx hb dX5_often_5 rfl (lv_at hl 0 rfl) ?_
  refine lv_iload_n hx hb dX5_often_6 rfl (lv_at hl 1 rfl) ?_
  obtain ⟨u3, g4, hf⟩ := Option.bind_eq_some_iff.mp hf
  try dsimp only at hf
  refine ct_callx (va_runV (As := [.int p0]) (rest := [.int u1, .ref (ad 0)]) ⟨hx, hb, hml, hown, hts⟩ (C_X5_lacks l D tys hj htI (res := u3) g4) (cwV 1 hts (gu_V mw_467 mw_468 mw_469 mw_330 mw_466) rfl rfl rfl (by decide +kernel) ⟨Nat.le_of_ble_eq_true rfl, Nat.le_of_ble_eq_true rfl⟩) (ct_preVx (w := fun di => ww 6 ad (cellR cI ad th kk mn md rw dg kn fc oft di)) hP hK (ci := 5) (k := 0) rfl cr_mdl) rfl rfl hl.1 rfl (lv_room (Nat.le_of_ble_eq_true rfl)) dX5_often_7 ⟨Nat.zero_le _, Nat.zero_le _⟩) hS (fun di H locs hP hS => ?_)
  obtain ⟨u5, g6, hf⟩ := Option.bind_eq_some_iff.mp hf
  try dsimp only at hf
  refine ct_callx (va_runV (As := [.int u1, .int u3.1]) (rest := []) ⟨hx, hb, hml, hown, hts⟩ (C_X5_fails l D tys hj htI (res := u5) g6) (cwV 2 hts (gu_V mw_356 mw_357 mw_358 mw_330 mw_322) rfl rfl rfl (by decide +kernel) ⟨Nat.le_of_ble_eq_true rfl, Nat.le_of_ble_eq_true rfl⟩) (ct_preVx (w := fun di => ww 6 ad (cellR cI ad th kk mn md u3.2.1 u3.2.2.1 u3.2.2.2.1 u3.2.2.2.2.1 u3.2.2.2.2.2 di)) hP hK (ci := 5) (k := 0) rfl cr_mdl) rfl rfl hl.1 rfl (lv_room (Nat.le_of_ble_eq_true rfl)) dX5_often_10 ⟨Nat.zero_le _, Nat.zero_le _⟩) hS (fun di H locs hP hS => ?_)
  refine lv_if_eq (tgt := 18) hx hb dX5_often_13 (by decide) (fun c7 => ?_) (fun c7 => ?_)
  · rw [if_pos c7] at hf
    refine lv_aload_n hx hb dX5_often_18 rfl (lv_at hl 0 rfl) ?_
    refine va_get (ci := 5) (v := .ref (ad 5)) (C := RX5) (T := TX5) (N := 10) hx hb hts (fun w h => BW_in (in_wsX50 w h)) hown hK hP 0 cr_mdl rfl 9 (by decide) (hts (.fieldLink RX5 32 "NumberFieldFactorsModel" "often" "[I") (BW_in mw_319)) (fun _ h9 => h9) rfl dX5_often_19 ?_
    refine lv_iload_n hx hb dX5_often_22 rfl (lv_at hl 1 rfl) ?_
    by_cases b8 : p0 < 0 ∨ 5 ≤ (p0).toNatClampNeg
    · rw [if_pos b8] at hf; cases hf
    rw [if_neg b8] at hf
    refine va_iald hx hb hK hP 5 0 cr_oft htI b8 dX5_often_23 ?_
    obtain rfl := Option.some.inj hf
    exact W.iret (v := u3.2.2.2.2.2 (p0).toNatClampNeg) hx hb hr (fun t ht hW => ⟨rfl, ⟨di, by rw [ht]; exact hP⟩, hS.F ht⟩) hS.2.2 dX5_often_24
  · rw [if_neg c7] at hf
    refine lv_iconst (v := 0) hx hb dX5_often_16 (by decide) ?_
    obtain rfl := Option.some.inj hf
    exact W.iret (v := 0) hx hb hr (fun t ht hW => ⟨rfl, ⟨di, by rw [ht]; exact hP⟩, hS.F ht⟩) hS.2.2 dX5_often_17
def f_X5_splitting_l30 (k30 : Int32 → Int32 → Option (Int32 × (Int32) × (Nat → Int32) × (Nat → Int32) × (Int32) × (Int32) × (Nat → Int32))) (fu : Nat) (th : Int32) (kk : Int32) (mn : Int64) (md : Nat → Int32) (rw : Nat → Int32) (dg : Nat → Int32) (kn : Int32) (fc : Int32) (oft : Nat → Int32) (x1 : Int32) : Nat → Int32 → Int32 → Option (Int32 × (Int32) × (Nat → Int32) × (Nat → Int32) × (Int32) × (Int32) × (Nat → Int32))
  | 0, _, _ => none
  | n + 1, x2, x3 =>
    if fc ≤ x3 then
      k30 x2 x3
    else
      ((
        if x2 = 0 then
          if (20 + x3) < 0 ∨ 25 ≤ (20 + x3).toNatClampNeg then none else
          if dg (20 + x3).toNatClampNeg = 0 then none else
          ((
            if (jrem x1 (dg (20 + x3).toNatClampNeg)) = 0 then
              some 0
            else
              some 1 : Option (Int32))).bind (fun w14 =>
          some w14)
        else
          some 1 : Option (Int32))).bind (fun w10 =>
      f_X5_splitting_l30 k30 fu th kk mn md rw dg kn fc oft x1 n w10 (x3 + 1))
def f_X5_splitting_l22 (k22 : Int32 → Int32 → Option (Int32 × (Int32) × (Nat → Int32) × (Nat → Int32) × (Int32) × (Int32) × (Nat → Int32))) (fu : Nat) (th : Int32) (kk : Int32) (mn : Int64) (md : Nat → Int32) (rw : Nat → Int32) (dg : Nat → Int32) (kn : Int32) (fc : Int32) (oft : Nat → Int32) : Nat → Int32 → Int32 → Option (Int32 × (Int32) × (Nat → Int32) × (Nat → Int32) × (Int32) × (Int32) × (Nat → Int32))
  | 0, _, _ => none
  | n + 1, x1, x2 =>
    if x2 = 0 then
      k22 x1 x2
    else
      f_X5_splitting_l30 (fun y16 y17 =>
        ((
          if y16 = 0 then
            some 0
          else
            some 1 : Option (Int32))).bind (fun w18 =>
        nm (x1 + w18) (fun v20 =>
        f_X5_splitting_l22 k22 fu th kk mn md rw dg kn fc oft n v20 y16))) fu th kk mn md rw dg kn fc oft x1 fu 0 0
def f_X5_splitting (fu : Nat) (th : Int32) (kk : Int32) (mn : Int64) (md : Nat → Int32) (rw : Nat → Int32) (dg : Nat → Int32) (kn : Int32) (fc : Int32) (oft : Nat → Int32) : Option (Int32 × (Int32) × (Nat → Int32) × (Nat → Int32) × (Int32) × (Int32) × (Nat → Int32)) :=
  (f_X5_isNothing dg).bind (fun u1 =>
  (f_X5_fails th u1 0).bind (fun u3 =>
  if u3.1 = 0 then
    (f_X5_factorise fu kk mn md rw dg kn fc oft).bind (fun u6 =>
    f_X5_splitting_l22 (fun y21 y22 =>
      some (y21, u3.2, u6.1, u6.2.1, u6.2.2.1, u6.2.2.2.1, u6.2.2.2.2)) fu u3.2 kk mn md u6.1 u6.2.1 u6.2.2.1 u6.2.2.2.1 u6.2.2.2.2 fu 1 1)
  else
    some (0, u3.2, rw, dg, kn, fc, oft)))
set_option maxHeartbeats 4000000 in
set_option maxRecDepth 100000 in
theorem C_X5_splitting (l : Launch) (D : va_G) (tys : List (ClassId × FieldType)) {ad : Nat → Nat} (hj : ww_inj 6 ad) {cI : ClassId} (htI : tys[0]? = some (cI, .int)) {fu : Nat} {th : Int32} {kk : Int32} {mn : Int64} {md : Nat → Int32} {rw : Nat → Int32} {dg : Nat → Int32} {kn : Int32} {fc : Int32} {oft : Nat → Int32} {res : Int32 × (Int32) × (Nat → Int32) × (Nat → Int32) × (Int32) × (Int32) × (Nat → Int32)} (hf : f_X5_splitting fu th kk mn md rw dg kn fc oft = some res) :
    Met l yX5_splitting usX5_splitting ({ frames := 9, cells := 0, slots := 0, locals := 218 }) (va_Pc [.ref (ad 0)] (ws_Bx D tys (fun di => ww 6 ad (cellR cI ad th kk mn md rw dg kn fc oft di)))) (ct_Qx D (fun di => ww 6 ad (cellR cI ad res.2.1 kk mn md res.2.2.1 res.2.2.2.1 res.2.2.2.2.1 res.2.2.2.2.2.1 res.2.2.2.2.2.2 di)) (ww_A 6 ad) (some (.int res.1))) 0 0 (ww_A 6 ad) := by
  refine Met.ofW (cc := cX5_splitting) (maxL := 4) (ret := (some .int)) (by decide) rfl ?_
  intro p e s m args below meth c s₁ B hml hv
  obtain ⟨rfl, ⟨di, hP⟩, hK⟩ := hv
  have hx := B.exec
  have hb := B.bytes
  have hr := B.returns
  have hts := atoms_spec (ws := usX5_splitting) B.pre
  have hown : s.vm.findClass RX5 = some m.cls := findClass_of_methodNamed B.named
  have hlocks := B.notSynchronized
  have hS : va_S (ww_A 6 ad) s.heap s.heap [] := va_S.rf
  have hl := lv_entry ([.ref (ad 0)]) (n := 4) (Nat.le_of_ble_eq_true rfl)
  rw [lg_entry_eq]
  generalize (lg_sl ([.ref (ad 0)]) ++ List.replicate (4 - (lg_sl ([.ref (ad 0)])).length) Slot.unset).toArray = ls at hl ⊢
  have hl : lv_has ls 4 [(0, .ref (ad 0))] := hl
  have L30 : ∀ (th : Int32) (rw : Nat → Int32) (dg : Nat → Int32) (kn : Int32) (fc : Int32) (oft : Nat → Int32) (x1 : Int32) (k30 : Int32 → Int32 → Option (Int32 × (Int32) × (Nat → Int32) × (Nat → Int32) × (Int32) × (Int32) × (Nat → Int32))), (∀ (x2 : Int32) (x3 : Int32) (di : Nat → Int32) (H : Heap) (locs : List Loc) (ls : Array Slot), va_P D vwCl (ww 6 ad (cellR cI ad th kk mn md rw dg kn fc oft di)) H → va_S (ww_A 6 ad) s.heap H locs → lv_has ls 4 [(0, .ref (ad 0)), (1, .int x1), (2, .int x2), (3, .int x3)] →  k30 x2 x3 = some res → W p l e (headSpec usX5_splitting { frames := 9, cells := 0, slots := 0, locals := 218 }).room s m [.ref (ad 0)].toArray below meth c H locs 0 0 (MQ below (ct_Qx D (fun di => ww 6 ad (cellR cI ad res.2.1 kk mn md res.2.2.1 res.2.2.2.1 res.2.2.2.2.1 res.2.2.2.2.2.1 res.2.2.2.2.2.2 di)) (ww_A 6 ad) (some (.int res.1))) [.ref (ad 0)].toArray s 0 0 (ww_A 6 ad)) (F0 m 68 ls [])) → ∀ (n : Nat) (x2 : Int32) (x3 : Int32) (di : Nat → Int32) (H : Heap) (locs : List Loc) (ls : Array Slot), va_P D vwCl (ww 6 ad (cellR cI ad th kk mn md rw dg kn fc oft di)) H → va_S (ww_A 6 ad) s.heap H locs → lv_has ls 4 [(0, .ref (ad 0)), (1, .int x1), (2, .int x2), (3, .int x3)] →  f_X5_splitting_l30 k30 fu th kk mn md rw dg kn fc oft x1 n x2 x3 = some res → W p l e (headSpec usX5_splitting { frames := 9, cells := 0, slots := 0, locals := 218 }).room s m [.ref (ad 0)].toArray below meth c H locs 0 0 (MQ below (ct_Qx D (fun di => ww 6 ad (cellR cI ad res.2.1 kk mn md res.2.2.1 res.2.2.2.1 res.2.2.2.2.1 res.2.2.2.2.2.1 res.2.2.2.2.2.2 di)) (ww_A 6 ad) (some (.int res.1))) [.ref (ad 0)].toArray s 0 0 (ww_A 6 ad)) (F0 m 30 ls []) := by
    intro th rw dg kn fc oft x1 k30 hk_30 n
    induction n with
    | zero => intro x2 x3 di H locs ls hP hS hl hf; rw [f_X5_splitting_l30] at hf; cases hf
    | succ n ih =>
      intro x2 x3 di H locs ls hP hS hl hf
      rw [f_X5_splitting_l30] at hf
      refine lv_iload_n hx hb dX5_splitting_30 rfl (lv_at hl 3 rfl) ?_
      refine lv_aload_n hx hb dX5_splitting_31 rfl (lv_at hl 0 rfl) ?_
      refine va_get (ci := 5) (v := .int fc) (C := RX5) (T := TX5) (N := 10) hx hb hts (fun w h => BW_in (in_wsX50 w h)) hown hK hP 0 cr_mdl rfl 8 (by decide) (hts (.fieldLink RX5 126 "NumberFieldFactorsModel" "factors" "I") (BW_in mw_427)) (fun _ h9 => h9) rfl dX5_splitting_32 ?_
      refine lv_icmp_ge (tgt := 68) hx hb dX5_splitting_35 (by decide) (fun c9 => ?_) (fun c9 => ?_)
      · rw [if_pos c9] at hf
        exact hk_30 x2 x3 _ _ _ _ hP hS (lv_sub hl [0, 1, 2, 3] rfl) hf
      · rw [if_neg c9] at hf
        refine lv_iload_n hx hb dX5_splitting_38 rfl (lv_at hl 2 rfl) ?_
        obtain ⟨w10, gw10, hf⟩ := Option.bind_eq_some_iff.mp hf
        try dsimp only at hf
        have hJ61_w10 : ∀ (di : Nat → Int32) (H : Heap) (locs : List Loc) (ls : Array Slot), va_P D vwCl (ww 6 ad (cellR cI ad th kk mn md rw dg kn fc oft di)) H → va_S (ww_A 6 ad) s.heap H locs → lv_has ls 4 [(0, .ref (ad 0)), (1, .int x1), (2, .int x2), (3, .int x3)] → W p l e (headSpec usX5_splitting { frames := 9, cells := 0, slots := 0, locals := 218 }).room s m [.ref (ad 0)].toArray below meth c H locs 0 0 (MQ below (ct_Qx D (fun di => ww 6 ad (cellR cI ad res.2.1 kk mn md res.2.2.1 res.2.2.2.1 res.2.2.2.2.1 res.2.2.2.2.2.1 res.2.2.2.2.2.2 di)) (ww_A 6 ad) (some (.int res.1))) [.ref (ad 0)].toArray s 0 0 (ww_A 6 ad)) (F0 m 61 ls [.int w10]) := by
          intro di H locs ls hP hS hl
          refine lv_istore_n (lv' := [(2, .int w10), (0, .ref (ad 0)), (1, .int x1), (3, .int x3)]) hx hb dX5_splitting_61 rfl hl (by decide) rfl (fun ls hl => ?_)
          refine lv_iinc (v := x3 + 1) (lv' := [(3, .int (x3 + 1)), (2, .int w10), (0, .ref (ad 0)), (1, .int x1)]) hx hb dX5_splitting_62 hl (k := 3) rfl rfl (by decide) rfl (fun ls hl => ?_)
          refine lv_goto (tgt := 30) hx hb dX5_splitting_65 (by decide) ?_
          exact ih w10 (x3 + 1) _ _ _ _ hP hS (lv_sub hl [2, 3, 1, 0] rfl) hf
        refine lv_if_ne (tgt := 56) hx hb dX5_splitting_39 (by decide) (fun c11 => ?_) (fun c11 => ?_)
        · rw [if_neg c11] at gw10
          refine lv_iconst (v := 1) hx hb dX5_splitting_56 (by decide) ?_
          refine lv_goto (tgt := 61) hx hb dX5_splitting_57 (by decide) ?_
          obtain rfl := Option.some.inj gw10
          exact hJ61_w10 _ _ _ _ hP hS (lv_sub hl [0, 1, 2, 3] rfl)
        · rw [if_pos c11] at gw10
          refine lv_iload_n hx hb dX5_splitting_42 rfl (lv_at hl 1 rfl) ?_
          refine lv_aload_n hx hb dX5_splitting_43 rfl (lv_at hl 0 rfl) ?_
          refine va_get (ci := 5) (v := .ref (ad 4)) (C := RX5) (T := TX5) (N := 10) hx hb hts (fun w h => BW_in (in_wsX50 w h)) hown hK hP 0 cr_mdl rfl 6 (by decide) (hts (.fieldLink RX5 29 "NumberFieldFactorsModel" "degree" "[I") (BW_in mw_318)) (fun _ h9 => h9) rfl dX5_splitting_44 ?_
          refine lv_bipush (v := 20) hx hb dX5_splitting_47 (by decide) ?_
          refine lv_iload_n hx hb dX5_splitting_49 rfl (lv_at hl 3 rfl) ?_
          refine lv_iadd hx hb dX5_splitting_50 ?_
          by_cases b12 : (20 + x3) < 0 ∨ 25 ≤ (20 + x3).toNatClampNeg
          · rw [if_pos b12] at gw10; cases gw10
          rw [if_neg b12] at gw10
          refine va_iald hx hb hK hP 4 0 cr_dg htI b12 dX5_splitting_51 ?_
          by_cases z13 : dg (20 + x3).toNatClampNeg = 0
          · rw [if_pos z13] at gw10; cases gw10
          rw [if_neg z13] at gw10
          refine jv_irem hx hb dX5_splitting_52 z13 ?_
          obtain ⟨w14, gw14, gw10⟩ := Option.bind_eq_some_iff.mp gw10
          try dsimp only at gw10
          have hJ61_w14 : ∀ (di : Nat → Int32) (H : Heap) (locs : List Loc) (ls : Array Slot), va_P D vwCl (ww 6 ad (cellR cI ad th kk mn md rw dg kn fc oft di)) H → va_S (ww_A 6 ad) s.heap H locs → lv_has ls 4 [(0, .ref (ad 0)), (1, .int x1), (2, .int x2), (3, .int x3)] → W p l e (headSpec usX5_splitting { frames := 9, cells := 0, slots := 0, locals := 218 }).room s m [.ref (ad 0)].toArray below meth c H locs 0 0 (MQ below (ct_Qx D (fun di => ww 6 ad (cellR cI ad res.2.1 kk mn md res.2.2.1 res.2.2.2.1 res.2.2.2.2.1 res.2.2.2.2.2.1 res.2.2.2.2.2.2 di)) (ww_A 6 ad) (some (.int res.1))) [.ref (ad 0)].toArray s 0 0 (ww_A 6 ad)) (F0 m 61 ls [.int w14]) := by
            intro di H locs ls hP hS hl
            obtain rfl := Option.some.inj gw10
            exact hJ61_w10 _ _ _ _ hP hS (lv_sub hl [0, 1, 2, 3] rfl)
          refine lv_if_eq (tgt := 60) hx hb dX5_splitting_53 (by decide) (fun c15 => ?_) (fun c15 => ?_)
          · rw [if_pos c15] at gw14
            refine lv_iconst (v := 0) hx hb dX5_splitting_60 (by decide) ?_
            obtain rfl := Option.some.inj gw14
            exact hJ61_w14 _ _ _ _ hP hS (lv_sub hl [0, 1, 2, 3] rfl)
          · rw [if_neg c15] at gw14
            refine lv_iconst (v := 1) hx hb dX5_splitting_56 (by decide) ?_
            refine lv_goto (tgt := 61) hx hb dX5_splitting_57 (by decide) ?_
            obtain rfl := Option.some.inj gw14
            exact hJ61_w14 _ _ _ _ hP hS (lv_sub hl [0, 1, 2, 3] rfl)
  have L22 : ∀ (th : Int32) (rw : Nat → Int32) (dg : Nat → Int32) (kn : Int32) (fc : Int32) (oft : Nat → Int32) (k22 : Int32 → Int32 → Option (Int32 × (Int32) × (Nat → Int32) × (Nat → Int32) × (Int32) × (Int32) × (Nat → Int32))), (∀ (x1 : Int32) (x2 : Int32) (di : Nat → Int32) (H : Heap) (locs : List Loc) (ls : Array Slot), va_P D vwCl (ww 6 ad (cellR cI ad th kk mn md rw dg kn fc oft di)) H → va_S (ww_A 6 ad) s.heap H locs → lv_has ls 4 [(0, .ref (ad 0)), (1, .int x1), (2, .int x2)] →  k22 x1 x2 = some res → W p l e (headSpec usX5_splitting { frames := 9, cells := 0, slots := 0, locals := 218 }).room s m [.ref (ad 0)].toArray below meth c H locs 0 0 (MQ below (ct_Qx D (fun di => ww 6 ad (cellR cI ad res.2.1 kk mn md res.2.2.1 res.2.2.2.1 res.2.2.2.2.1 res.2.2.2.2.2.1 res.2.2.2.2.2.2 di)) (ww_A 6 ad) (some (.int res.1))) [.ref (ad 0)].toArray s 0 0 (ww_A 6 ad)) (F0 m 83 ls [])) → ∀ (n : Nat) (x1 : Int32) (x2 : Int32) (di : Nat → Int32) (H : Heap) (locs : List Loc) (ls : Array Slot), va_P D vwCl (ww 6 ad (cellR cI ad th kk mn md rw dg kn fc oft di)) H → va_S (ww_A 6 ad) s.heap H locs → lv_has ls 4 [(0, .ref (ad 0)), (1, .int x1), (2, .int x2)] →  f_X5_splitting_l22 k22 fu th kk mn md rw dg kn fc oft n x1 x2 = some res → W p l e (headSpec usX5_splitting { frames := 9, cells := 0, slots := 0, locals := 218 }).room s m [.ref (ad 0)].toArray below meth c H locs 0 0 (MQ below (ct_Qx D (fun di => ww 6 ad (cellR cI ad res.2.1 kk mn md res.2.2.1 res.2.2.2.1 res.2.2.2.2.1 res.2.2.2.2.2.1 res.2.2.2.2.2.2 di)) (ww_A 6 ad) (some (.int res.1))) [.ref (ad 0)].toArray s 0 0 (ww_A 6 ad)) (F0 m 22 ls []) := by
    intro th rw dg kn fc oft k22 hk_22 n
    induction n with
    | zero => intro x1 x2 di H locs ls hP hS hl hf; rw [f_X5_splitting_l22] at hf; cases hf
    | succ n ih =>
      intro x1 x2 di H locs ls hP hS hl hf
      rw [f_X5_splitting_l22] at hf
      refine lv_iload_n hx hb dX5_splitting_22 rfl (lv_at hl 2 rfl) ?_
      refine lv_if_eq (tgt := 83) hx hb dX5_splitting_23 (by decide) (fun c8 => ?_) (fun c8 => ?_)
      · rw [if_pos c8] at hf
        exact hk_22 x1 x2 _ _ _ _ hP hS (lv_sub hl [0, 1, 2] rfl) hf
      · rw [if_neg c8] at hf
        refine lv_iconst (v := 0) hx hb dX5_splitting_26 (by decide) ?_
        refine lv_istore_n (lv' := [(2, .int 0), (0, .ref (ad 0)), (1, .int x1)]) hx hb dX5_splitting_27 rfl hl (by decide) rfl (fun ls hl => ?_)
        refine lv_iconst (v := 0) hx hb dX5_splitting_28 (by decide) ?_
        refine lv_istore_n (lv' := [(3, .int 0), (2, .int 0), (0, .ref (ad 0)), (1, .int x1)]) hx hb dX5_splitting_29 rfl hl (by decide) rfl (fun ls hl => ?_)
        refine L30 th rw dg kn fc oft x1 _ (fun y16 y17 di H locs ls hP hS hl hf => ?_) fu 0 0 _ _ _ _ hP hS (lv_sub hl [2, 3, 1, 0] rfl) hf
        try dsimp only at hf
        refine lv_iload_n hx hb dX5_splitting_68 rfl (lv_at hl 1 rfl) ?_
        refine lv_iload_n hx hb dX5_splitting_69 rfl (lv_at hl 2 rfl) ?_
        obtain ⟨w18, gw18, hf⟩ := Option.bind_eq_some_iff.mp hf
        try dsimp only at hf
        have hJ78_w18 : ∀ (di : Nat → Int32) (H : Heap) (locs : List Loc) (ls : Array Slot), va_P D vwCl (ww 6 ad (cellR cI ad th kk mn md rw dg kn fc oft di)) H → va_S (ww_A 6 ad) s.heap H locs → lv_has ls 4 [(0, .ref (ad 0)), (1, .int x1), (2, .int y16), (3, .int y17)] → W p l e (headSpec usX5_splitting { frames := 9, cells := 0, slots := 0, locals := 218 }).room s m [.ref (ad 0)].toArray below meth c H locs 0 0 (MQ below (ct_Qx D (fun di => ww 6 ad (cellR cI ad res.2.1 kk mn md res.2.2.1 res.2.2.2.1 res.2.2.2.2.1 res.2.2.2.2.2.1 res.2.2.2.2.2.2 di)) (ww_A 6 ad) (some (.int res.1))) [.ref (ad 0)].toArray s 0 0 (ww_A 6 ad)) (F0 m 78 ls [.int w18, .int x1]) := by
          intro di H locs ls hP hS hl
          refine lv_iadd hx hb dX5_splitting_78 ?_
          obtain ⟨v20, ev20, hf⟩ := nm_elim hf
          try dsimp only at hf
          refine tp_I ev20 ?_
          refine lv_istore_n (lv' := [(1, .int v20), (0, .ref (ad 0)), (2, .int y16), (3, .int y17)]) hx hb dX5_splitting_79 rfl hl (by decide) rfl (fun ls hl => ?_)
          refine lv_goto (tgt := 22) hx hb dX5_splitting_80 (by decide) ?_
          exact ih v20 y16 _ _ _ _ hP hS (lv_sub hl [1, 0, 2] rfl) hf
        refine lv_if_eq (tgt := 77) hx hb dX5_splitting_70 (by decide) (fun c19 => ?_) (fun c19 => ?_)
        · rw [if_pos c19] at gw18
          refine lv_iconst (v := 0) hx hb dX5_splitting_77 (by decide) ?_
          obtain rfl := Option.some.inj gw18
          exact hJ78_w18 _ _ _ _ hP hS (lv_sub hl [0, 1, 2, 3] rfl)
        · rw [if_neg c19] at gw18
          refine lv_iconst (v := 1) hx hb dX5_splitting_73 (by decide) ?_
          refine lv_goto (tgt := 78) hx hb dX5_splitting_74 (by decide) ?_
          obtain rfl := Option.some.inj gw18
          exact hJ78_w18 _ _ _ _ hP hS (lv_sub hl [0, 1, 2, 3] rfl)
  unfold f_X5_splitting at hf
  refine lv_aload_n hx hb dX5_splitting_0 rfl (lv_at hl 0 rfl) ?_
  refine lv_aload_n hx hb dX5_splitting_1 rfl (lv_at hl 0 rfl) ?_
  obtain ⟨u1, g2, hf⟩ := Option.bind_eq_some_iff.mp hf
  try dsimp only at hf
  refine ct_callx (va_runV (As := []) (rest := [.ref (ad 0)]) ⟨hx, hb, hml, hown, hts⟩ (C_X5_isNothing l D tys hj htI (res := u1) g2) (cwV 0 hts (gu_V mw_455 mw_456 mw_457 mw_330 mw_454) rfl rfl rfl (by decide +kernel) ⟨Nat.le_of_ble_eq_true rfl, Nat.le_of_ble_eq_true rfl⟩) (ct_preVx (w := fun di => ww 6 ad (cellR cI ad th kk mn md rw dg kn fc oft di)) hP hK (ci := 5) (k := 0) rfl cr_mdl) rfl rfl hl.1 rfl (lv_room (Nat.le_of_ble_eq_true rfl)) dX5_splitting_2 ⟨Nat.zero_le _, Nat.zero_le _⟩) hS (fun di H locs hP hS => ?_)
  refine lv_iconst (v := 0) hx hb dX5_splitting_5 (by decide) ?_
  obtain ⟨u3, g4, hf⟩ := Option.bind_eq_some_iff.mp hf
  try dsimp only at hf
  refine ct_callx (va_runV (As := [.int u1, .int 0]) (rest := []) ⟨hx, hb, hml, hown, hts⟩ (C_X5_fails l D tys hj htI (res := u3) g4) (cwV 2 hts (gu_V mw_356 mw_357 mw_358 mw_330 mw_322) rfl rfl rfl (by decide +kernel) ⟨Nat.le_of_ble_eq_true rfl, Nat.le_of_ble_eq_true rfl⟩) (ct_preVx (w := fun di => ww 6 ad (cellR cI ad th kk mn md rw dg kn fc oft di)) hP hK (ci := 5) (k := 0) rfl cr_mdl) rfl rfl hl.1 rfl (lv_room (Nat.le_of_ble_eq_true rfl)) dX5_splitting_6 ⟨Nat.zero_le _, Nat.zero_le _⟩) hS (fun di H locs hP hS => ?_)
  refine lv_if_eq (tgt := 14) hx hb dX5_splitting_9 (by decide) (fun c5 => ?_) (fun c5 => ?_)
  · rw [if_pos c5] at hf
    refine lv_aload_n hx hb dX5_splitting_14 rfl (lv_at hl 0 rfl) ?_
    obtain ⟨u6, g7, hf⟩ := Option.bind_eq_some_iff.mp hf
    try dsimp only at hf
    refine ct_callx (va_runV (As := []) (rest := []) ⟨hx, hb, hml, hown, hts⟩ (C_X5_factorise l D tys hj htI (res := u6) g7) (cwV 0 hts (gu_V mw_462 mw_463 mw_464 mw_330 mw_453) rfl rfl rfl (by decide +kernel) ⟨Nat.le_of_ble_eq_true rfl, Nat.le_of_ble_eq_true rfl⟩) (ct_preVx (w := fun di => ww 6 ad (cellR cI ad u3.2 kk mn md rw dg kn fc oft di)) hP hK (ci := 5) (k := 0) rfl cr_mdl) rfl rfl hl.1 rfl (lv_room (Nat.le_of_ble_eq_true rfl)) dX5_splitting_15 ⟨Nat.zero_le _, Nat.zero_le _⟩) hS (fun di H locs hP hS => ?_)
    refine lv_iconst (v := 1) hx hb dX5_splitting_18 (by decide) ?_
    refine lv_istore_n (lv' := [(1, .int 1), (0, .ref (ad 0))]) hx hb dX5_splitting_19 rfl hl (by decide) rfl (fun ls hl => ?_)
    refine lv_iconst (v := 1) hx hb dX5_splitting_20 (by decide) ?_
    refine lv_istore_n (lv' := [(2, .int 1), (1, .int 1), (0, .ref (ad 0))]) hx hb dX5_splitting_21 rfl hl (by decide) rfl (fun ls hl => ?_)
    refine L22 u3.2 u6.1 u6.2.1 u6.2.2.1 u6.2.2.2.1 u6.2.2.2.2 _ (fun y21 y22 di H locs ls hP hS hl hf => ?_) fu 1 1 _ _ _ _ hP hS (lv_sub hl [2, 1, 0] rfl) hf
    try dsimp only at hf
    refine lv_iload_n hx hb dX5_splitting_83 rfl (lv_at hl 1 rfl) ?_
    obtain rfl := Option.some.inj hf
    exact W.iret (v := y21) hx hb hr (fun t ht hW => ⟨rfl, ⟨di, by rw [ht]; exact hP⟩, hS.F ht⟩) hS.2.2 dX5_splitting_84
  · rw [if_neg c5] at hf
    refine lv_iconst (v := 0) hx hb dX5_splitting_12 (by decide) ?_
    obtain rfl := Option.some.inj hf
    exact W.iret (v := 0) hx hb hr (fun t ht hW => ⟨rfl, ⟨di, by rw [ht]; exact hP⟩, hS.F ht⟩) hS.2.2 dX5_splitting_13
def f_X5_move (fu : Nat) (th : Int32) (kk : Int32) (mn : Int64) (md : Nat → Int32) (rw : Nat → Int32) (dg : Nat → Int32) (kn : Int32) (p0 : Int32) : Option ((Int32) × (Nat → Int32) × (Nat → Int32) × (Int32)) :=
  (f_X5_isElement mn p0).bind (fun u1 =>
  ((
    if u1 = 0 then
      some 1
    else
      some 0 : Option (Int32))).bind (fun w3 =>
  (f_X5_fails th w3 0).bind (fun u5 =>
  if u5.1 = 0 then
    (f_X5_moved fu kk md rw dg 0 p0 2).bind (fun u8 =>
    (f_X5_copy fu u8.1 u8.2 2 0).bind (fun u10 =>
    some (u5.2, u10.1, u10.2, 0)))
  else
    some (u5.2, rw, dg, kn))))
set_option maxHeartbeats 4000000 in
set_option maxRecDepth 100000 in
theorem C_X5_move (l : Launch) (D : va_G) (tys : List (ClassId × FieldType)) {ad : Nat → Nat} (hj : ww_inj 6 ad) {cI : ClassId} (htI : tys[0]? = some (cI, .int)) {fu : Nat} {th : Int32} {kk : Int32} {mn : Int64} {md : Nat → Int32} {rw : Nat → Int32} {dg : Nat → Int32} {kn : Int32} {fc : Int32} {oft : Nat → Int32} {p0 : Int32} {res : (Int32) × (Nat → Int32) × (Nat → Int32) × (Int32)} (hf : f_X5_move fu th kk mn md rw dg kn p0 = some res) :
    Met l yX5_move usX5_move ({ frames := 3, cells := 0, slots := 0, locals := 71 }) (va_Pc [.ref (ad 0), .int p0] (ws_Bx D tys (fun di => ww 6 ad (cellR cI ad th kk mn md rw dg kn fc oft di)))) (ct_Qx D (fun di => ww 6 ad (cellR cI ad res.1 kk mn md res.2.1 res.2.2.1 res.2.2.2 fc oft di)) (ww_A 6 ad) (none)) 0 0 (ww_A 6 ad) := by
  refine Met.ofW (cc := cX5_move) (maxL := 2) (ret := none) (by decide) rfl ?_
  intro p e s m args below meth c s₁ B hml hv
  obtain ⟨rfl, ⟨di, hP⟩, hK⟩ := hv
  have hx := B.exec
  have hb := B.bytes
  have hr := B.returns
  have hts := atoms_spec (ws := usX5_move) B.pre
  have hown : s.vm.findClass RX5 = some m.cls := findClass_of_methodNamed B.named
  have hlocks := B.notSynchronized
  have hS : va_S (ww_A 6 ad) s.heap s.heap [] := va_S.rf
  have hl := lv_entry ([.ref (ad 0), .int p0]) (n := 2) (Nat.le_of_ble_eq_true rfl)
  rw [lg_entry_eq]
  generalize (lg_sl ([.ref (ad 0), .int p0]) ++ List.replicate (2 - (lg_sl ([.ref (ad 0), .int p0])).length) Slot.unset).toArray = ls at hl ⊢
  have hl : lv_has ls 2 [(0, .ref (ad 0)), (1, .int p0)] := hl
  unfold f_X5_move at hf
  refine lv_aload_n hx hb dX5_move_0 rfl (lv_at hl 0 rfl) ?_
  refine lv_aload_n hx hb dX5_move_1 rfl (lv_at hl 0 rfl) ?_
  refine lv_iload_n hx hb dX5_move_2 rfl (lv_at hl 1 rfl) ?_
  obtain ⟨u1, g2, hf⟩ := Option.bind_eq_some_iff.mp hf
  try dsimp only at hf
  refine ct_callx (va_runV (As := [.int p0]) (rest := [.ref (ad 0)]) ⟨hx, hb, hml, hown, hts⟩ (C_X5_isElement l D tys hj htI (res := u1) g2) (cwV 1 hts (gu_V mw_403 mw_404 mw_405 mw_330 mw_323) rfl rfl rfl (by decide +kernel) ⟨Nat.le_of_ble_eq_true rfl, Nat.le_of_ble_eq_true rfl⟩) (ct_preVx (w := fun di => ww 6 ad (cellR cI ad th kk mn md rw dg kn fc oft di)) hP hK (ci := 5) (k := 0) rfl cr_mdl) rfl rfl hl.1 rfl (lv_room (Nat.le_of_ble_eq_true rfl)) dX5_move_3 ⟨Nat.zero_le _, Nat.zero_le _⟩) hS (fun di H locs hP hS => ?_)
  obtain ⟨w3, gw3, hf⟩ := Option.bind_eq_some_iff.mp hf
  try dsimp only at hf
  have hJ14_w3 : ∀ (di : Nat → Int32) (H : Heap) (locs : List Loc) (ls : Array Slot), va_P D vwCl (ww 6 ad (cellR cI ad th kk mn md rw dg kn fc oft di)) H → va_S (ww_A 6 ad) s.heap H locs → lv_has ls 2 [(0, .ref (ad 0)), (1, .int p0)] → W p l e (headSpec usX5_move { frames := 3, cells := 0, slots := 0, locals := 71 }).room s m [.ref (ad 0), .int p0].toArray below meth c H locs 0 0 (MQ below (ct_Qx D (fun di => ww 6 ad (cellR cI ad res.1 kk mn md res.2.1 res.2.2.1 res.2.2.2 fc oft di)) (ww_A 6 ad) (none)) [.ref (ad 0), .int p0].toArray s 0 0 (ww_A 6 ad)) (F0 m 14 ls [.int w3, .ref (ad 0)]) := by
    intro di H locs ls hP hS hl
    refine lv_iconst (v := 0) hx hb dX5_move_14 (by decide) ?_
    obtain ⟨u5, g6, hf⟩ := Option.bind_eq_some_iff.mp hf
    try dsimp only at hf
    refine ct_callx (va_runV (As := [.int w3, .int 0]) (rest := []) ⟨hx, hb, hml, hown, hts⟩ (C_X5_fails l D tys hj htI (res := u5) g6) (cwV 2 hts (gu_V mw_356 mw_357 mw_358 mw_330 mw_322) rfl rfl rfl (by decide +kernel) ⟨Nat.le_of_ble_eq_true rfl, Nat.le_of_ble_eq_true rfl⟩) (ct_preVx (w := fun di => ww 6 ad (cellR cI ad th kk mn md rw dg kn fc oft di)) hP hK (ci := 5) (k := 0) rfl cr_mdl) rfl rfl hl.1 rfl (lv_room (Nat.le_of_ble_eq_true rfl)) dX5_move_15 ⟨Nat.zero_le _, Nat.zero_le _⟩) hS (fun di H locs hP hS => ?_)
    refine lv_if_eq (tgt := 22) hx hb dX5_move_18 (by decide) (fun c7 => ?_) (fun c7 => ?_)
    · rw [if_pos c7] at hf
      refine lv_aload_n hx hb dX5_move_22 rfl (lv_at hl 0 rfl) ?_
      refine lv_iconst (v := 0) hx hb dX5_move_23 (by decide) ?_
      refine lv_iload_n hx hb dX5_move_24 rfl (lv_at hl 1 rfl) ?_
      refine lv_iconst (v := 2) hx hb dX5_move_25 (by decide) ?_
      obtain ⟨u8, g9, hf⟩ := Option.bind_eq_some_iff.mp hf
      try dsimp only at hf
      refine ct_callx (va_runV (As := [.int 0, .int p0, .int 2]) (rest := []) ⟨hx, hb, hml, hown, hts⟩ (C_X5_moved l D tys hj htI (res := u8) g9) (cwV 3 hts (gu_V mw_458 mw_459 mw_460 mw_330 mw_397) rfl rfl rfl (by decide +kernel) ⟨Nat.le_of_ble_eq_true rfl, Nat.le_of_ble_eq_true rfl⟩) (ct_preVx (w := fun di => ww 6 ad (cellR cI ad u5.2 kk mn md rw dg kn fc oft di)) hP hK (ci := 5) (k := 0) rfl cr_mdl) rfl rfl hl.1 rfl (lv_room (Nat.le_of_ble_eq_true rfl)) dX5_move_26 ⟨Nat.zero_le _, Nat.zero_le _⟩) hS (fun di H locs hP hS => ?_)
      refine lv_aload_n hx hb dX5_move_29 rfl (lv_at hl 0 rfl) ?_
      refine lv_iconst (v := 2) hx hb dX5_move_30 (by decide) ?_
      refine lv_iconst (v := 0) hx hb dX5_move_31 (by decide) ?_
      obtain ⟨u10, g11, hf⟩ := Option.bind_eq_some_iff.mp hf
      try dsimp only at hf
      refine ct_callx (va_runV (As := [.int 2, .int 0]) (rest := []) ⟨hx, hb, hml, hown, hts⟩ (C_X5_copy l D tys hj htI (res := u10) g11) (cwV 2 hts (gu_V mw_385 mw_386 mw_387 mw_330 mw_365) rfl rfl rfl (by decide +kernel) ⟨Nat.le_of_ble_eq_true rfl, Nat.le_of_ble_eq_true rfl⟩) (ct_preVx (w := fun di => ww 6 ad (cellR cI ad u5.2 kk mn md u8.1 u8.2 kn fc oft di)) hP hK (ci := 5) (k := 0) rfl cr_mdl) rfl rfl hl.1 rfl (lv_room (Nat.le_of_ble_eq_true rfl)) dX5_move_32 ⟨Nat.zero_le _, Nat.zero_le _⟩) hS (fun di H locs hP hS => ?_)
      refine lv_aload_n hx hb dX5_move_35 rfl (lv_at hl 0 rfl) ?_
      refine lv_iconst (v := 0) hx hb dX5_move_36 (by decide) ?_
      refine va_put (ci := 5) (v := .int 0) (ty := .boolean) (C := RX5) (T := TX5) (N := 10) hx hb hts (fun w h => BW_in (in_wsX50 w h)) tyX5 tyX5_ok nmX5 hown hK hP (ww_D hj) hS 0 cr_mdl rfl 7 (by decide) (hts (.fieldLink RX5 77 "NumberFieldFactorsModel" "known" "Z") (BW_in mw_355)) (fun _ h9 => h9) rfl (by decide +kernel) (by decide) rfl (Nat.le_of_ble_eq_true rfl) dX5_move_37 (fun H locs hP hD hS => ?_)
      have hP := cs_kn hP
      obtain rfl := Option.some.inj hf
      exact W.vret hx hb hr (fun t ht hW => ⟨rfl, ⟨di, by rw [ht]; exact hP⟩, hS.F ht⟩) hS.2.2 dX5_move_40
    · rw [if_neg c7] at hf
      obtain rfl := Option.some.inj hf
      exact W.vret hx hb hr (fun t ht hW => ⟨rfl, ⟨di, by rw [ht]; exact hP⟩, hS.F ht⟩) hS.2.2 dX5_move_21
  refine lv_if_ne (tgt := 13) hx hb dX5_move_6 (by decide) (fun c4 => ?_) (fun c4 => ?_)
  · rw [if_neg c4] at gw3
    refine lv_iconst (v := 0) hx hb dX5_move_13 (by decide) ?_
    obtain rfl := Option.some.inj gw3
    exact hJ14_w3 _ _ _ _ hP hS (lv_sub hl [0, 1] rfl)
  · rw [if_pos c4] at gw3
    refine lv_iconst (v := 1) hx hb dX5_move_9 (by decide) ?_
    refine lv_goto (tgt := 14) hx hb dX5_move_10 (by decide) ?_
    obtain rfl := Option.some.inj gw3
    exact hJ14_w3 _ _ _ _ hP hS (lv_sub hl [0, 1] rfl)
def f_X5_take (fu : Nat) (th : Int32) (kk : Int32) (mn : Int64) (md : Nat → Int32) (rw : Nat → Int32) (dg : Nat → Int32) (kn : Int32) (fc : Int32) (oft : Nat → Int32) (p0 : Int32) : Option ((Int32) × (Nat → Int32) × (Nat → Int32) × (Int32) × (Int32) × (Nat → Int32)) :=
  (f_X5_isNothing dg).bind (fun u1 =>
  (f_X5_lacks fu kk mn md rw dg kn fc oft p0).bind (fun u3 =>
  (f_X5_fails th u1 u3.1).bind (fun u5 =>
  if u5.1 = 0 then
    (f_X5_copy fu u3.2.1 u3.2.2.1 (20 + p0) 0).bind (fun u8 =>
    some (u5.2, u8.1, u8.2, 0, u3.2.2.2.2.1, u3.2.2.2.2.2))
  else
    some (u5.2, u3.2.1, u3.2.2.1, u3.2.2.2.1, u3.2.2.2.2.1, u3.2.2.2.2.2))))
set_option maxHeartbeats 4000000 in
set_option maxRecDepth 100000 in
theorem C_X5_take (l : Launch) (D : va_G) (tys : List (ClassId × FieldType)) {ad : Nat → Nat} (hj : ww_inj 6 ad) {cI : ClassId} (htI : tys[0]? = some (cI, .int)) {fu : Nat} {th : Int32} {kk : Int32} {mn : Int64} {md : Nat → Int32} {rw : Nat → Int32} {dg : Nat → Int32} {kn : Int32} {fc : Int32} {oft : Nat → Int32} {p0 : Int32} {res : (Int32) × (Nat → Int32) × (Nat → Int32) × (Int32) × (Int32) × (Nat → Int32)} (hf : f_X5_take fu th kk mn md rw dg kn fc oft p0 = some res) :
    Met l yX5_take usX5_take ({ frames := 10, cells := 0, slots := 0, locals := 239 }) (va_Pc [.ref (ad 0), .int p0] (ws_Bx D tys (fun di => ww 6 ad (cellR cI ad th kk mn md rw dg kn fc oft di)))) (ct_Qx D (fun di => ww 6 ad (cellR cI ad res.1 kk mn md res.2.1 res.2.2.1 res.2.2.2.1 res.2.2.2.2.1 res.2.2.2.2.2 di)) (ww_A 6 ad) (none)) 0 0 (ww_A 6 ad) := by
  refine Met.ofW (cc := cX5_take) (maxL := 2) (ret := none) (by decide) rfl ?_
  intro p e s m args below meth c s₁ B hml hv
  obtain ⟨rfl, ⟨di, hP⟩, hK⟩ := hv
  have hx := B.exec
  have hb := B.bytes
  have hr := B.returns
  have hts := atoms_spec (ws := usX5_take) B.pre
  have hown : s.vm.findClass RX5 = some m.cls := findClass_of_methodNamed B.named
  have hlocks := B.notSynchronized
  have hS : va_S (ww_A 6 ad) s.heap s.heap [] := va_S.rf
  have hl := lv_entry ([.ref (ad 0), .int p0]) (n := 2) (Nat.le_of_ble_eq_true rfl)
  rw [lg_entry_eq]
  generalize (lg_sl ([.ref (ad 0), .int p0]) ++ List.replicate (2 - (lg_sl ([.ref (ad 0), .int p0])).length) Slot.unset).toArray = ls at hl ⊢
  have hl : lv_has ls 2 [(0, .ref (ad 0)), (1, .int p0)] := hl
  unfold f_X5_take at hf
  refine lv_aload_n hx hb dX5_take_0 rfl (lv_at hl 0 rfl) ?_
  refine lv_aload_n hx hb dX5_take_1 rfl (lv_at hl 0 rfl) ?_
  obtain ⟨u1, g2, hf⟩ := Option.bind_eq_some_iff.mp hf
  try dsimp only at hf
  refine ct_callx (va_runV (As := []) (rest := [.ref (ad 0)]) ⟨hx, hb, hml, hown, hts⟩ (C_X5_isNothing l D tys hj htI (res := u1) g2) (cwV 0 hts (gu_V mw_455 mw_456 mw_457 mw_330 mw_454) rfl rfl rfl (by decide +kernel) ⟨Nat.le_of_ble_eq_true rfl, Nat.le_of_ble_eq_true rfl⟩) (ct_preVx (w := fun di => ww 6 ad (cellR cI ad th kk mn md rw dg kn fc oft di)) hP hK (ci := 5) (k := 0) rfl cr_mdl) rfl rfl hl.1 rfl (lv_room (Nat.le_of_ble_eq_true rfl)) dX5_take_2 ⟨Nat.zero_le _, Nat.zero_le _⟩) hS (fun di H locs hP hS => ?_)
  refine lv_aload_n hx hb dX5_take_5 rfl (lv_at hl 0 rfl) ?_
  refine lv_iload_n hx hb dX5_take_6 rfl (lv_at hl 1 rfl) ?_
  obtain ⟨u3, g4, hf⟩ := Option.bind_eq_some_iff.mp hf
  try dsimp only at hf
  refine ct_callx (va_runV (As := [.int p0]) (rest := [.int u1, .ref (ad 0)]) ⟨hx, hb, hml, hown, hts⟩ (C_X5_lacks l D tys hj htI (res := u3) g4) (cwV 1 hts (gu_V mw_467 mw_468 mw_469 mw_330 mw_466) rfl rfl rfl (by decide +kernel) ⟨Nat.le_of_ble_eq_true rfl, Nat.le_of_ble_eq_true rfl⟩) (ct_preVx (w := fun di => ww 6 ad (cellR cI ad th kk mn md rw dg kn fc oft di)) hP hK (ci := 5) (k := 0) rfl cr_mdl) rfl rfl hl.1 rfl (lv_room (Nat.le_of_ble_eq_true rfl)) dX5_take_7 ⟨Nat.zero_le _, Nat.zero_le _⟩) hS (fun di H locs hP hS => ?_)
  obtain ⟨u5, g6, hf⟩ := Option.bind_eq_some_iff.mp hf
  try dsimp only at hf
  refine ct_callx (va_runV (As := [.int u1, .int u3.1]) (rest := []) ⟨hx, hb, hml, hown, hts⟩ (C_X5_fails l D tys hj htI (res := u5) g6) (cwV 2 hts (gu_V mw_356 mw_357 mw_358 mw_330 mw_322) rfl rfl rfl (by decide +kernel) ⟨Nat.le_of_ble_eq_true rfl, Nat.le_of_ble_eq_true rfl⟩) (ct_preVx (w := fun di => ww 6 ad (cellR cI ad th kk mn md u3.2.1 u3.2.2.1 u3.2.2.2.1 u3.2.2.2.2.1 u3.2.2.2.2.2 di)) hP hK (ci := 5) (k := 0) rfl cr_mdl) rfl rfl hl.1 rfl (lv_room (Nat.le_of_ble_eq_true rfl)) dX5_take_10 ⟨Nat.zero_le _, Nat.zero_le _⟩) hS (fun di H locs hP hS => ?_)
  refine lv_if_eq (tgt := 17) hx hb dX5_take_13 (by decide) (fun c7 => ?_) (fun c7 => ?_)
  · rw [if_pos c7] at hf
    refine lv_aload_n hx hb dX5_take_17 rfl (lv_at hl 0 rfl) ?_
    refine lv_bipush (v := 20) hx hb dX5_take_18 (by decide) ?_
    refine lv_iload_n hx hb dX5_take_20 rfl (lv_at hl 1 rfl) ?_
    refine lv_iadd hx hb dX5_take_21 ?_
    refine lv_iconst (v := 0) hx hb dX5_take_22 (by decide) ?_
    obtain ⟨u8, g9, hf⟩ := Option.bind_eq_some_iff.mp hf
    try dsimp only at hf
    refine ct_callx (va_runV (As := [.int (20 + p0), .int 0]) (rest := []) ⟨hx, hb, hml, hown, hts⟩ (C_X5_copy l D tys hj htI (res := u8) g9) (cwV 2 hts (gu_V mw_385 mw_386 mw_387 mw_330 mw_365) rfl rfl rfl (by decide +kernel) ⟨Nat.le_of_ble_eq_true rfl, Nat.le_of_ble_eq_true rfl⟩) (ct_preVx (w := fun di => ww 6 ad (cellR cI ad u5.2 kk mn md u3.2.1 u3.2.2.1 u3.2.2.2.1 u3.2.2.2.2.1 u3.2.2.2.2.2 di)) hP hK (ci := 5) (k := 0) rfl cr_mdl) rfl rfl hl.1 rfl (lv_room (Nat.le_of_ble_eq_true rfl)) dX5_take_23 ⟨Nat.zero_le _, Nat.zero_le _⟩) hS (fun di H locs hP hS => ?_)
    refine lv_aload_n hx hb dX5_take_26 rfl (lv_at hl 0 rfl) ?_
    refine lv_iconst (v := 0) hx hb dX5_take_27 (by decide) ?_
    refine va_put (ci := 5) (v := .int 0) (ty := .boolean) (C := RX5) (T := TX5) (N := 10) hx hb hts (fun w h => BW_in (in_wsX50 w h)) tyX5 tyX5_ok nmX5 hown hK hP (ww_D hj) hS 0 cr_mdl rfl 7 (by decide) (hts (.fieldLink RX5 77 "NumberFieldFactorsModel" "known" "Z") (BW_in mw_355)) (fun _ h9 => h9) rfl (by decide +kernel) (by decide) rfl (Nat.le_of_ble_eq_true rfl) dX5_take_28 (fun H locs hP hD hS => ?_)
    have hP := cs_kn hP
    obtain rfl := Option.some.inj hf
    exact W.vret hx hb hr (fun t ht hW => ⟨rfl, ⟨di, by rw [ht]; exact hP⟩, hS.F ht⟩) hS.2.2 dX5_take_31
  · rw [if_neg c7] at hf
    obtain rfl := Option.some.inj hf
    exact W.vret hx hb hr (fun t ht hW => ⟨rfl, ⟨di, by rw [ht]; exact hP⟩, hS.F ht⟩) hS.2.2 dX5_take_16
