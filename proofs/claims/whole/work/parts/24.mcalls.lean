def f_X5_reckon (fu : Nat) (th : Int32) (kk : Int32) (mn : Int64) (md : Nat → Int32) (p0 : Int32) (p1 : Int32) (p2 : Int32) : Option (Int32 × (Int32)) :=
  (f_X5_isElement mn p1).bind (fun u1 =>
  ((
    if u1 = 0 then
      some 0
    else
      (f_X5_isElement mn p2).bind (fun u5 =>
      ((
        if u5 = 0 then
          some 0
        else
          ((
            if p0 < 0 then
              some 0
            else
              ((
                if 3 < p0 then
                  some 0
                else
                  some 1 : Option (Int32))).bind (fun w11 =>
              some w11) : Option (Int32))).bind (fun w9 =>
          some w9) : Option (Int32))).bind (fun w7 =>
      some w7)) : Option (Int32))).bind (fun w3 =>
  ((
    if w3 = 0 then
      some 1
    else
      some 0 : Option (Int32))).bind (fun w13 =>
  ((
    if p0 = 3 then
      ((
        if p2 = 0 then
          some 1
        else
          some 0 : Option (Int32))).bind (fun w17 =>
      some w17)
    else
      some 0 : Option (Int32))).bind (fun w15 =>
  (f_X5_fails th w13 w15).bind (fun u19 =>
  if u19.1 = 0 then
    if p0 = 0 then
      (f_X5_add p1 p2).bind (fun u32 =>
      some (u32, u19.2))
    else
      if p0 = 1 then
        (f_X5_less p1 p2).bind (fun u30 =>
        some (u30, u19.2))
      else
        ((
          if p0 = 2 then
            some p2
          else
            (f_X5_inverse fu kk mn md p2).bind (fun u26 =>
            some u26) : Option (Int32))).bind (fun w24 =>
        (f_X5_times fu kk md p1 w24).bind (fun u28 =>
        some (u28, u19.2)))
  else
    some (0, u19.2))))))
set_option maxHeartbeats 4000000 in
set_option maxRecDepth 100000 in
theorem C_X5_reckon (l : Launch) (D : va_G) (tys : List (ClassId × FieldType)) {ad : Nat → Nat} (hj : ww_inj 6 ad) {cI : ClassId} (htI : tys[0]? = some (cI, .int)) {fu : Nat} {th : Int32} {kk : Int32} {mn : Int64} {md : Nat → Int32} {rw : Nat → Int32} {dg : Nat → Int32} {kn : Int32} {fc : Int32} {oft : Nat → Int32} {p0 : Int32} {p1 : Int32} {p2 : Int32} {res : Int32 × (Int32)} (hf : f_X5_reckon fu th kk mn md p0 p1 p2 = some res) :
    Met l yX5_reckon usX5_reckon ({ frames := 4, cells := 0, slots := 0, locals := 94 }) (va_Pc [.ref (ad 0), .int p0, .int p1, .int p2] (ws_Bx D tys (fun di => ww 6 ad (cellR cI ad th kk mn md rw dg kn fc oft di)))) (ct_Qx D (fun di => ww 6 ad (cellR cI ad res.2 kk mn md rw dg kn fc oft di)) (ww_A 6 ad) (some (.int res.1))) 0 0 (ww_A 6 ad) := by
  refine Met.ofW (cc := cX5_reckon) (maxL := 5) (ret := (some .int)) (by decide) rfl ?_
  intro p e s m args below meth c s₁ B hml hv
  obtain ⟨rfl, ⟨di, hP⟩, hK⟩ := hv
  have hx := B.exec
  have hb := B.bytes
  have hr := B.returns
  have hts := atoms_spec (ws := usX5_reckon) B.pre
  have hown : s.vm.findClass RX5 = some m.cls := findClass_of_methodNamed B.named
  have hlocks := B.notSynchronized
  have hS : va_S (ww_A 6 ad) s.heap s.heap [] := va_S.rf
  have hl := lv_entry ([.ref (ad 0), .int p0, .int p1, .int p2]) (n := 5) (Nat.le_of_ble_eq_true rfl)
  rw [lg_entry_eq]
  generalize (lg_sl ([.ref (ad 0), .int p0, .int p1, .int p2]) ++ List.replicate (5 - (lg_sl ([.ref (ad 0), .int p0, .int p1, .int p2])).length) Slot.unset).toArray = ls at hl ⊢
  have hl : lv_has ls 5 [(0, .ref (ad 0)), (1, .int p0), (2, .int p1), (3, .int p2)] := hl
  unfold f_X5_reckon at hf
  refine lv_aload_n hx hb dX5_reckon_0 rfl (lv_at hl 0 rfl) ?_
  refine lv_iload_n hx hb dX5_reckon_1 rfl (lv_at hl 2 rfl) ?_
  obtain ⟨u1, g2, hf⟩ := Option.bind_eq_some_iff.mp hf
  try dsimp only at hf
  refine ct_callx (va_runV (As := [.int p1]) (rest := []) ⟨hx, hb, hml, hown, hts⟩ (C_X5_isElement l D tys hj htI (res := u1) g2) (cwV 1 hts (gu_V mw_403 mw_404 mw_405 mw_330 mw_323) rfl rfl rfl (by decide +kernel) ⟨Nat.le_of_ble_eq_true rfl, Nat.le_of_ble_eq_true rfl⟩) (ct_preVx (w := fun di => ww 6 ad (cellR cI ad th kk mn md rw dg kn fc oft di)) hP hK (ci := 5) (k := 0) rfl cr_mdl) rfl rfl hl.1 rfl (lv_room (Nat.le_of_ble_eq_true rfl)) dX5_reckon_2 ⟨Nat.zero_le _, Nat.zero_le _⟩) hS (fun di H locs hP hS => ?_)
  obtain ⟨w3, gw3, hf⟩ := Option.bind_eq_some_iff.mp hf
  try dsimp only at hf
  have hJ30_w3 : ∀ (di : Nat → Int32) (H : Heap) (locs : List Loc) (ls : Array Slot), va_P D vwCl (ww 6 ad (cellR cI ad th kk mn md rw dg kn fc oft di)) H → va_S (ww_A 6 ad) s.heap H locs → lv_has ls 5 [(0, .ref (ad 0)), (1, .int p0), (2, .int p1), (3, .int p2)] → W p l e (headSpec usX5_reckon { frames := 4, cells := 0, slots := 0, locals := 94 }).room s m [.ref (ad 0), .int p0, .int p1, .int p2].toArray below meth c H locs 0 0 (MQ below (ct_Qx D (fun di => ww 6 ad (cellR cI ad res.2 kk mn md rw dg kn fc oft di)) (ww_A 6 ad) (some (.int res.1))) [.ref (ad 0), .int p0, .int p1, .int p2].toArray s 0 0 (ww_A 6 ad)) (F0 m 30 ls [.int w3]) := by
    intro di H locs ls hP hS hl
    refine lv_istore (lv' := [(4, .int w3), (0, .ref (ad 0)), (1, .int p0), (2, .int p1), (3, .int p2)]) hx hb dX5_reckon_30 hl (by decide) rfl (fun ls hl => ?_)
    refine lv_aload_n hx hb dX5_reckon_32 rfl (lv_at hl 1 rfl) ?_
    refine lv_iload hx hb dX5_reckon_33 (lv_at hl 0 rfl) ?_
    obtain ⟨w13, gw13, hf⟩ := Option.bind_eq_some_iff.mp hf
    try dsimp only at hf
    have hJ43_w13 : ∀ (di : Nat → Int32) (H : Heap) (locs : List Loc) (ls : Array Slot), va_P D vwCl (ww 6 ad (cellR cI ad th kk mn md rw dg kn fc oft di)) H → va_S (ww_A 6 ad) s.heap H locs → lv_has ls 5 [(0, .ref (ad 0)), (1, .int p0), (2, .int p1), (3, .int p2), (4, .int w3)] → W p l e (headSpec usX5_reckon { frames := 4, cells := 0, slots := 0, locals := 94 }).room s m [.ref (ad 0), .int p0, .int p1, .int p2].toArray below meth c H locs 0 0 (MQ below (ct_Qx D (fun di => ww 6 ad (cellR cI ad res.2 kk mn md rw dg kn fc oft di)) (ww_A 6 ad) (some (.int res.1))) [.ref (ad 0), .int p0, .int p1, .int p2].toArray s 0 0 (ww_A 6 ad)) (F0 m 43 ls [.int w13, .ref (ad 0)]) := by
      intro di H locs ls hP hS hl
      refine lv_iload_n hx hb dX5_reckon_43 rfl (lv_at hl 1 rfl) ?_
      refine lv_iconst (v := 3) hx hb dX5_reckon_44 (by decide) ?_
      obtain ⟨w15, gw15, hf⟩ := Option.bind_eq_some_iff.mp hf
      try dsimp only at hf
      have hJ57_w15 : ∀ (di : Nat → Int32) (H : Heap) (locs : List Loc) (ls : Array Slot), va_P D vwCl (ww 6 ad (cellR cI ad th kk mn md rw dg kn fc oft di)) H → va_S (ww_A 6 ad) s.heap H locs → lv_has ls 5 [(0, .ref (ad 0)), (1, .int p0), (2, .int p1), (3, .int p2), (4, .int w3)] → W p l e (headSpec usX5_reckon { frames := 4, cells := 0, slots := 0, locals := 94 }).room s m [.ref (ad 0), .int p0, .int p1, .int p2].toArray below meth c H locs 0 0 (MQ below (ct_Qx D (fun di => ww 6 ad (cellR cI ad res.2 kk mn md rw dg kn fc oft di)) (ww_A 6 ad) (some (.int res.1))) [.ref (ad 0), .int p0, .int p1, .int p2].toArray s 0 0 (ww_A 6 ad)) (F0 m 57 ls [.int w15, .int w13, .ref (ad 0)]) := by
        intro di H locs ls hP hS hl
        obtain ⟨u19, g20, hf⟩ := Option.bind_eq_some_iff.mp hf
        try dsimp only at hf
        refine ct_callx (va_runV (As := [.int w13, .int w15]) (rest := []) ⟨hx, hb, hml, hown, hts⟩ (C_X5_fails l D tys hj htI (res := u19) g20) (cwV 2 hts (gu_V mw_356 mw_357 mw_358 mw_330 mw_322) rfl rfl rfl (by decide +kernel) ⟨Nat.le_of_ble_eq_true rfl, Nat.le_of_ble_eq_true rfl⟩) (ct_preVx (w := fun di => ww 6 ad (cellR cI ad th kk mn md rw dg kn fc oft di)) hP hK (ci := 5) (k := 0) rfl cr_mdl) rfl rfl hl.1 rfl (lv_room (Nat.le_of_ble_eq_true rfl)) dX5_reckon_57 ⟨Nat.zero_le _, Nat.zero_le _⟩) hS (fun di H locs hP hS => ?_)
        refine lv_if_eq (tgt := 65) hx hb dX5_reckon_60 (by decide) (fun c21 => ?_) (fun c21 => ?_)
        · rw [if_pos c21] at hf
          refine lv_iload_n hx hb dX5_reckon_65 rfl (lv_at hl 1 rfl) ?_
          refine lv_if_ne (tgt := 77) hx hb dX5_reckon_66 (by decide) (fun c22 => ?_) (fun c22 => ?_)
          · rw [if_neg c22] at hf
            refine lv_iload_n hx hb dX5_reckon_77 rfl (lv_at hl 1 rfl) ?_
            refine lv_iconst (v := 1) hx hb dX5_reckon_78 (by decide) ?_
            refine lv_icmp_ne (tgt := 90) hx hb dX5_reckon_79 (by decide) (fun c23 => ?_) (fun c23 => ?_)
            · rw [if_neg c23] at hf
              refine lv_aload_n hx hb dX5_reckon_90 rfl (lv_at hl 0 rfl) ?_
              refine lv_iload_n hx hb dX5_reckon_91 rfl (lv_at hl 2 rfl) ?_
              refine lv_iload_n hx hb dX5_reckon_92 rfl (lv_at hl 1 rfl) ?_
              refine lv_iconst (v := 2) hx hb dX5_reckon_93 (by decide) ?_
              obtain ⟨w24, gw24, hf⟩ := Option.bind_eq_some_iff.mp hf
              try dsimp only at hf
              have hJ106_w24 : ∀ (di : Nat → Int32) (H : Heap) (locs : List Loc) (ls : Array Slot), va_P D vwCl (ww 6 ad (cellR cI ad u19.2 kk mn md rw dg kn fc oft di)) H → va_S (ww_A 6 ad) s.heap H locs → lv_has ls 5 [(0, .ref (ad 0)), (1, .int p0), (2, .int p1), (3, .int p2), (4, .int w3)] → W p l e (headSpec usX5_reckon { frames := 4, cells := 0, slots := 0, locals := 94 }).room s m [.ref (ad 0), .int p0, .int p1, .int p2].toArray below meth c H locs 0 0 (MQ below (ct_Qx D (fun di => ww 6 ad (cellR cI ad res.2 kk mn md rw dg kn fc oft di)) (ww_A 6 ad) (some (.int res.1))) [.ref (ad 0), .int p0, .int p1, .int p2].toArray s 0 0 (ww_A 6 ad)) (F0 m 106 ls [.int w24, .int p1, .ref (ad 0)]) := by
                intro di H locs ls hP hS hl
                obtain ⟨u28, g29, hf⟩ := Option.bind_eq_some_iff.mp hf
                try dsimp only at hf
                refine ct_callx (va_runV (As := [.int p1, .int w24]) (rest := []) ⟨hx, hb, hml, hown, hts⟩ (C_X5_times l D tys hj htI (res := u28) g29) (cwV 2 hts (gu_V mw_337 mw_338 mw_339 mw_330 mw_333) rfl rfl rfl (by decide +kernel) ⟨Nat.le_of_ble_eq_true rfl, Nat.le_of_ble_eq_true rfl⟩) (ct_preVx (w := fun di => ww 6 ad (cellR cI ad u19.2 kk mn md rw dg kn fc oft di)) hP hK (ci := 5) (k := 0) rfl cr_mdl) rfl rfl hl.1 rfl (lv_room (Nat.le_of_ble_eq_true rfl)) dX5_reckon_106 ⟨Nat.zero_le _, Nat.zero_le _⟩) hS (fun di H locs hP hS => ?_)
                obtain rfl := Option.some.inj hf
                exact W.iret (v := u28) hx hb hr (fun t ht hW => ⟨rfl, ⟨di, by rw [ht]; exact hP⟩, hS.F ht⟩) hS.2.2 dX5_reckon_109
              refine lv_icmp_ne (tgt := 101) hx hb dX5_reckon_94 (by decide) (fun c25 => ?_) (fun c25 => ?_)
              · rw [if_neg c25] at gw24
                refine lv_aload_n hx hb dX5_reckon_101 rfl (lv_at hl 0 rfl) ?_
                refine lv_iload_n hx hb dX5_reckon_102 rfl (lv_at hl 3 rfl) ?_
                obtain ⟨u26, g27, gw24⟩ := Option.bind_eq_some_iff.mp gw24
                try dsimp only at gw24
                refine ct_callx (va_runV (As := [.int p2]) (rest := [.int p1, .ref (ad 0)]) ⟨hx, hb, hml, hown, hts⟩ (C_X5_inverse l D tys hj htI (res := u26) g27) (cwV 1 hts (gu_V mw_372 mw_373 mw_374 mw_330 mw_340) rfl rfl rfl (by decide +kernel) ⟨Nat.le_of_ble_eq_true rfl, Nat.le_of_ble_eq_true rfl⟩) (ct_preVx (w := fun di => ww 6 ad (cellR cI ad u19.2 kk mn md rw dg kn fc oft di)) hP hK (ci := 5) (k := 0) rfl cr_mdl) rfl rfl hl.1 rfl (lv_room (Nat.le_of_ble_eq_true rfl)) dX5_reckon_103 ⟨Nat.zero_le _, Nat.zero_le _⟩) hS (fun di H locs hP hS => ?_)
                obtain rfl := Option.some.inj gw24
                exact hJ106_w24 _ _ _ _ hP hS (lv_sub hl [0, 1, 2, 3, 4] rfl)
              · rw [if_pos c25] at gw24
                refine lv_iload_n hx hb dX5_reckon_97 rfl (lv_at hl 3 rfl) ?_
                refine lv_goto (tgt := 106) hx hb dX5_reckon_98 (by decide) ?_
                obtain rfl := Option.some.inj gw24
                exact hJ106_w24 _ _ _ _ hP hS (lv_sub hl [0, 1, 2, 3, 4] rfl)
            · rw [if_pos c23] at hf
              refine lv_iload_n hx hb dX5_reckon_82 rfl (lv_at hl 2 rfl) ?_
              refine lv_iload_n hx hb dX5_reckon_83 rfl (lv_at hl 3 rfl) ?_
              obtain ⟨u30, g31, hf⟩ := Option.bind_eq_some_iff.mp hf
              try dsimp only at hf
              refine ct_callx (va_runS (As := [.int p1, .int p2]) (rest := []) ⟨hx, hb, hml, hown, hts⟩ (C_X5_less l D tys hj htI (res := u30) g31) (cwS 2 hts (gu_S mw_375 mw_376 mw_330 mw_327) rfl rfl rfl (by decide +kernel) ⟨Nat.le_of_ble_eq_true rfl, Nat.le_of_ble_eq_true rfl⟩) (ct_preSx (w := fun di => ww 6 ad (cellR cI ad u19.2 kk mn md rw dg kn fc oft di)) hP hK) rfl rfl hl.1 rfl (lv_room (Nat.le_of_ble_eq_true rfl)) dX5_reckon_84 ⟨Nat.zero_le _, Nat.zero_le _⟩) hS (fun di H locs hP hS => ?_)
              refine lv_goto (tgt := 109) hx hb dX5_reckon_87 (by decide) ?_
              obtain rfl := Option.some.inj hf
              exact W.iret (v := u30) hx hb hr (fun t ht hW => ⟨rfl, ⟨di, by rw [ht]; exact hP⟩, hS.F ht⟩) hS.2.2 dX5_reckon_109
          · rw [if_pos c22] at hf
            refine lv_iload_n hx hb dX5_reckon_69 rfl (lv_at hl 2 rfl) ?_
            refine lv_iload_n hx hb dX5_reckon_70 rfl (lv_at hl 3 rfl) ?_
            obtain ⟨u32, g33, hf⟩ := Option.bind_eq_some_iff.mp hf
            try dsimp only at hf
            refine ct_callx (va_runS (As := [.int p1, .int p2]) (rest := []) ⟨hx, hb, hml, hown, hts⟩ (C_X5_add l D tys hj htI (res := u32) g33) (cwS 2 hts (gu_S mw_331 mw_332 mw_330 mw_325) rfl rfl rfl (by decide +kernel) ⟨Nat.le_of_ble_eq_true rfl, Nat.le_of_ble_eq_true rfl⟩) (ct_preSx (w := fun di => ww 6 ad (cellR cI ad u19.2 kk mn md rw dg kn fc oft di)) hP hK) rfl rfl hl.1 rfl (lv_room (Nat.le_of_ble_eq_true rfl)) dX5_reckon_71 ⟨Nat.zero_le _, Nat.zero_le _⟩) hS (fun di H locs hP hS => ?_)
            refine lv_goto (tgt := 109) hx hb dX5_reckon_74 (by decide) ?_
            obtain rfl := Option.some.inj hf
            exact W.iret (v := u32) hx hb hr (fun t ht hW => ⟨rfl, ⟨di, by rw [ht]; exact hP⟩, hS.F ht⟩) hS.2.2 dX5_reckon_109
        · rw [if_neg c21] at hf
          refine lv_iconst (v := 0) hx hb dX5_reckon_63 (by decide) ?_
          obtain rfl := Option.some.inj hf
          exact W.iret (v := 0) hx hb hr (fun t ht hW => ⟨rfl, ⟨di, by rw [ht]; exact hP⟩, hS.F ht⟩) hS.2.2 dX5_reckon_64
      refine lv_icmp_ne (tgt := 56) hx hb dX5_reckon_45 (by decide) (fun c16 => ?_) (fun c16 => ?_)
      · rw [if_neg c16] at gw15
        refine lv_iconst (v := 0) hx hb dX5_reckon_56 (by decide) ?_
        obtain rfl := Option.some.inj gw15
        exact hJ57_w15 _ _ _ _ hP hS (lv_sub hl [0, 1, 2, 3, 4] rfl)
      · rw [if_pos c16] at gw15
        refine lv_iload_n hx hb dX5_reckon_48 rfl (lv_at hl 3 rfl) ?_
        obtain ⟨w17, gw17, gw15⟩ := Option.bind_eq_some_iff.mp gw15
        try dsimp only at gw15
        have hJ57_w17 : ∀ (di : Nat → Int32) (H : Heap) (locs : List Loc) (ls : Array Slot), va_P D vwCl (ww 6 ad (cellR cI ad th kk mn md rw dg kn fc oft di)) H → va_S (ww_A 6 ad) s.heap H locs → lv_has ls 5 [(0, .ref (ad 0)), (1, .int p0), (2, .int p1), (3, .int p2), (4, .int w3)] → W p l e (headSpec usX5_reckon { frames := 4, cells := 0, slots := 0, locals := 94 }).room s m [.ref (ad 0), .int p0, .int p1, .int p2].toArray below meth c H locs 0 0 (MQ below (ct_Qx D (fun di => ww 6 ad (cellR cI ad res.2 kk mn md rw dg kn fc oft di)) (ww_A 6 ad) (some (.int res.1))) [.ref (ad 0), .int p0, .int p1, .int p2].toArray s 0 0 (ww_A 6 ad)) (F0 m 57 ls [.int w17, .int w13, .ref (ad 0)]) := by
          intro di H locs ls hP hS hl
          obtain rfl := Option.some.inj gw15
          exact hJ57_w15 _ _ _ _ hP hS (lv_sub hl [0, 1, 2, 3, 4] rfl)
        refine lv_if_ne (tgt := 56) hx hb dX5_reckon_49 (by decide) (fun c18 => ?_) (fun c18 => ?_)
        · rw [if_neg c18] at gw17
          refine lv_iconst (v := 0) hx hb dX5_reckon_56 (by decide) ?_
          obtain rfl := Option.some.inj gw17
          exact hJ57_w17 _ _ _ _ hP hS (lv_sub hl [0, 1, 2, 3, 4] rfl)
        · rw [if_pos c18] at gw17
          refine lv_iconst (v := 1) hx hb dX5_reckon_52 (by decide) ?_
          refine lv_goto (tgt := 57) hx hb dX5_reckon_53 (by decide) ?_
          obtain rfl := Option.some.inj gw17
          exact hJ57_w17 _ _ _ _ hP hS (lv_sub hl [0, 1, 2, 3, 4] rfl)
    refine lv_if_ne (tgt := 42) hx hb dX5_reckon_35 (by decide) (fun c14 => ?_) (fun c14 => ?_)
    · rw [if_neg c14] at gw13
      refine lv_iconst (v := 0) hx hb dX5_reckon_42 (by decide) ?_
      obtain rfl := Option.some.inj gw13
      exact hJ43_w13 _ _ _ _ hP hS (lv_sub hl [1, 2, 3, 4, 0] rfl)
    · rw [if_pos c14] at gw13
      refine lv_iconst (v := 1) hx hb dX5_reckon_38 (by decide) ?_
      refine lv_goto (tgt := 43) hx hb dX5_reckon_39 (by decide) ?_
      obtain rfl := Option.some.inj gw13
      exact hJ43_w13 _ _ _ _ hP hS (lv_sub hl [1, 2, 3, 4, 0] rfl)
  refine lv_if_eq (tgt := 29) hx hb dX5_reckon_5 (by decide) (fun c4 => ?_) (fun c4 => ?_)
  · rw [if_pos c4] at gw3
    refine lv_iconst (v := 0) hx hb dX5_reckon_29 (by decide) ?_
    obtain rfl := Option.some.inj gw3
    exact hJ30_w3 _ _ _ _ hP hS (lv_sub hl [0, 1, 2, 3] rfl)
  · rw [if_neg c4] at gw3
    refine lv_aload_n hx hb dX5_reckon_8 rfl (lv_at hl 0 rfl) ?_
    refine lv_iload_n hx hb dX5_reckon_9 rfl (lv_at hl 3 rfl) ?_
    obtain ⟨u5, g6, gw3⟩ := Option.bind_eq_some_iff.mp gw3
    try dsimp only at gw3
    refine ct_callx (va_runV (As := [.int p2]) (rest := []) ⟨hx, hb, hml, hown, hts⟩ (C_X5_isElement l D tys hj htI (res := u5) g6) (cwV 1 hts (gu_V mw_403 mw_404 mw_405 mw_330 mw_323) rfl rfl rfl (by decide +kernel) ⟨Nat.le_of_ble_eq_true rfl, Nat.le_of_ble_eq_true rfl⟩) (ct_preVx (w := fun di => ww 6 ad (cellR cI ad th kk mn md rw dg kn fc oft di)) hP hK (ci := 5) (k := 0) rfl cr_mdl) rfl rfl hl.1 rfl (lv_room (Nat.le_of_ble_eq_true rfl)) dX5_reckon_10 ⟨Nat.zero_le _, Nat.zero_le _⟩) hS (fun di H locs hP hS => ?_)
    obtain ⟨w7, gw7, gw3⟩ := Option.bind_eq_some_iff.mp gw3
    try dsimp only at gw3
    have hJ30_w7 : ∀ (di : Nat → Int32) (H : Heap) (locs : List Loc) (ls : Array Slot), va_P D vwCl (ww 6 ad (cellR cI ad th kk mn md rw dg kn fc oft di)) H → va_S (ww_A 6 ad) s.heap H locs → lv_has ls 5 [(0, .ref (ad 0)), (1, .int p0), (2, .int p1), (3, .int p2)] → W p l e (headSpec usX5_reckon { frames := 4, cells := 0, slots := 0, locals := 94 }).room s m [.ref (ad 0), .int p0, .int p1, .int p2].toArray below meth c H locs 0 0 (MQ below (ct_Qx D (fun di => ww 6 ad (cellR cI ad res.2 kk mn md rw dg kn fc oft di)) (ww_A 6 ad) (some (.int res.1))) [.ref (ad 0), .int p0, .int p1, .int p2].toArray s 0 0 (ww_A 6 ad)) (F0 m 30 ls [.int w7]) := by
      intro di H locs ls hP hS hl
      obtain rfl := Option.some.inj gw3
      exact hJ30_w3 _ _ _ _ hP hS (lv_sub hl [0, 1, 2, 3] rfl)
    refine lv_if_eq (tgt := 29) hx hb dX5_reckon_13 (by decide) (fun c8 => ?_) (fun c8 => ?_)
    · rw [if_pos c8] at gw7
      refine lv_iconst (v := 0) hx hb dX5_reckon_29 (by decide) ?_
      obtain rfl := Option.some.inj gw7
      exact hJ30_w7 _ _ _ _ hP hS (lv_sub hl [0, 1, 2, 3] rfl)
    · rw [if_neg c8] at gw7
      refine lv_iload_n hx hb dX5_reckon_16 rfl (lv_at hl 1 rfl) ?_
      obtain ⟨w9, gw9, gw7⟩ := Option.bind_eq_some_iff.mp gw7
      try dsimp only at gw7
      have hJ30_w9 : ∀ (di : Nat → Int32) (H : Heap) (locs : List Loc) (ls : Array Slot), va_P D vwCl (ww 6 ad (cellR cI ad th kk mn md rw dg kn fc oft di)) H → va_S (ww_A 6 ad) s.heap H locs → lv_has ls 5 [(0, .ref (ad 0)), (1, .int p0), (2, .int p1), (3, .int p2)] → W p l e (headSpec usX5_reckon { frames := 4, cells := 0, slots := 0, locals := 94 }).room s m [.ref (ad 0), .int p0, .int p1, .int p2].toArray below meth c H locs 0 0 (MQ below (ct_Qx D (fun di => ww 6 ad (cellR cI ad res.2 kk mn md rw dg kn fc oft di)) (ww_A 6 ad) (some (.int res.1))) [.ref (ad 0), .int p0, .int p1, .int p2].toArray s 0 0 (ww_A 6 ad)) (F0 m 30 ls [.int w9]) := by
        intro di H locs ls hP hS hl
        obtain rfl := Option.some.inj gw7
        exact hJ30_w7 _ _ _ _ hP hS (lv_sub hl [0, 1, 2, 3] rfl)
      refine lv_if_lt (tgt := 29) hx hb dX5_reckon_17 (by decide) (fun c10 => ?_) (fun c10 => ?_)
      · rw [if_pos c10] at gw9
        refine lv_iconst (v := 0) hx hb dX5_reckon_29 (by decide) ?_
        obtain rfl := Option.some.inj gw9
        exact hJ30_w9 _ _ _ _ hP hS (lv_sub hl [0, 1, 2, 3] rfl)
      · rw [if_neg c10] at gw9
        refine lv_iload_n hx hb dX5_reckon_20 rfl (lv_at hl 1 rfl) ?_
        refine lv_iconst (v := 3) hx hb dX5_reckon_21 (by decide) ?_
        obtain ⟨w11, gw11, gw9⟩ := Option.bind_eq_some_iff.mp gw9
        try dsimp only at gw9
        have hJ30_w11 : ∀ (di : Nat → Int32) (H : Heap) (locs : List Loc) (ls : Array Slot), va_P D vwCl (ww 6 ad (cellR cI ad th kk mn md rw dg kn fc oft di)) H → va_S (ww_A 6 ad) s.heap H locs → lv_has ls 5 [(0, .ref (ad 0)), (1, .int p0), (2, .int p1), (3, .int p2)] → W p l e (headSpec usX5_reckon { frames := 4, cells := 0, slots := 0, locals := 94 }).room s m [.ref (ad 0), .int p0, .int p1, .int p2].toArray below meth c H locs 0 0 (MQ below (ct_Qx D (fun di => ww 6 ad (cellR cI ad res.2 kk mn md rw dg kn fc oft di)) (ww_A 6 ad) (some (.int res.1))) [.ref (ad 0), .int p0, .int p1, .int p2].toArray s 0 0 (ww_A 6 ad)) (F0 m 30 ls [.int w11]) := by
          intro di H locs ls hP hS hl
          obtain rfl := Option.some.inj gw9
          exact hJ30_w9 _ _ _ _ hP hS (lv_sub hl [0, 1, 2, 3] rfl)
        refine lv_icmp_gt (tgt := 29) hx hb dX5_reckon_22 (by decide) (fun c12 => ?_) (fun c12 => ?_)
        · rw [if_pos c12] at gw11
          refine lv_iconst (v := 0) hx hb dX5_reckon_29 (by decide) ?_
          obtain rfl := Option.some.inj gw11
          exact hJ30_w11 _ _ _ _ hP hS (lv_sub hl [0, 1, 2, 3] rfl)
        · rw [if_neg c12] at gw11
          refine lv_iconst (v := 1) hx hb dX5_reckon_25 (by decide) ?_
          refine lv_goto (tgt := 30) hx hb dX5_reckon_26 (by decide) ?_
          obtain rfl := Option.some.inj gw11
          exact hJ30_w11 _ _ _ _ hP hS (lv_sub hl [0, 1, 2, 3] rfl)
def f_X5_known_l40 (k40 : Int32 → Int32 → Int32 → Option (Int32 × (Int32))) (fu : Nat) (th : Int32) (kk : Int32) (mn : Int64) (md : Nat → Int32) (x1 : Int32) (x2 : Int32) : Nat → Int32 → Int32 → Int32 → Option (Int32 × (Int32))
  | 0, _, _, _ => none
  | n + 1, x3, x4, x5 =>
    if kk ≤ x5 then
      k40 x3 x4 x5
    else
      (f_X5_mate fu kk md x2 x5).bind (fun u13 =>
      (f_X5_times fu kk md x3 u13).bind (fun u15 =>
      (f_X5_mate fu kk md x2 x5).bind (fun u17 =>
      (f_X5_add x4 u17).bind (fun u19 =>
      f_X5_known_l40 k40 fu th kk mn md x1 x2 n u15 u19 (x5 + 1)))))
def f_X5_known (fu : Nat) (th : Int32) (kk : Int32) (mn : Int64) (md : Nat → Int32) (p0 : Int32) (p1 : Int32) : Option (Int32 × (Int32)) :=
  (f_X5_isElement mn p1).bind (fun u1 =>
  ((
    if u1 = 0 then
      some 1
    else
      ((
        if p0 < 0 then
          some 1
        else
          ((
            if p0 ≤ 4 then
              some 0
            else
              some 1 : Option (Int32))).bind (fun w7 =>
          some w7) : Option (Int32))).bind (fun w5 =>
      some w5) : Option (Int32))).bind (fun w3 =>
  (f_X5_fails th w3 0).bind (fun u9 =>
  if u9.1 = 0 then
    f_X5_known_l40 (fun y21 y22 y23 =>
      if p0 = 0 then
        if p1 = 0 then
          some (1, u9.2)
        else
          (f_X5_power fu kk md p1 ((mn - 1) / 2)).bind (fun u26 =>
          if u26 = 1 then
            some (1, u9.2)
          else
            some (0, u9.2))
      else
      if p0 = 1 then
        some (y21, u9.2)
      else
      if p0 = 2 then
        some (y22, u9.2)
      else
      if p0 = 3 then
        (f_X5_mate fu kk md p1 1).bind (fun u32 =>
        some (u32, u9.2))
      else
      (f_X5_mates fu kk md p1).bind (fun u34 =>
      some (u34, u9.2))) fu u9.2 kk mn md p0 p1 fu p1 p1 1
  else
    some (0, u9.2))))
set_option maxHeartbeats 4000000 in
set_option maxRecDepth 100000 in
theorem C_X5_known (l : Launch) (D : va_G) (tys : List (ClassId × FieldType)) {ad : Nat → Nat} (hj : ww_inj 6 ad) {cI : ClassId} (htI : tys[0]? = some (cI, .int)) {fu : Nat} {th : Int32} {kk : Int32} {mn : Int64} {md : Nat → Int32} {rw : Nat → Int32} {dg : Nat → Int32} {kn : Int32} {fc : Int32} {oft : Nat → Int32} {p0 : Int32} {p1 : Int32} {res : Int32 × (Int32)} (hf : f_X5_known fu th kk mn md p0 p1 = some res) :
    Met l yX5_known usX5_known ({ frames := 5, cells := 0, slots := 0, locals := 119 }) (va_Pc [.ref (ad 0), .int p0, .int p1] (ws_Bx D tys (fun di => ww 6 ad (cellR cI ad th kk mn md rw dg kn fc oft di)))) (ct_Qx D (fun di => ww 6 ad (cellR cI ad res.2 kk mn md rw dg kn fc oft di)) (ww_A 6 ad) (some (.int res.1))) 0 0 (ww_A 6 ad) := by
  refine Met.ofW (cc := cX5_known) (maxL := 6) (ret := (some .int)) (by decide) rfl ?_
  intro p e s m args below meth c s₁ B hml hv
  obtain ⟨rfl, ⟨di, hP⟩, hK⟩ := hv
  have hx := B.exec
  have hb := B.bytes
  have hr := B.returns
  have hts := atoms_spec (ws := usX5_known) B.pre
  have hown : s.vm.findClass RX5 = some m.cls := findClass_of_methodNamed B.named
  have hlocks := B.notSynchronized
  have hS : va_S (ww_A 6 ad) s.heap s.heap [] := va_S.rf
  have hl := lv_entry ([.ref (ad 0), .int p0, .int p1]) (n := 6) (Nat.le_of_ble_eq_true rfl)
  rw [lg_entry_eq]
  generalize (lg_sl ([.ref (ad 0), .int p0, .int p1]) ++ List.replicate (6 - (lg_sl ([.ref (ad 0), .int p0, .int p1])).length) Slot.unset).toArray = ls at hl ⊢
  have hl : lv_has ls 6 [(0, .ref (ad 0)), (1, .int p0), (2, .int p1)] := hl
  have L40 : ∀ (th : Int32) (x1 : Int32) (x2 : Int32) (k40 : Int32 → Int32 → Int32 → Option (Int32 × (Int32))), (∀ (x3 : Int32) (x4 : Int32) (x5 : Int32) (di : Nat → Int32) (H : Heap) (locs : List Loc) (ls : Array Slot), va_P D vwCl (ww 6 ad (cellR cI ad th kk mn md rw dg kn fc oft di)) H → va_S (ww_A 6 ad) s.heap H locs → lv_has ls 6 [(0, .ref (ad 0)), (1, .int x1), (2, .int x2), (3, .int x3), (4, .int x4), (5, .int x5)] →  k40 x3 x4 x5 = some res → W p l e (headSpec usX5_known { frames := 5, cells := 0, slots := 0, locals := 119 }).room s m [.ref (ad 0), .int p0, .int p1].toArray below meth c H locs 0 0 (MQ below (ct_Qx D (fun di => ww 6 ad (cellR cI ad res.2 kk mn md rw dg kn fc oft di)) (ww_A 6 ad) (some (.int res.1))) [.ref (ad 0), .int p0, .int p1].toArray s 0 0 (ww_A 6 ad)) (F0 m 82 ls [])) → ∀ (n : Nat) (x3 : Int32) (x4 : Int32) (x5 : Int32) (di : Nat → Int32) (H : Heap) (locs : List Loc) (ls : Array Slot), va_P D vwCl (ww 6 ad (cellR cI ad th kk mn md rw dg kn fc oft di)) H → va_S (ww_A 6 ad) s.heap H locs → lv_has ls 6 [(0, .ref (ad 0)), (1, .int x1), (2, .int x2), (3, .int x3), (4, .int x4), (5, .int x5)] →  f_X5_known_l40 k40 fu th kk mn md x1 x2 n x3 x4 x5 = some res → W p l e (headSpec usX5_known { frames := 5, cells := 0, slots := 0, locals := 119 }).room s m [.ref (ad 0), .int p0, .int p1].toArray below meth c H locs 0 0 (MQ below (ct_Qx D (fun di => ww 6 ad (cellR cI ad res.2 kk mn md rw dg kn fc oft di)) (ww_A 6 ad) (some (.int res.1))) [.ref (ad 0), .int p0, .int p1].toArray s 0 0 (ww_A 6 ad)) (F0 m 40 ls []) := by
    intro th x1 x2 k40 hk_40 n
    induction n with
    | zero => intro x3 x4 x5 di H locs ls hP hS hl hf; rw [f_X5_known_l40] at hf; cases hf
    | succ n ih =>
      intro x3 x4 x5 di H locs ls hP hS hl hf
      rw [f_X5_known_l40] at hf
      refine lv_iload hx hb dX5_known_40 (lv_at hl 5 rfl) ?_
      refine lv_aload_n hx hb dX5_known_42 rfl (lv_at hl 0 rfl) ?_
      refine va_get (ci := 5) (v := .int kk) (C := RX5) (T := TX5) (N := 10) hx hb hts (fun w h => BW_in (in_wsX50 w h)) hown hK hP 0 cr_mdl rfl 1 (by decide) (hts (.fieldLink RX5 7 "NumberFieldFactorsModel" "k" "I") (BW_in mw_312)) (fun _ h9 => h9) rfl dX5_known_43 ?_
      refine lv_icmp_ge (tgt := 82) hx hb dX5_known_46 (by decide) (fun c12 => ?_) (fun c12 => ?_)
      · rw [if_pos c12] at hf
        exact hk_40 x3 x4 x5 _ _ _ _ hP hS (lv_sub hl [0, 1, 2, 3, 4, 5] rfl) hf
      · rw [if_neg c12] at hf
        refine lv_aload_n hx hb dX5_known_49 rfl (lv_at hl 0 rfl) ?_
        refine lv_iload_n hx hb dX5_known_50 rfl (lv_at hl 3 rfl) ?_
        refine lv_aload_n hx hb dX5_known_51 rfl (lv_at hl 0 rfl) ?_
        refine lv_iload_n hx hb dX5_known_52 rfl (lv_at hl 2 rfl) ?_
        refine lv_iload hx hb dX5_known_53 (lv_at hl 5 rfl) ?_
        obtain ⟨u13, g14, hf⟩ := Option.bind_eq_some_iff.mp hf
        try dsimp only at hf
        refine ct_callx (va_runV (As := [.int x2, .int x5]) (rest := [.int x3, .ref (ad 0)]) ⟨hx, hb, hml, hown, hts⟩ (C_X5_mate l D tys hj htI (res := u13) g14) (cwV 2 hts (gu_V mw_347 mw_348 mw_349 mw_330 mw_345) rfl rfl rfl (by decide +kernel) ⟨Nat.le_of_ble_eq_true rfl, Nat.le_of_ble_eq_true rfl⟩) (ct_preVx (w := fun di => ww 6 ad (cellR cI ad th kk mn md rw dg kn fc oft di)) hP hK (ci := 5) (k := 0) rfl cr_mdl) rfl rfl hl.1 rfl (lv_room (Nat.le_of_ble_eq_true rfl)) dX5_known_55 ⟨Nat.zero_le _, Nat.zero_le _⟩) hS (fun di H locs hP hS => ?_)
        obtain ⟨u15, g16, hf⟩ := Option.bind_eq_some_iff.mp hf
        try dsimp only at hf
        refine ct_callx (va_runV (As := [.int x3, .int u13]) (rest := []) ⟨hx, hb, hml, hown, hts⟩ (C_X5_times l D tys hj htI (res := u15) g16) (cwV 2 hts (gu_V mw_337 mw_338 mw_339 mw_330 mw_333) rfl rfl rfl (by decide +kernel) ⟨Nat.le_of_ble_eq_true rfl, Nat.le_of_ble_eq_true rfl⟩) (ct_preVx (w := fun di => ww 6 ad (cellR cI ad th kk mn md rw dg kn fc oft di)) hP hK (ci := 5) (k := 0) rfl cr_mdl) rfl rfl hl.1 rfl (lv_room (Nat.le_of_ble_eq_true rfl)) dX5_known_58 ⟨Nat.zero_le _, Nat.zero_le _⟩) hS (fun di H locs hP hS => ?_)
        refine lv_istore_n (lv' := [(3, .int u15), (0, .ref (ad 0)), (1, .int x1), (2, .int x2), (4, .int x4), (5, .int x5)]) hx hb dX5_known_61 rfl hl (by decide) rfl (fun ls hl => ?_)
        refine lv_iload hx hb dX5_known_62 (lv_at hl 4 rfl) ?_
        refine lv_aload_n hx hb dX5_known_64 rfl (lv_at hl 1 rfl) ?_
        refine lv_iload_n hx hb dX5_known_65 rfl (lv_at hl 3 rfl) ?_
        refine lv_iload hx hb dX5_known_66 (lv_at hl 5 rfl) ?_
        obtain ⟨u17, g18, hf⟩ := Option.bind_eq_some_iff.mp hf
        try dsimp only at hf
        refine ct_callx (va_runV (As := [.int x2, .int x5]) (rest := [.int x4]) ⟨hx, hb, hml, hown, hts⟩ (C_X5_mate l D tys hj htI (res := u17) g18) (cwV 2 hts (gu_V mw_347 mw_348 mw_349 mw_330 mw_345) rfl rfl rfl (by decide +kernel) ⟨Nat.le_of_ble_eq_true rfl, Nat.le_of_ble_eq_true rfl⟩) (ct_preVx (w := fun di => ww 6 ad (cellR cI ad th kk mn md rw dg kn fc oft di)) hP hK (ci := 5) (k := 0) rfl cr_mdl) rfl rfl hl.1 rfl (lv_room (Nat.le_of_ble_eq_true rfl)) dX5_known_68 ⟨Nat.zero_le _, Nat.zero_le _⟩) hS (fun di H locs hP hS => ?_)
        obtain ⟨u19, g20, hf⟩ := Option.bind_eq_some_iff.mp hf
        try dsimp only at hf
        refine ct_callx (va_runS (As := [.int x4, .int u17]) (rest := []) ⟨hx, hb, hml, hown, hts⟩ (C_X5_add l D tys hj htI (res := u19) g20) (cwS 2 hts (gu_S mw_331 mw_332 mw_330 mw_325) rfl rfl rfl (by decide +kernel) ⟨Nat.le_of_ble_eq_true rfl, Nat.le_of_ble_eq_true rfl⟩) (ct_preSx (w := fun di => ww 6 ad (cellR cI ad th kk mn md rw dg kn fc oft di)) hP hK) rfl rfl hl.1 rfl (lv_room (Nat.le_of_ble_eq_true rfl)) dX5_known_71 ⟨Nat.zero_le _, Nat.zero_le _⟩) hS (fun di H locs hP hS => ?_)
        refine lv_istore (lv' := [(4, .int u19), (3, .int u15), (0, .ref (ad 0)), (1, .int x1), (2, .int x2), (5, .int x5)]) hx hb dX5_known_74 hl (by decide) rfl (fun ls hl => ?_)
        refine lv_iinc (v := x5 + 1) (lv' := [(5, .int (x5 + 1)), (4, .int u19), (3, .int u15), (0, .ref (ad 0)), (1, .int x1), (2, .int x2)]) hx hb dX5_known_76 hl (k := 5) rfl rfl (by decide) rfl (fun ls hl => ?_)
        refine lv_goto (tgt := 40) hx hb dX5_known_79 (by decide) ?_
        exact ih u15 u19 (x5 + 1) _ _ _ _ hP hS (lv_sub hl [3, 4, 5, 2, 1, 0] rfl) hf
  unfold f_X5_known at hf
  refine lv_aload_n hx hb dX5_known_0 rfl (lv_at hl 0 rfl) ?_
  refine lv_aload_n hx hb dX5_known_1 rfl (lv_at hl 0 rfl) ?_
  refine lv_iload_n hx hb dX5_known_2 rfl (lv_at hl 2 rfl) ?_
  obtain ⟨u1, g2, hf⟩ := Option.bind_eq_some_iff.mp hf
  try dsimp only at hf
  refine ct_callx (va_runV (As := [.int p1]) (rest := [.ref (ad 0)]) ⟨hx, hb, hml, hown, hts⟩ (C_X5_isElement l D tys hj htI (res := u1) g2) (cwV 1 hts (gu_V mw_403 mw_404 mw_405 mw_330 mw_323) rfl rfl rfl (by decide +kernel) ⟨Nat.le_of_ble_eq_true rfl, Nat.le_of_ble_eq_true rfl⟩) (ct_preVx (w := fun di => ww 6 ad (cellR cI ad th kk mn md rw dg kn fc oft di)) hP hK (ci := 5) (k := 0) rfl cr_mdl) rfl rfl hl.1 rfl (lv_room (Nat.le_of_ble_eq_true rfl)) dX5_known_3 ⟨Nat.zero_le _, Nat.zero_le _⟩) hS (fun di H locs hP hS => ?_)
  obtain ⟨w3, gw3, hf⟩ := Option.bind_eq_some_iff.mp hf
  try dsimp only at hf
  have hJ23_w3 : ∀ (di : Nat → Int32) (H : Heap) (locs : List Loc) (ls : Array Slot), va_P D vwCl (ww 6 ad (cellR cI ad th kk mn md rw dg kn fc oft di)) H → va_S (ww_A 6 ad) s.heap H locs → lv_has ls 6 [(0, .ref (ad 0)), (1, .int p0), (2, .int p1)] → W p l e (headSpec usX5_known { frames := 5, cells := 0, slots := 0, locals := 119 }).room s m [.ref (ad 0), .int p0, .int p1].toArray below meth c H locs 0 0 (MQ below (ct_Qx D (fun di => ww 6 ad (cellR cI ad res.2 kk mn md rw dg kn fc oft di)) (ww_A 6 ad) (some (.int res.1))) [.ref (ad 0), .int p0, .int p1].toArray s 0 0 (ww_A 6 ad)) (F0 m 23 ls [.int w3, .ref (ad 0)]) := by
    intro di H locs ls hP hS hl
    refine lv_iconst (v := 0) hx hb dX5_known_23 (by decide) ?_
    obtain ⟨u9, g10, hf⟩ := Option.bind_eq_some_iff.mp hf
    try dsimp only at hf
    refine ct_callx (va_runV (As := [.int w3, .int 0]) (rest := []) ⟨hx, hb, hml, hown, hts⟩ (C_X5_fails l D tys hj htI (res := u9) g10) (cwV 2 hts (gu_V mw_356 mw_357 mw_358 mw_330 mw_322) rfl rfl rfl (by decide +kernel) ⟨Nat.le_of_ble_eq_true rfl, Nat.le_of_ble_eq_true rfl⟩) (ct_preVx (w := fun di => ww 6 ad (cellR cI ad th kk mn md rw dg kn fc oft di)) hP hK (ci := 5) (k := 0) rfl cr_mdl) rfl rfl hl.1 rfl (lv_room (Nat.le_of_ble_eq_true rfl)) dX5_known_24 ⟨Nat.zero_le _, Nat.zero_le _⟩) hS (fun di H locs hP hS => ?_)
    refine lv_if_eq (tgt := 32) hx hb dX5_known_27 (by decide) (fun c11 => ?_) (fun c11 => ?_)
    · rw [if_pos c11] at hf
      refine lv_iload_n hx hb dX5_known_32 rfl (lv_at hl 2 rfl) ?_
      refine lv_istore_n (lv' := [(3, .int p1), (0, .ref (ad 0)), (1, .int p0), (2, .int p1)]) hx hb dX5_known_33 rfl hl (by decide) rfl (fun ls hl => ?_)
      refine lv_iload_n hx hb dX5_known_34 rfl (lv_at hl 3 rfl) ?_
      refine lv_istore (lv' := [(4, .int p1), (3, .int p1), (0, .ref (ad 0)), (1, .int p0), (2, .int p1)]) hx hb dX5_known_35 hl (by decide) rfl (fun ls hl => ?_)
      refine lv_iconst (v := 1) hx hb dX5_known_37 (by decide) ?_
      refine lv_istore (lv' := [(5, .int 1), (4, .int p1), (3, .int p1), (0, .ref (ad 0)), (1, .int p0), (2, .int p1)]) hx hb dX5_known_38 hl (by decide) rfl (fun ls hl => ?_)
      refine L40 u9.2 p0 p1 _ (fun y21 y22 y23 di H locs ls hP hS hl hf => ?_) fu p1 p1 1 _ _ _ _ hP hS (lv_sub hl [3, 4, 5, 2, 1, 0] rfl) hf
      try dsimp only at hf
      refine lv_iload_n hx hb dX5_known_82 rfl (lv_at hl 1 rfl) ?_
      by_cases c24 : p0 = 0
      · rw [if_pos c24] at hf
        refine lv_tableIn (off := 29) (tgt := 112) hx hb dX5_known_83 (by rw [c24]; decide) (by rw [c24]; decide) (by rw [c24]; rfl) (by decide) ?_
        refine lv_iload_n hx hb dX5_known_112 rfl (lv_at hl 2 rfl) ?_
        refine lv_if_eq (tgt := 135) hx hb dX5_known_113 (by decide) (fun c25 => ?_) (fun c25 => ?_)
        · rw [if_pos c25] at hf
          refine lv_iconst (v := 1) hx hb dX5_known_135 (by decide) ?_
          refine lv_goto (tgt := 140) hx hb dX5_known_136 (by decide) ?_
          obtain rfl := Option.some.inj hf
          exact W.iret (v := 1) hx hb hr (fun t ht hW => ⟨rfl, ⟨di, by rw [ht]; exact hP⟩, hS.F ht⟩) hS.2.2 dX5_known_140
        · rw [if_neg c25] at hf
          refine lv_aload_n hx hb dX5_known_116 rfl (lv_at hl 0 rfl) ?_
          refine lv_iload_n hx hb dX5_known_117 rfl (lv_at hl 2 rfl) ?_
          refine lv_aload_n hx hb dX5_known_118 rfl (lv_at hl 0 rfl) ?_
          refine va_get (ci := 5) (v := .long mn) (C := RX5) (T := TX5) (N := 10) hx hb hts (fun w h => BW_in (in_wsX50 w h)) hown hK hP 0 cr_mdl rfl 2 (by decide) (hts (.fieldLink RX5 15 "NumberFieldFactorsModel" "many" "J") (BW_in mw_314)) (fun _ h9 => h9) rfl dX5_known_119 ?_
          refine lv_lconst (v := 1) hx hb dX5_known_122 (by decide) ?_
          refine lv_lsub hx hb dX5_known_123 ?_
          refine lv_ldc2 (v := 2) hx hb hown (hts (.constantLong RX5 52 (2)) (BW_in mw_341)) dX5_known_124 ?_
          refine lv_ldiv hx hb dX5_known_127 (by decide) ?_
          obtain ⟨u26, g27, hf⟩ := Option.bind_eq_some_iff.mp hf
          try dsimp only at hf
          refine ct_callx (va_runV (As := [.int p1, .long ((mn - 1) / 2)]) (rest := []) ⟨hx, hb, hml, hown, hts⟩ (C_X5_power l D tys hj htI (res := u26) g27) (cwV 2 hts (gu_V mw_342 mw_343 mw_344 mw_330 mw_336) rfl rfl rfl (by decide +kernel) ⟨Nat.le_of_ble_eq_true rfl, Nat.le_of_ble_eq_true rfl⟩) (ct_preVx (w := fun di => ww 6 ad (cellR cI ad u9.2 kk mn md rw dg kn fc oft di)) hP hK (ci := 5) (k := 0) rfl cr_mdl) rfl rfl hl.1 rfl (lv_room (Nat.le_of_ble_eq_true rfl)) dX5_known_128 ⟨Nat.zero_le _, Nat.zero_le _⟩) hS (fun di H locs hP hS => ?_)
          refine lv_iconst (v := 1) hx hb dX5_known_131 (by decide) ?_
          refine lv_icmp_ne (tgt := 139) hx hb dX5_known_132 (by decide) (fun c28 => ?_) (fun c28 => ?_)
          · rw [if_neg c28] at hf
            refine lv_iconst (v := 0) hx hb dX5_known_139 (by decide) ?_
            obtain rfl := Option.some.inj hf
            exact W.iret (v := 0) hx hb hr (fun t ht hW => ⟨rfl, ⟨di, by rw [ht]; exact hP⟩, hS.F ht⟩) hS.2.2 dX5_known_140
          · rw [if_pos c28] at hf
            refine lv_iconst (v := 1) hx hb dX5_known_135 (by decide) ?_
            refine lv_goto (tgt := 140) hx hb dX5_known_136 (by decide) ?_
            obtain rfl := Option.some.inj hf
            exact W.iret (v := 1) hx hb hr (fun t ht hW => ⟨rfl, ⟨di, by rw [ht]; exact hP⟩, hS.F ht⟩) hS.2.2 dX5_known_140
      rw [if_neg c24] at hf
      by_cases c29 : p0 = 1
      · rw [if_pos c29] at hf
        refine lv_tableIn (off := 58) (tgt := 141) hx hb dX5_known_83 (by rw [c29]; decide) (by rw [c29]; decide) (by rw [c29]; rfl) (by decide) ?_
        refine lv_iload_n hx hb dX5_known_141 rfl (lv_at hl 3 rfl) ?_
        obtain rfl := Option.some.inj hf
        exact W.iret (v := y21) hx hb hr (fun t ht hW => ⟨rfl, ⟨di, by rw [ht]; exact hP⟩, hS.F ht⟩) hS.2.2 dX5_known_142
      rw [if_neg c29] at hf
      by_cases c30 : p0 = 2
      · rw [if_pos c30] at hf
        refine lv_tableIn (off := 60) (tgt := 143) hx hb dX5_known_83 (by rw [c30]; decide) (by rw [c30]; decide) (by rw [c30]; rfl) (by decide) ?_
        refine lv_iload hx hb dX5_known_143 (lv_at hl 4 rfl) ?_
        obtain rfl := Option.some.inj hf
        exact W.iret (v := y22) hx hb hr (fun t ht hW => ⟨rfl, ⟨di, by rw [ht]; exact hP⟩, hS.F ht⟩) hS.2.2 dX5_known_145
      rw [if_neg c30] at hf
      by_cases c31 : p0 = 3
      · rw [if_pos c31] at hf
        refine lv_tableIn (off := 63) (tgt := 146) hx hb dX5_known_83 (by rw [c31]; decide) (by rw [c31]; decide) (by rw [c31]; rfl) (by decide) ?_
        refine lv_aload_n hx hb dX5_known_146 rfl (lv_at hl 0 rfl) ?_
        refine lv_iload_n hx hb dX5_known_147 rfl (lv_at hl 2 rfl) ?_
        refine lv_iconst (v := 1) hx hb dX5_known_148 (by decide) ?_
        obtain ⟨u32, g33, hf⟩ := Option.bind_eq_some_iff.mp hf
        try dsimp only at hf
        refine ct_callx (va_runV (As := [.int p1, .int 1]) (rest := []) ⟨hx, hb, hml, hown, hts⟩ (C_X5_mate l D tys hj htI (res := u32) g33) (cwV 2 hts (gu_V mw_347 mw_348 mw_349 mw_330 mw_345) rfl rfl rfl (by decide +kernel) ⟨Nat.le_of_ble_eq_true rfl, Nat.le_of_ble_eq_true rfl⟩) (ct_preVx (w := fun di => ww 6 ad (cellR cI ad u9.2 kk mn md rw dg kn fc oft di)) hP hK (ci := 5) (k := 0) rfl cr_mdl) rfl rfl hl.1 rfl (lv_room (Nat.le_of_ble_eq_true rfl)) dX5_known_149 ⟨Nat.zero_le _, Nat.zero_le _⟩) hS (fun di H locs hP hS => ?_)
        obtain rfl := Option.some.inj hf
        exact W.iret (v := u32) hx hb hr (fun t ht hW => ⟨rfl, ⟨di, by rw [ht]; exact hP⟩, hS.F ht⟩) hS.2.2 dX5_known_152
      rw [if_neg c31] at hf
      refine lv_tableOut (tgt := 153) hx hb dX5_known_83 (by have ec24 : (p0).toInt ≠ 0 := fun h => c24 (Int32.toInt_inj.mp (h.trans (by decide))); have ec29 : (p0).toInt ≠ 1 := fun h => c29 (Int32.toInt_inj.mp (h.trans (by decide))); have ec30 : (p0).toInt ≠ 2 := fun h => c30 (Int32.toInt_inj.mp (h.trans (by decide))); have ec31 : (p0).toInt ≠ 3 := fun h => c31 (Int32.toInt_inj.mp (h.trans (by decide))); omega) (by decide) ?_
      refine lv_aload_n hx hb dX5_known_153 rfl (lv_at hl 0 rfl) ?_
      refine lv_iload_n hx hb dX5_known_154 rfl (lv_at hl 2 rfl) ?_
      obtain ⟨u34, g35, hf⟩ := Option.bind_eq_some_iff.mp hf
      try dsimp only at hf
      refine ct_callx (va_runV (As := [.int p1]) (rest := []) ⟨hx, hb, hml, hown, hts⟩ (C_X5_mates l D tys hj htI (res := u34) g35) (cwV 1 hts (gu_V mw_409 mw_410 mw_411 mw_330 mw_346) rfl rfl rfl (by decide +kernel) ⟨Nat.le_of_ble_eq_true rfl, Nat.le_of_ble_eq_true rfl⟩) (ct_preVx (w := fun di => ww 6 ad (cellR cI ad u9.2 kk mn md rw dg kn fc oft di)) hP hK (ci := 5) (k := 0) rfl cr_mdl) rfl rfl hl.1 rfl (lv_room (Nat.le_of_ble_eq_true rfl)) dX5_known_155 ⟨Nat.zero_le _, Nat.zero_le _⟩) hS (fun di H locs hP hS => ?_)
      obtain rfl := Option.some.inj hf
      exact W.iret (v := u34) hx hb hr (fun t ht hW => ⟨rfl, ⟨di, by rw [ht]; exact hP⟩, hS.F ht⟩) hS.2.2 dX5_known_158
    · rw [if_neg c11] at hf
      refine lv_iconst (v := 0) hx hb dX5_known_30 (by decide) ?_
      obtain rfl := Option.some.inj hf
      exact W.iret (v := 0) hx hb hr (fun t ht hW => ⟨rfl, ⟨di, by rw [ht]; exact hP⟩, hS.F ht⟩) hS.2.2 dX5_known_31
  refine lv_if_eq (tgt := 18) hx hb dX5_known_6 (by decide) (fun c4 => ?_) (fun c4 => ?_)
  · rw [if_pos c4] at gw3
    refine lv_iconst (v := 1) hx hb dX5_known_18 (by decide) ?_
    refine lv_goto (tgt := 23) hx hb dX5_known_19 (by decide) ?_
    obtain rfl := Option.some.inj gw3
    exact hJ23_w3 _ _ _ _ hP hS (lv_sub hl [0, 1, 2] rfl)
  · rw [if_neg c4] at gw3
    refine lv_iload_n hx hb dX5_known_9 rfl (lv_at hl 1 rfl) ?_
    obtain ⟨w5, gw5, gw3⟩ := Option.bind_eq_some_iff.mp gw3
    try dsimp only at gw3
    have hJ23_w5 : ∀ (di : Nat → Int32) (H : Heap) (locs : List Loc) (ls : Array Slot), va_P D vwCl (ww 6 ad (cellR cI ad th kk mn md rw dg kn fc oft di)) H → va_S (ww_A 6 ad) s.heap H locs → lv_has ls 6 [(0, .ref (ad 0)), (1, .int p0), (2, .int p1)] → W p l e (headSpec usX5_known { frames := 5, cells := 0, slots := 0, locals := 119 }).room s m [.ref (ad 0), .int p0, .int p1].toArray below meth c H locs 0 0 (MQ below (ct_Qx D (fun di => ww 6 ad (cellR cI ad res.2 kk mn md rw dg kn fc oft di)) (ww_A 6 ad) (some (.int res.1))) [.ref (ad 0), .int p0, .int p1].toArray s 0 0 (ww_A 6 ad)) (F0 m 23 ls [.int w5, .ref (ad 0)]) := by
      intro di H locs ls hP hS hl
      obtain rfl := Option.some.inj gw3
      exact hJ23_w3 _ _ _ _ hP hS (lv_sub hl [0, 1, 2] rfl)
    refine lv_if_lt (tgt := 18) hx hb dX5_known_10 (by decide) (fun c6 => ?_) (fun c6 => ?_)
    · rw [if_pos c6] at gw5
      refine lv_iconst (v := 1) hx hb dX5_known_18 (by decide) ?_
      refine lv_goto (tgt := 23) hx hb dX5_known_19 (by decide) ?_
      obtain rfl := Option.some.inj gw5
      exact hJ23_w5 _ _ _ _ hP hS (lv_sub hl [0, 1, 2] rfl)
    · rw [if_neg c6] at gw5
      refine lv_iload_n hx hb dX5_known_13 rfl (lv_at hl 1 rfl) ?_
      refine lv_iconst (v := 4) hx hb dX5_known_14 (by decide) ?_
      obtain ⟨w7, gw7, gw5⟩ := Option.bind_eq_some_iff.mp gw5
      try dsimp only at gw5
      have hJ23_w7 : ∀ (di : Nat → Int32) (H : Heap) (locs : List Loc) (ls : Array Slot), va_P D vwCl (ww 6 ad (cellR cI ad th kk mn md rw dg kn fc oft di)) H → va_S (ww_A 6 ad) s.heap H locs → lv_has ls 6 [(0, .ref (ad 0)), (1, .int p0), (2, .int p1)] → W p l e (headSpec usX5_known { frames := 5, cells := 0, slots := 0, locals := 119 }).room s m [.ref (ad 0), .int p0, .int p1].toArray below meth c H locs 0 0 (MQ below (ct_Qx D (fun di => ww 6 ad (cellR cI ad res.2 kk mn md rw dg kn fc oft di)) (ww_A 6 ad) (some (.int res.1))) [.ref (ad 0), .int p0, .int p1].toArray s 0 0 (ww_A 6 ad)) (F0 m 23 ls [.int w7, .ref (ad 0)]) := by
        intro di H locs ls hP hS hl
        obtain rfl := Option.some.inj gw5
        exact hJ23_w5 _ _ _ _ hP hS (lv_sub hl [0, 1, 2] rfl)
      refine lv_icmp_le (tgt := 22) hx hb dX5_known_15 (by decide) (fun c8 => ?_) (fun c8 => ?_)
      · rw [if_pos c8] at gw7
        refine lv_iconst (v := 0) hx hb dX5_known_22 (by decide) ?_
        obtain rfl := Option.some.inj gw7
        exact hJ23_w7 _ _ _ _ hP hS (lv_sub hl [0, 1, 2] rfl)
      · rw [if_neg c8] at gw7
        refine lv_iconst (v := 1) hx hb dX5_known_18 (by decide) ?_
        refine lv_goto (tgt := 23) hx hb dX5_known_19 (by decide) ?_
        obtain rfl := Option.some.inj gw7
        exact hJ23_w7 _ _ _ _ hP hS (lv_sub hl [0, 1, 2] rfl)
def f_X5_minimal_l57 (k57 : Int32 → (Nat → Int32) → (Nat → Int32) → Option (Int32 × (Int32) × (Nat → Int32) × (Nat → Int32))) (fu : Nat) (th : Int32) (kk : Int32) (mn : Int64) (md : Nat → Int32) (x1 : Int32) (x2 : Int32) (x3 : Int32) : Nat → Int32 → (Nat → Int32) → (Nat → Int32) → Option (Int32 × (Int32) × (Nat → Int32) × (Nat → Int32))
  | 0, _, _, _ => none
  | n + 1, x4, rw, dg =>
    if x3 ≤ x4 then
      k57 x4 rw dg
    else
      (f_X5_clear fu rw dg 3).bind (fun u19 =>
      (f_X5_mate fu kk md x1 x4).bind (fun u21 =>
      (f_X5_negative u21).bind (fun u23 =>
      (f_X5_set fu u19.1 u19.2 3 0 u23).bind (fun u25 =>
      (f_X5_set fu u25.1 u25.2 3 1 1).bind (fun u27 =>
      (f_X5_product fu kk md u27.1 u27.2 2 3 4).bind (fun u29 =>
      (f_X5_copy fu u29.1 u29.2 4 2).bind (fun u31 =>
      f_X5_minimal_l57 k57 fu th kk mn md x1 x2 x3 n (x4 + 1) u31.1 u31.2)))))))
def f_X5_minimal (fu : Nat) (th : Int32) (kk : Int32) (mn : Int64) (md : Nat → Int32) (rw : Nat → Int32) (dg : Nat → Int32) (p0 : Int32) (p1 : Int32) : Option (Int32 × (Int32) × (Nat → Int32) × (Nat → Int32)) :=
  ((
    if p1 < 0 then
      some 1
    else
      ((
        if p1 ≤ 3 then
          some 0
        else
          some 1 : Option (Int32))).bind (fun w3 =>
      some w3) : Option (Int32))).bind (fun w1 =>
  (f_X5_isElement mn p0).bind (fun u5 =>
  ((
    if u5 = 0 then
      some 1
    else
      some 0 : Option (Int32))).bind (fun w7 =>
  (f_X5_fails th w1 w7).bind (fun u9 =>
  if u9.1 = 0 then
    (f_X5_mates fu kk md p0).bind (fun u12 =>
    (f_X5_clear fu rw dg 2).bind (fun u14 =>
    (f_X5_set fu u14.1 u14.2 2 0 1).bind (fun u16 =>
    f_X5_minimal_l57 (fun y33 rw34 dg35 =>
      (f_X5_cell rw34 2 p1).bind (fun u36 =>
      some (u36, u9.2, rw34, dg35))) fu u9.2 kk mn md p0 p1 u12 fu 0 u16.1 u16.2)))
  else
    some (0, u9.2, rw, dg)))))
set_option maxHeartbeats 4000000 in
set_option maxRecDepth 100000 in
theorem C_X5_minimal (l : Launch) (D : va_G) (tys : List (ClassId × FieldType)) {ad : Nat → Nat} (hj : ww_inj 6 ad) {cI : ClassId} (htI : tys[0]? = some (cI, .int)) {fu : Nat} {th : Int32} {kk : Int32} {mn : Int64} {md : Nat → Int32} {rw : Nat → Int32} {dg : Nat → Int32} {kn : Int32} {fc : Int32} {oft : Nat → Int32} {p0 : Int32} {p1 : Int32} {res : Int32 × (Int32) × (Nat → Int32) × (Nat → Int32)} (hf : f_X5_minimal fu th kk mn md rw dg p0 p1 = some res) :
    Met l yX5_minimal usX5_minimal ({ frames := 5, cells := 0, slots := 0, locals := 119 }) (va_Pc [.ref (ad 0), .int p0, .int p1] (ws_Bx D tys (fun di => ww 6 ad (cellR cI ad th kk mn md rw dg kn fc oft di)))) (ct_Qx D (fun di => ww 6 ad (cellR cI ad res.2.1 kk mn md res.2.2.1 res.2.2.2 kn fc oft di)) (ww_A 6 ad) (some (.int res.1))) 0 0 (ww_A 6 ad) := by
  refine Met.ofW (cc := cX5_minimal) (maxL := 5) (ret := (some .int)) (by decide) rfl ?_
  intro p e s m args below meth c s₁ B hml hv
  obtain ⟨rfl, ⟨di, hP⟩, hK⟩ := hv
  have hx := B.exec
  have hb := B.bytes
  have hr := B.returns
  have hts := atoms_spec (ws := usX5_minimal) B.pre
  have hown : s.vm.findClass RX5 = some m.cls := findClass_of_methodNamed B.named
  have hlocks := B.notSynchronized
  have hS : va_S (ww_A 6 ad) s.heap s.heap [] := va_S.rf
  have hl := lv_entry ([.ref (ad 0), .int p0, .int p1]) (n := 5) (Nat.le_of_ble_eq_true rfl)
  rw [lg_entry_eq]
  generalize (lg_sl ([.ref (ad 0), .int p0, .int p1]) ++ List.replicate (5 - (lg_sl ([.ref (ad 0), .int p0, .int p1])).length) Slot.unset).toArray = ls at hl ⊢
  have hl : lv_has ls 5 [(0, .ref (ad 0)), (1, .int p0), (2, .int p1)] := hl
  have L57 : ∀ (th : Int32) (x1 : Int32) (x2 : Int32) (x3 : Int32) (k57 : Int32 → (Nat → Int32) → (Nat → Int32) → Option (Int32 × (Int32) × (Nat → Int32) × (Nat → Int32))), (∀ (x4 : Int32) (rw : Nat → Int32) (dg : Nat → Int32) (di : Nat → Int32) (H : Heap) (locs : List Loc) (ls : Array Slot), va_P D vwCl (ww 6 ad (cellR cI ad th kk mn md rw dg kn fc oft di)) H → va_S (ww_A 6 ad) s.heap H locs → lv_has ls 5 [(0, .ref (ad 0)), (1, .int x1), (2, .int x2), (3, .int x3), (4, .int x4)] →  k57 x4 rw dg = some res → W p l e (headSpec usX5_minimal { frames := 5, cells := 0, slots := 0, locals := 119 }).room s m [.ref (ad 0), .int p0, .int p1].toArray below meth c H locs 0 0 (MQ below (ct_Qx D (fun di => ww 6 ad (cellR cI ad res.2.1 kk mn md res.2.2.1 res.2.2.2 kn fc oft di)) (ww_A 6 ad) (some (.int res.1))) [.ref (ad 0), .int p0, .int p1].toArray s 0 0 (ww_A 6 ad)) (F0 m 110 ls [])) → ∀ (n : Nat) (x4 : Int32) (rw : Nat → Int32) (dg : Nat → Int32) (di : Nat → Int32) (H : Heap) (locs : List Loc) (ls : Array Slot), va_P D vwCl (ww 6 ad (cellR cI ad th kk mn md rw dg kn fc oft di)) H → va_S (ww_A 6 ad) s.heap H locs → lv_has ls 5 [(0, .ref (ad 0)), (1, .int x1), (2, .int x2), (3, .int x3), (4, .int x4)] →  f_X5_minimal_l57 k57 fu th kk mn md x1 x2 x3 n x4 rw dg = some res → W p l e (headSpec usX5_minimal { frames := 5, cells := 0, slots := 0, locals := 119 }).room s m [.ref (ad 0), .int p0, .int p1].toArray below meth c H locs 0 0 (MQ below (ct_Qx D (fun di => ww 6 ad (cellR cI ad res.2.1 kk mn md res.2.2.1 res.2.2.2 kn fc oft di)) (ww_A 6 ad) (some (.int res.1))) [.ref (ad 0), .int p0, .int p1].toArray s 0 0 (ww_A 6 ad)) (F0 m 57 ls []) := by
    intro th x1 x2 x3 k57 hk_57 n
    induction n with
    | zero => intro x4 rw dg di H locs ls hP hS hl hf; rw [f_X5_minimal_l57] at hf; cases hf
    | succ n ih =>
      intro x4 rw dg di H locs ls hP hS hl hf
      rw [f_X5_minimal_l57] at hf
      refine lv_iload hx hb dX5_minimal_57 (lv_at hl 4 rfl) ?_
      refine lv_iload_n hx hb dX5_minimal_59 rfl (lv_at hl 3 rfl) ?_
      refine lv_icmp_ge (tgt := 110) hx hb dX5_minimal_60 (by decide) (fun c18 => ?_) (fun c18 => ?_)
      · rw [if_pos c18] at hf
        exact hk_57 x4 rw dg _ _ _ _ hP hS (lv_sub hl [0, 1, 2, 3, 4] rfl) hf
      · rw [if_neg c18] at hf
        refine lv_aload_n hx hb dX5_minimal_63 rfl (lv_at hl 0 rfl) ?_
        refine lv_iconst (v := 3) hx hb dX5_minimal_64 (by decide) ?_
        obtain ⟨u19, g20, hf⟩ := Option.bind_eq_some_iff.mp hf
        try dsimp only at hf
        refine ct_callx (va_runV (As := [.int 3]) (rest := []) ⟨hx, hb, hml, hown, hts⟩ (C_X5_clear l D tys hj htI (res := u19) g20) (cwV 1 hts (gu_V mw_361 mw_362 mw_363 mw_330 mw_351) rfl rfl rfl (by decide +kernel) ⟨Nat.le_of_ble_eq_true rfl, Nat.le_of_ble_eq_true rfl⟩) (ct_preVx (w := fun di => ww 6 ad (cellR cI ad th kk mn md rw dg kn fc oft di)) hP hK (ci := 5) (k := 0) rfl cr_mdl) rfl rfl hl.1 rfl (lv_room (Nat.le_of_ble_eq_true rfl)) dX5_minimal_65 ⟨Nat.zero_le _, Nat.zero_le _⟩) hS (fun di H locs hP hS => ?_)
        refine lv_aload_n hx hb dX5_minimal_68 rfl (lv_at hl 0 rfl) ?_
        refine lv_iconst (v := 3) hx hb dX5_minimal_69 (by decide) ?_
        refine lv_iconst (v := 0) hx hb dX5_minimal_70 (by decide) ?_
        refine lv_aload_n hx hb dX5_minimal_71 rfl (lv_at hl 0 rfl) ?_
        refine lv_iload_n hx hb dX5_minimal_72 rfl (lv_at hl 1 rfl) ?_
        refine lv_iload hx hb dX5_minimal_73 (lv_at hl 4 rfl) ?_
        obtain ⟨u21, g22, hf⟩ := Option.bind_eq_some_iff.mp hf
        try dsimp only at hf
        refine ct_callx (va_runV (As := [.int x1, .int x4]) (rest := [.int 0, .int 3, .ref (ad 0)]) ⟨hx, hb, hml, hown, hts⟩ (C_X5_mate l D tys hj htI (res := u21) g22) (cwV 2 hts (gu_V mw_347 mw_348 mw_349 mw_330 mw_345) rfl rfl rfl (by decide +kernel) ⟨Nat.le_of_ble_eq_true rfl, Nat.le_of_ble_eq_true rfl⟩) (ct_preVx (w := fun di => ww 6 ad (cellR cI ad th kk mn md u19.1 u19.2 kn fc oft di)) hP hK (ci := 5) (k := 0) rfl cr_mdl) rfl rfl hl.1 rfl (lv_room (Nat.le_of_ble_eq_true rfl)) dX5_minimal_75 ⟨Nat.zero_le _, Nat.zero_le _⟩) hS (fun di H locs hP hS => ?_)
        obtain ⟨u23, g24, hf⟩ := Option.bind_eq_some_iff.mp hf
        try dsimp only at hf
        refine ct_callx (va_runS (As := [.int u21]) (rest := [.int 0, .int 3, .ref (ad 0)]) ⟨hx, hb, hml, hown, hts⟩ (C_X5_negative l D tys hj htI (res := u23) g24) (cwS 1 hts (gu_S mw_328 mw_329 mw_330 mw_326) rfl rfl rfl (by decide +kernel) ⟨Nat.le_of_ble_eq_true rfl, Nat.le_of_ble_eq_true rfl⟩) (ct_preSx (w := fun di => ww 6 ad (cellR cI ad th kk mn md u19.1 u19.2 kn fc oft di)) hP hK) rfl rfl hl.1 rfl (lv_room (Nat.le_of_ble_eq_true rfl)) dX5_minimal_78 ⟨Nat.zero_le _, Nat.zero_le _⟩) hS (fun di H locs hP hS => ?_)
        obtain ⟨u25, g26, hf⟩ := Option.bind_eq_some_iff.mp hf
        try dsimp only at hf
        refine ct_callx (va_runV (As := [.int 3, .int 0, .int u23]) (rest := []) ⟨hx, hb, hml, hown, hts⟩ (C_X5_set l D tys hj htI (res := u25) g26) (cwV 3 hts (gu_V mw_377 mw_378 mw_379 mw_330 mw_366) rfl rfl rfl (by decide +kernel) ⟨Nat.le_of_ble_eq_true rfl, Nat.le_of_ble_eq_true rfl⟩) (ct_preVx (w := fun di => ww 6 ad (cellR cI ad th kk mn md u19.1 u19.2 kn fc oft di)) hP hK (ci := 5) (k := 0) rfl cr_mdl) rfl rfl hl.1 rfl (lv_room (Nat.le_of_ble_eq_true rfl)) dX5_minimal_81 ⟨Nat.zero_le _, Nat.zero_le _⟩) hS (fun di H locs hP hS => ?_)
        refine lv_aload_n hx hb dX5_minimal_84 rfl (lv_at hl 0 rfl) ?_
        refine lv_iconst (v := 3) hx hb dX5_minimal_85 (by decide) ?_
        refine lv_iconst (v := 1) hx hb dX5_minimal_86 (by decide) ?_
        refine lv_iconst (v := 1) hx hb dX5_minimal_87 (by decide) ?_
        obtain ⟨u27, g28, hf⟩ := Option.bind_eq_some_iff.mp hf
        try dsimp only at hf
        refine ct_callx (va_runV (As := [.int 3, .int 1, .int 1]) (rest := []) ⟨hx, hb, hml, hown, hts⟩ (C_X5_set l D tys hj htI (res := u27) g28) (cwV 3 hts (gu_V mw_377 mw_378 mw_379 mw_330 mw_366) rfl rfl rfl (by decide +kernel) ⟨Nat.le_of_ble_eq_true rfl, Nat.le_of_ble_eq_true rfl⟩) (ct_preVx (w := fun di => ww 6 ad (cellR cI ad th kk mn md u25.1 u25.2 kn fc oft di)) hP hK (ci := 5) (k := 0) rfl cr_mdl) rfl rfl hl.1 rfl (lv_room (Nat.le_of_ble_eq_true rfl)) dX5_minimal_88 ⟨Nat.zero_le _, Nat.zero_le _⟩) hS (fun di H locs hP hS => ?_)
        refine lv_aload_n hx hb dX5_minimal_91 rfl (lv_at hl 0 rfl) ?_
        refine lv_iconst (v := 2) hx hb dX5_minimal_92 (by decide) ?_
        refine lv_iconst (v := 3) hx hb dX5_minimal_93 (by decide) ?_
        refine lv_iconst (v := 4) hx hb dX5_minimal_94 (by decide) ?_
        obtain ⟨u29, g30, hf⟩ := Option.bind_eq_some_iff.mp hf
        try dsimp only at hf
        refine ct_callx (va_runV (As := [.int 2, .int 3, .int 4]) (rest := []) ⟨hx, hb, hml, hown, hts⟩ (C_X5_product l D tys hj htI (res := u29) g30) (cwV 3 hts (gu_V mw_393 mw_394 mw_395 mw_330 mw_368) rfl rfl rfl (by decide +kernel) ⟨Nat.le_of_ble_eq_true rfl, Nat.le_of_ble_eq_true rfl⟩) (ct_preVx (w := fun di => ww 6 ad (cellR cI ad th kk mn md u27.1 u27.2 kn fc oft di)) hP hK (ci := 5) (k := 0) rfl cr_mdl) rfl rfl hl.1 rfl (lv_room (Nat.le_of_ble_eq_true rfl)) dX5_minimal_95 ⟨Nat.zero_le _, Nat.zero_le _⟩) hS (fun di H locs hP hS => ?_)
        refine lv_aload_n hx hb dX5_minimal_98 rfl (lv_at hl 0 rfl) ?_
        refine lv_iconst (v := 4) hx hb dX5_minimal_99 (by decide) ?_
        refine lv_iconst (v := 2) hx hb dX5_minimal_100 (by decide) ?_
        obtain ⟨u31, g32, hf⟩ := Option.bind_eq_some_iff.mp hf
        try dsimp only at hf
        refine ct_callx (va_runV (As := [.int 4, .int 2]) (rest := []) ⟨hx, hb, hml, hown, hts⟩ (C_X5_copy l D tys hj htI (res := u31) g32) (cwV 2 hts (gu_V mw_385 mw_386 mw_387 mw_330 mw_365) rfl rfl rfl (by decide +kernel) ⟨Nat.le_of_ble_eq_true rfl, Nat.le_of_ble_eq_true rfl⟩) (ct_preVx (w := fun di => ww 6 ad (cellR cI ad th kk mn md u29.1 u29.2 kn fc oft di)) hP hK (ci := 5) (k := 0) rfl cr_mdl) rfl rfl hl.1 rfl (lv_room (Nat.le_of_ble_eq_true rfl)) dX5_minimal_101 ⟨Nat.zero_le _, Nat.zero_le _⟩) hS (fun di H locs hP hS => ?_)
        refine lv_iinc (v := x4 + 1) (lv' := [(4, .int (x4 + 1)), (0, .ref (ad 0)), (1, .int x1), (2, .int x2), (3, .int x3)]) hx hb dX5_minimal_104 hl (k := 4) rfl rfl (by decide) rfl (fun ls hl => ?_)
        refine lv_goto (tgt := 57) hx hb dX5_minimal_107 (by decide) ?_
        exact ih (x4 + 1) u31.1 u31.2 _ _ _ _ hP hS (lv_sub hl [1, 2, 3, 4, 0] rfl) hf
  unfold f_X5_minimal at hf
  refine lv_aload_n hx hb dX5_minimal_0 rfl (lv_at hl 0 rfl) ?_
  refine lv_iload_n hx hb dX5_minimal_1 rfl (lv_at hl 2 rfl) ?_
  obtain ⟨w1, gw1, hf⟩ := Option.bind_eq_some_iff.mp hf
  try dsimp only at hf
  have hJ15_w1 : ∀ (di : Nat → Int32) (H : Heap) (locs : List Loc) (ls : Array Slot), va_P D vwCl (ww 6 ad (cellR cI ad th kk mn md rw dg kn fc oft di)) H → va_S (ww_A 6 ad) s.heap H locs → lv_has ls 5 [(0, .ref (ad 0)), (1, .int p0), (2, .int p1)] → W p l e (headSpec usX5_minimal { frames := 5, cells := 0, slots := 0, locals := 119 }).room s m [.ref (ad 0), .int p0, .int p1].toArray below meth c H locs 0 0 (MQ below (ct_Qx D (fun di => ww 6 ad (cellR cI ad res.2.1 kk mn md res.2.2.1 res.2.2.2 kn fc oft di)) (ww_A 6 ad) (some (.int res.1))) [.ref (ad 0), .int p0, .int p1].toArray s 0 0 (ww_A 6 ad)) (F0 m 15 ls [.int w1, .ref (ad 0)]) := by
    intro di H locs ls hP hS hl
    refine lv_aload_n hx hb dX5_minimal_15 rfl (lv_at hl 0 rfl) ?_
    refine lv_iload_n hx hb dX5_minimal_16 rfl (lv_at hl 1 rfl) ?_
    obtain ⟨u5, g6, hf⟩ := Option.bind_eq_some_iff.mp hf
    try dsimp only at hf
    refine ct_callx (va_runV (As := [.int p0]) (rest := [.int w1, .ref (ad 0)]) ⟨hx, hb, hml, hown, hts⟩ (C_X5_isElement l D tys hj htI (res := u5) g6) (cwV 1 hts (gu_V mw_403 mw_404 mw_405 mw_330 mw_323) rfl rfl rfl (by decide +kernel) ⟨Nat.le_of_ble_eq_true rfl, Nat.le_of_ble_eq_true rfl⟩) (ct_preVx (w := fun di => ww 6 ad (cellR cI ad th kk mn md rw dg kn fc oft di)) hP hK (ci := 5) (k := 0) rfl cr_mdl) rfl rfl hl.1 rfl (lv_room (Nat.le_of_ble_eq_true rfl)) dX5_minimal_17 ⟨Nat.zero_le _, Nat.zero_le _⟩) hS (fun di H locs hP hS => ?_)
    obtain ⟨w7, gw7, hf⟩ := Option.bind_eq_some_iff.mp hf
    try dsimp only at hf
    have hJ28_w7 : ∀ (di : Nat → Int32) (H : Heap) (locs : List Loc) (ls : Array Slot), va_P D vwCl (ww 6 ad (cellR cI ad th kk mn md rw dg kn fc oft di)) H → va_S (ww_A 6 ad) s.heap H locs → lv_has ls 5 [(0, .ref (ad 0)), (1, .int p0), (2, .int p1)] → W p l e (headSpec usX5_minimal { frames := 5, cells := 0, slots := 0, locals := 119 }).room s m [.ref (ad 0), .int p0, .int p1].toArray below meth c H locs 0 0 (MQ below (ct_Qx D (fun di => ww 6 ad (cellR cI ad res.2.1 kk mn md res.2.2.1 res.2.2.2 kn fc oft di)) (ww_A 6 ad) (some (.int res.1))) [.ref (ad 0), .int p0, .int p1].toArray s 0 0 (ww_A 6 ad)) (F0 m 28 ls [.int w7, .int w1, .ref (ad 0)]) := by
      intro di H locs ls hP hS hl
      obtain ⟨u9, g10, hf⟩ := Option.bind_eq_some_iff.mp hf
      try dsimp only at hf
      refine ct_callx (va_runV (As := [.int w1, .int w7]) (rest := []) ⟨hx, hb, hml, hown, hts⟩ (C_X5_fails l D tys hj htI (res := u9) g10) (cwV 2 hts (gu_V mw_356 mw_357 mw_358 mw_330 mw_322) rfl rfl rfl (by decide +kernel) ⟨Nat.le_of_ble_eq_true rfl, Nat.le_of_ble_eq_true rfl⟩) (ct_preVx (w := fun di => ww 6 ad (cellR cI ad th kk mn md rw dg kn fc oft di)) hP hK (ci := 5) (k := 0) rfl cr_mdl) rfl rfl hl.1 rfl (lv_room (Nat.le_of_ble_eq_true rfl)) dX5_minimal_28 ⟨Nat.zero_le _, Nat.zero_le _⟩) hS (fun di H locs hP hS => ?_)
      refine lv_if_eq (tgt := 36) hx hb dX5_minimal_31 (by decide) (fun c11 => ?_) (fun c11 => ?_)
      · rw [if_pos c11] at hf
        refine lv_aload_n hx hb dX5_minimal_36 rfl (lv_at hl 0 rfl) ?_
        refine lv_iload_n hx hb dX5_minimal_37 rfl (lv_at hl 1 rfl) ?_
        obtain ⟨u12, g13, hf⟩ := Option.bind_eq_some_iff.mp hf
        try dsimp only at hf
        refine ct_callx (va_runV (As := [.int p0]) (rest := []) ⟨hx, hb, hml, hown, hts⟩ (C_X5_mates l D tys hj htI (res := u12) g13) (cwV 1 hts (gu_V mw_409 mw_410 mw_411 mw_330 mw_346) rfl rfl rfl (by decide +kernel) ⟨Nat.le_of_ble_eq_true rfl, Nat.le_of_ble_eq_true rfl⟩) (ct_preVx (w := fun di => ww 6 ad (cellR cI ad u9.2 kk mn md rw dg kn fc oft di)) hP hK (ci := 5) (k := 0) rfl cr_mdl) rfl rfl hl.1 rfl (lv_room (Nat.le_of_ble_eq_true rfl)) dX5_minimal_38 ⟨Nat.zero_le _, Nat.zero_le _⟩) hS (fun di H locs hP hS => ?_)
        refine lv_istore_n (lv' := [(3, .int u12), (0, .ref (ad 0)), (1, .int p0), (2, .int p1)]) hx hb dX5_minimal_41 rfl hl (by decide) rfl (fun ls hl => ?_)
        refine lv_aload_n hx hb dX5_minimal_42 rfl (lv_at hl 1 rfl) ?_
        refine lv_iconst (v := 2) hx hb dX5_minimal_43 (by decide) ?_
        obtain ⟨u14, g15, hf⟩ := Option.bind_eq_some_iff.mp hf
        try dsimp only at hf
        refine ct_callx (va_runV (As := [.int 2]) (rest := []) ⟨hx, hb, hml, hown, hts⟩ (C_X5_clear l D tys hj htI (res := u14) g15) (cwV 1 hts (gu_V mw_361 mw_362 mw_363 mw_330 mw_351) rfl rfl rfl (by decide +kernel) ⟨Nat.le_of_ble_eq_true rfl, Nat.le_of_ble_eq_true rfl⟩) (ct_preVx (w := fun di => ww 6 ad (cellR cI ad u9.2 kk mn md rw dg kn fc oft di)) hP hK (ci := 5) (k := 0) rfl cr_mdl) rfl rfl hl.1 rfl (lv_room (Nat.le_of_ble_eq_true rfl)) dX5_minimal_44 ⟨Nat.zero_le _, Nat.zero_le _⟩) hS (fun di H locs hP hS => ?_)
        refine lv_aload_n hx hb dX5_minimal_47 rfl (lv_at hl 1 rfl) ?_
        refine lv_iconst (v := 2) hx hb dX5_minimal_48 (by decide) ?_
        refine lv_iconst (v := 0) hx hb dX5_minimal_49 (by decide) ?_
        refine lv_iconst (v := 1) hx hb dX5_minimal_50 (by decide) ?_
        obtain ⟨u16, g17, hf⟩ := Option.bind_eq_some_iff.mp hf
        try dsimp only at hf
        refine ct_callx (va_runV (As := [.int 2, .int 0, .int 1]) (rest := []) ⟨hx, hb, hml, hown, hts⟩ (C_X5_set l D tys hj htI (res := u16) g17) (cwV 3 hts (gu_V mw_377 mw_378 mw_379 mw_330 mw_366) rfl rfl rfl (by decide +kernel) ⟨Nat.le_of_ble_eq_true rfl, Nat.le_of_ble_eq_true rfl⟩) (ct_preVx (w := fun di => ww 6 ad (cellR cI ad u9.2 kk mn md u14.1 u14.2 kn fc oft di)) hP hK (ci := 5) (k := 0) rfl cr_mdl) rfl rfl hl.1 rfl (lv_room (Nat.le_of_ble_eq_true rfl)) dX5_minimal_51 ⟨Nat.zero_le _, Nat.zero_le _⟩) hS (fun di H locs hP hS => ?_)
        refine lv_iconst (v := 0) hx hb dX5_minimal_54 (by decide) ?_
        refine lv_istore (lv' := [(4, .int 0), (3, .int u12), (0, .ref (ad 0)), (1, .int p0), (2, .int p1)]) hx hb dX5_minimal_55 hl (by decide) rfl (fun ls hl => ?_)
        refine L57 u9.2 p0 p1 u12 _ (fun y33 rw34 dg35 di H locs ls hP hS hl hf => ?_) fu 0 u16.1 u16.2 _ _ _ _ hP hS (lv_sub hl [2, 3, 4, 1, 0] rfl) hf
        try dsimp only at hf
        refine lv_aload_n hx hb dX5_minimal_110 rfl (lv_at hl 0 rfl) ?_
        refine lv_iconst (v := 2) hx hb dX5_minimal_111 (by decide) ?_
        refine lv_iload_n hx hb dX5_minimal_112 rfl (lv_at hl 2 rfl) ?_
        obtain ⟨u36, g37, hf⟩ := Option.bind_eq_some_iff.mp hf
        try dsimp only at hf
        refine ct_callx (va_runV (As := [.int 2, .int p1]) (rest := []) ⟨hx, hb, hml, hown, hts⟩ (C_X5_cell l D tys hj htI (res := u36) g37) (cwV 2 hts (gu_V mw_369 mw_370 mw_371 mw_330 mw_367) rfl rfl rfl (by decide +kernel) ⟨Nat.le_of_ble_eq_true rfl, Nat.le_of_ble_eq_true rfl⟩) (ct_preVx (w := fun di => ww 6 ad (cellR cI ad u9.2 kk mn md rw34 dg35 kn fc oft di)) hP hK (ci := 5) (k := 0) rfl cr_mdl) rfl rfl hl.1 rfl (lv_room (Nat.le_of_ble_eq_true rfl)) dX5_minimal_113 ⟨Nat.zero_le _, Nat.zero_le _⟩) hS (fun di H locs hP hS => ?_)
        obtain rfl := Option.some.inj hf
        exact W.iret (v := u36) hx hb hr (fun t ht hW => ⟨rfl, ⟨di, by rw [ht]; exact hP⟩, hS.F ht⟩) hS.2.2 dX5_minimal_116
      · rw [if_neg c11] at hf
        refine lv_iconst (v := 0) hx hb dX5_minimal_34 (by decide) ?_
        obtain rfl := Option.some.inj hf
        exact W.iret (v := 0) hx hb hr (fun t ht hW => ⟨rfl, ⟨di, by rw [ht]; exact hP⟩, hS.F ht⟩) hS.2.2 dX5_minimal_35
    refine lv_if_ne (tgt := 27) hx hb dX5_minimal_20 (by decide) (fun c8 => ?_) (fun c8 => ?_)
    · rw [if_neg c8] at gw7
      refine lv_iconst (v := 0) hx hb dX5_minimal_27 (by decide) ?_
      obtain rfl := Option.some.inj gw7
      exact hJ28_w7 _ _ _ _ hP hS (lv_sub hl [0, 1, 2] rfl)
    · rw [if_pos c8] at gw7
      refine lv_iconst (v := 1) hx hb dX5_minimal_23 (by decide) ?_
      refine lv_goto (tgt := 28) hx hb dX5_minimal_24 (by decide) ?_
      obtain rfl := Option.some.inj gw7
      exact hJ28_w7 _ _ _ _ hP hS (lv_sub hl [0, 1, 2] rfl)
  refine lv_if_lt (tgt := 10) hx hb dX5_minimal_2 (by decide) (fun c2 => ?_) (fun c2 => ?_)
  · rw [if_pos c2] at gw1
    refine lv_iconst (v := 1) hx hb dX5_minimal_10 (by decide) ?_
    refine lv_goto (tgt := 15) hx hb dX5_minimal_11 (by decide) ?_
    obtain rfl := Option.some.inj gw1
    exact hJ15_w1 _ _ _ _ hP hS (lv_sub hl [0, 1, 2] rfl)
  · rw [if_neg c2] at gw1
    refine lv_iload_n hx hb dX5_minimal_5 rfl (lv_at hl 2 rfl) ?_
    refine lv_iconst (v := 3) hx hb dX5_minimal_6 (by decide) ?_
    obtain ⟨w3, gw3, gw1⟩ := Option.bind_eq_some_iff.mp gw1
    try dsimp only at gw1
    have hJ15_w3 : ∀ (di : Nat → Int32) (H : Heap) (locs : List Loc) (ls : Array Slot), va_P D vwCl (ww 6 ad (cellR cI ad th kk mn md rw dg kn fc oft di)) H → va_S (ww_A 6 ad) s.heap H locs → lv_has ls 5 [(0, .ref (ad 0)), (1, .int p0), (2, .int p1)] → W p l e (headSpec usX5_minimal { frames := 5, cells := 0, slots := 0, locals := 119 }).room s m [.ref (ad 0), .int p0, .int p1].toArray below meth c H locs 0 0 (MQ below (ct_Qx D (fun di => ww 6 ad (cellR cI ad res.2.1 kk mn md res.2.2.1 res.2.2.2 kn fc oft di)) (ww_A 6 ad) (some (.int res.1))) [.ref (ad 0), .int p0, .int p1].toArray s 0 0 (ww_A 6 ad)) (F0 m 15 ls [.int w3, .ref (ad 0)]) := by
      intro di H locs ls hP hS hl
      obtain rfl := Option.some.inj gw1
      exact hJ15_w1 _ _ _ _ hP hS (lv_sub hl [0, 1, 2] rfl)
    refine lv_icmp_le (tgt := 14) hx hb dX5_minimal_7 (by decide) (fun c4 => ?_) (fun c4 => ?_)
    · rw [if_pos c4] at gw3
      refine lv_iconst (v := 0) hx hb dX5_minimal_14 (by decide) ?_
      obtain rfl := Option.some.inj gw3
      exact hJ15_w3 _ _ _ _ hP hS (lv_sub hl [0, 1, 2] rfl)
    · rw [if_neg c4] at gw3
      refine lv_iconst (v := 1) hx hb dX5_minimal_10 (by decide) ?_
      refine lv_goto (tgt := 15) hx hb dX5_minimal_11 (by decide) ?_
      obtain rfl := Option.some.inj gw3
      exact hJ15_w3 _ _ _ _ hP hS (lv_sub hl [0, 1, 2] rfl)
def f_X5_value_l27 (k27 : Int32 → Int32 → Option (Int32 × (Int32))) (fu : Nat) (th : Int32) (kk : Int32) (mn : Int64) (md : Nat → Int32) (rw : Nat → Int32) (x1 : Int32) : Nat → Int32 → Int32 → Option (Int32 × (Int32))
  | 0, _, _ => none
  | n + 1, x2, x3 =>
    if x3 < 0 then
      k27 x2 x3
    else
      (f_X5_times fu kk md x2 x1).bind (fun u9 =>
      (f_X5_cell rw 0 x3).bind (fun u11 =>
      (f_X5_add u9 u11).bind (fun u13 =>
      f_X5_value_l27 k27 fu th kk mn md rw x1 n u13 (x3 + (-1)))))
def f_X5_value (fu : Nat) (th : Int32) (kk : Int32) (mn : Int64) (md : Nat → Int32) (rw : Nat → Int32) (p0 : Int32) : Option (Int32 × (Int32)) :=
  (f_X5_isElement mn p0).bind (fun u1 =>
  ((
    if u1 = 0 then
      some 1
    else
      some 0 : Option (Int32))).bind (fun w3 =>
  (f_X5_fails th w3 0).bind (fun u5 =>
  if u5.1 = 0 then
    f_X5_value_l27 (fun y15 y16 =>
      some (y15, u5.2)) fu u5.2 kk mn md rw p0 fu 0 5
  else
    some (0, u5.2))))
set_option maxHeartbeats 4000000 in
set_option maxRecDepth 100000 in
theorem C_X5_value (l : Launch) (D : va_G) (tys : List (ClassId × FieldType)) {ad : Nat → Nat} (hj : ww_inj 6 ad) {cI : ClassId} (htI : tys[0]? = some (cI, .int)) {fu : Nat} {th : Int32} {kk : Int32} {mn : Int64} {md : Nat → Int32} {rw : Nat → Int32} {dg : Nat → Int32} {kn : Int32} {fc : Int32} {oft : Nat → Int32} {p0 : Int32} {res : Int32 × (Int32)} (hf : f_X5_value fu th kk mn md rw p0 = some res) :
    Met l yX5_value usX5_value ({ frames := 2, cells := 0, slots := 0, locals := 46 }) (va_Pc [.ref (ad 0), .int p0] (ws_Bx D tys (fun di => ww 6 ad (cellR cI ad th kk mn md rw dg kn fc oft di)))) (ct_Qx D (fun di => ww 6 ad (cellR cI ad res.2 kk mn md rw dg kn fc oft di)) (ww_A 6 ad) (some (.int res.1))) 0 0 (ww_A 6 ad) := by
  refine Met.ofW (cc := cX5_value) (maxL := 4) (ret := (some .int)) (by decide) rfl ?_
  intro p e s m args below meth c s₁ B hml hv
  obtain ⟨rfl, ⟨di, hP⟩, hK⟩ := hv
  have hx := B.exec
  have hb := B.bytes
  have hr := B.returns
  have hts := atoms_spec (ws := usX5_value) B.pre
  have hown : s.vm.findClass RX5 = some m.cls := findClass_of_methodNamed B.named
  have hlocks := B.notSynchronized
  have hS : va_S (ww_A 6 ad) s.heap s.heap [] := va_S.rf
  have hl := lv_entry ([.ref (ad 0), .int p0]) (n := 4) (Nat.le_of_ble_eq_true rfl)
  rw [lg_entry_eq]
  generalize (lg_sl ([.ref (ad 0), .int p0]) ++ List.replicate (4 - (lg_sl ([.ref (ad 0), .int p0])).length) Slot.unset).toArray = ls at hl ⊢
  have hl : lv_has ls 4 [(0, .ref (ad 0)), (1, .int p0)] := hl
  have L27 : ∀ (th : Int32) (x1 : Int32) (k27 : Int32 → Int32 → Option (Int32 × (Int32))), (∀ (x2 : Int32) (x3 : Int32) (di : Nat → Int32) (H : Heap) (locs : List Loc) (ls : Array Slot), va_P D vwCl (ww 6 ad (cellR cI ad th kk mn md rw dg kn fc oft di)) H → va_S (ww_A 6 ad) s.heap H locs → lv_has ls 4 [(0, .ref (ad 0)), (1, .int x1), (2, .int x2), (3, .int x3)] →  k27 x2 x3 = some res → W p l e (headSpec usX5_value { frames := 2, cells := 0, slots := 0, locals := 46 }).room s m [.ref (ad 0), .int p0].toArray below meth c H locs 0 0 (MQ below (ct_Qx D (fun di => ww 6 ad (cellR cI ad res.2 kk mn md rw dg kn fc oft di)) (ww_A 6 ad) (some (.int res.1))) [.ref (ad 0), .int p0].toArray s 0 0 (ww_A 6 ad)) (F0 m 53 ls [])) → ∀ (n : Nat) (x2 : Int32) (x3 : Int32) (di : Nat → Int32) (H : Heap) (locs : List Loc) (ls : Array Slot), va_P D vwCl (ww 6 ad (cellR cI ad th kk mn md rw dg kn fc oft di)) H → va_S (ww_A 6 ad) s.heap H locs → lv_has ls 4 [(0, .ref (ad 0)), (1, .int x1), (2, .int x2), (3, .int x3)] →  f_X5_value_l27 k27 fu th kk mn md rw x1 n x2 x3 = some res → W p l e (headSpec usX5_value { frames := 2, cells := 0, slots := 0, locals := 46 }).room s m [.ref (ad 0), .int p0].toArray below meth c H locs 0 0 (MQ below (ct_Qx D (fun di => ww 6 ad (cellR cI ad res.2 kk mn md rw dg kn fc oft di)) (ww_A 6 ad) (some (.int res.1))) [.ref (ad 0), .int p0].toArray s 0 0 (ww_A 6 ad)) (F0 m 27 ls []) := by
    intro th x1 k27 hk_27 n
    induction n with
    | zero => intro x2 x3 di H locs ls hP hS hl hf; rw [f_X5_value_l27] at hf; cases hf
    | succ n ih =>
      intro x2 x3 di H locs ls hP hS hl hf
      rw [f_X5_value_l27] at hf
      refine lv_iload_n hx hb dX5_value_27 rfl (lv_at hl 3 rfl) ?_
      refine lv_if_lt (tgt := 53) hx hb dX5_value_28 (by decide) (fun c8 => ?_) (fun c8 => ?_)
      · rw [if_pos c8] at hf
        exact hk_27 x2 x3 _ _ _ _ hP hS (lv_sub hl [0, 1, 2, 3] rfl) hf
      · rw [if_neg c8] at hf
        refine lv_aload_n hx hb dX5_value_31 rfl (lv_at hl 0 rfl) ?_
        refine lv_iload_n hx hb dX5_value_32 rfl (lv_at hl 2 rfl) ?_
        refine lv_iload_n hx hb dX5_value_33 rfl (lv_at hl 1 rfl) ?_
        obtain ⟨u9, g10, hf⟩ := Option.bind_eq_some_iff.mp hf
        try dsimp only at hf
        refine ct_callx (va_runV (As := [.int x2, .int x1]) (rest := []) ⟨hx, hb, hml, hown, hts⟩ (C_X5_times l D tys hj htI (res := u9) g10) (cwV 2 hts (gu_V mw_337 mw_338 mw_339 mw_330 mw_333) rfl rfl rfl (by decide +kernel) ⟨Nat.le_of_ble_eq_true rfl, Nat.le_of_ble_eq_true rfl⟩) (ct_preVx (w := fun di => ww 6 ad (cellR cI ad th kk mn md rw dg kn fc oft di)) hP hK (ci := 5) (k := 0) rfl cr_mdl) rfl rfl hl.1 rfl (lv_room (Nat.le_of_ble_eq_true rfl)) dX5_value_34 ⟨Nat.zero_le _, Nat.zero_le _⟩) hS (fun di H locs hP hS => ?_)
        refine lv_aload_n hx hb dX5_value_37 rfl (lv_at hl 0 rfl) ?_
        refine lv_iconst (v := 0) hx hb dX5_value_38 (by decide) ?_
        refine lv_iload_n hx hb dX5_value_39 rfl (lv_at hl 3 rfl) ?_
        obtain ⟨u11, g12, hf⟩ := Option.bind_eq_some_iff.mp hf
        try dsimp only at hf
        refine ct_callx (va_runV (As := [.int 0, .int x3]) (rest := [.int u9]) ⟨hx, hb, hml, hown, hts⟩ (C_X5_cell l D tys hj htI (res := u11) g12) (cwV 2 hts (gu_V mw_369 mw_370 mw_371 mw_330 mw_367) rfl rfl rfl (by decide +kernel) ⟨Nat.le_of_ble_eq_true rfl, Nat.le_of_ble_eq_true rfl⟩) (ct_preVx (w := fun di => ww 6 ad (cellR cI ad th kk mn md rw dg kn fc oft di)) hP hK (ci := 5) (k := 0) rfl cr_mdl) rfl rfl hl.1 rfl (lv_room (Nat.le_of_ble_eq_true rfl)) dX5_value_40 ⟨Nat.zero_le _, Nat.zero_le _⟩) hS (fun di H locs hP hS => ?_)
        obtain ⟨u13, g14, hf⟩ := Option.bind_eq_some_iff.mp hf
        try dsimp only at hf
        refine ct_callx (va_runS (As := [.int u9, .int u11]) (rest := []) ⟨hx, hb, hml, hown, hts⟩ (C_X5_add l D tys hj htI (res := u13) g14) (cwS 2 hts (gu_S mw_331 mw_332 mw_330 mw_325) rfl rfl rfl (by decide +kernel) ⟨Nat.le_of_ble_eq_true rfl, Nat.le_of_ble_eq_true rfl⟩) (ct_preSx (w := fun di => ww 6 ad (cellR cI ad th kk mn md rw dg kn fc oft di)) hP hK) rfl rfl hl.1 rfl (lv_room (Nat.le_of_ble_eq_true rfl)) dX5_value_43 ⟨Nat.zero_le _, Nat.zero_le _⟩) hS (fun di H locs hP hS => ?_)
        refine lv_istore_n (lv' := [(2, .int u13), (0, .ref (ad 0)), (1, .int x1), (3, .int x3)]) hx hb dX5_value_46 rfl hl (by decide) rfl (fun ls hl => ?_)
        refine lv_iinc (v := x3 + (-1)) (lv' := [(3, .int (x3 + (-1))), (2, .int u13), (0, .ref (ad 0)), (1, .int x1)]) hx hb dX5_value_47 hl (k := 3) rfl rfl (by decide) rfl (fun ls hl => ?_)
        refine lv_goto (tgt := 27) hx hb dX5_value_50 (by decide) ?_
        exact ih u13 (x3 + (-1)) _ _ _ _ hP hS (lv_sub hl [2, 3, 1, 0] rfl) hf
  unfold f_X5_value at hf
  refine lv_aload_n hx hb dX5_value_0 rfl (lv_at hl 0 rfl) ?_
  refine lv_aload_n hx hb dX5_value_1 rfl (lv_at hl 0 rfl) ?_
  refine lv_iload_n hx hb dX5_value_2 rfl (lv_at hl 1 rfl) ?_
  obtain ⟨u1, g2, hf⟩ := Option.bind_eq_some_iff.mp hf
  try dsimp only at hf
  refine ct_callx (va_runV (As := [.int p0]) (rest := [.ref (ad 0)]) ⟨hx, hb, hml, hown, hts⟩ (C_X5_isElement l D tys hj htI (res := u1) g2) (cwV 1 hts (gu_V mw_403 mw_404 mw_405 mw_330 mw_323) rfl rfl rfl (by decide +kernel) ⟨Nat.le_of_ble_eq_true rfl, Nat.le_of_ble_eq_true rfl⟩) (ct_preVx (w := fun di => ww 6 ad (cellR cI ad th kk mn md rw dg kn fc oft di)) hP hK (ci := 5) (k := 0) rfl cr_mdl) rfl rfl hl.1 rfl (lv_room (Nat.le_of_ble_eq_true rfl)) dX5_value_3 ⟨Nat.zero_le _, Nat.zero_le _⟩) hS (fun di H locs hP hS => ?_)
  obtain ⟨w3, gw3, hf⟩ := Option.bind_eq_some_iff.mp hf
  try dsimp only at hf
  have hJ14_w3 : ∀ (di : Nat → Int32) (H : Heap) (locs : List Loc) (ls : Array Slot), va_P D vwCl (ww 6 ad (cellR cI ad th kk mn md rw dg kn fc oft di)) H → va_S (ww_A 6 ad) s.heap H locs → lv_has ls 4 [(0, .ref (ad 0)), (1, .int p0)] → W p l e (headSpec usX5_value { frames := 2, cells := 0, slots := 0, locals := 46 }).room s m [.ref (ad 0), .int p0].toArray below meth c H locs 0 0 (MQ below (ct_Qx D (fun di => ww 6 ad (cellR cI ad res.2 kk mn md rw dg kn fc oft di)) (ww_A 6 ad) (some (.int res.1))) [.ref (ad 0), .int p0].toArray s 0 0 (ww_A 6 ad)) (F0 m 14 ls [.int w3, .ref (ad 0)]) := by
    intro di H locs ls hP hS hl
    refine lv_iconst (v := 0) hx hb dX5_value_14 (by decide) ?_
    obtain ⟨u5, g6, hf⟩ := Option.bind_eq_some_iff.mp hf
    try dsimp only at hf
    refine ct_callx (va_runV (As := [.int w3, .int 0]) (rest := []) ⟨hx, hb, hml, hown, hts⟩ (C_X5_fails l D tys hj htI (res := u5) g6) (cwV 2 hts (gu_V mw_356 mw_357 mw_358 mw_330 mw_322) rfl rfl rfl (by decide +kernel) ⟨Nat.le_of_ble_eq_true rfl, Nat.le_of_ble_eq_true rfl⟩) (ct_preVx (w := fun di => ww 6 ad (cellR cI ad th kk mn md rw dg kn fc oft di)) hP hK (ci := 5) (k := 0) rfl cr_mdl) rfl rfl hl.1 rfl (lv_room (Nat.le_of_ble_eq_true rfl)) dX5_value_15 ⟨Nat.zero_le _, Nat.zero_le _⟩) hS (fun di H locs hP hS => ?_)
    refine lv_if_eq (tgt := 23) hx hb dX5_value_18 (by decide) (fun c7 => ?_) (fun c7 => ?_)
    · rw [if_pos c7] at hf
      refine lv_iconst (v := 0) hx hb dX5_value_23 (by decide) ?_
      refine lv_istore_n (lv' := [(2, .int 0), (0, .ref (ad 0)), (1, .int p0)]) hx hb dX5_value_24 rfl hl (by decide) rfl (fun ls hl => ?_)
      refine lv_iconst (v := 5) hx hb dX5_value_25 (by decide) ?_
      refine lv_istore_n (lv' := [(3, .int 5), (2, .int 0), (0, .ref (ad 0)), (1, .int p0)]) hx hb dX5_value_26 rfl hl (by decide) rfl (fun ls hl => ?_)
      refine L27 u5.2 p0 _ (fun y15 y16 di H locs ls hP hS hl hf => ?_) fu 0 5 _ _ _ _ hP hS (lv_sub hl [2, 3, 1, 0] rfl) hf
      try dsimp only at hf
      refine lv_iload_n hx hb dX5_value_53 rfl (lv_at hl 2 rfl) ?_
      obtain rfl := Option.some.inj hf
      exact W.iret (v := y15) hx hb hr (fun t ht hW => ⟨rfl, ⟨di, by rw [ht]; exact hP⟩, hS.F ht⟩) hS.2.2 dX5_value_54
    · rw [if_neg c7] at hf
      refine lv_iconst (v := 0) hx hb dX5_value_21 (by decide) ?_
      obtain rfl := Option.some.inj hf
      exact W.iret (v := 0) hx hb hr (fun t ht hW => ⟨rfl, ⟨di, by rw [ht]; exact hP⟩, hS.F ht⟩) hS.2.2 dX5_value_22
  refine lv_if_ne (tgt := 13) hx hb dX5_value_6 (by decide) (fun c4 => ?_) (fun c4 => ?_)
  · rw [if_neg c4] at gw3
    refine lv_iconst (v := 0) hx hb dX5_value_13 (by decide) ?_
    obtain rfl := Option.some.inj gw3
    exact hJ14_w3 _ _ _ _ hP hS (lv_sub hl [0, 1] rfl)
  · rw [if_pos c4] at gw3
    refine lv_iconst (v := 1) hx hb dX5_value_9 (by decide) ?_
    refine lv_goto (tgt := 14) hx hb dX5_value_10 (by decide) ?_
    obtain rfl := Option.some.inj gw3
    exact hJ14_w3 _ _ _ _ hP hS (lv_sub hl [0, 1] rfl)
def f_X5_norm (fu : Nat) (th : Int32) (kk : Int32) (md : Nat → Int32) (rw : Nat → Int32) (dg : Nat → Int32) (p0 : Int32) : Option (Int32 × (Int32) × (Nat → Int32) × (Nat → Int32)) :=
  (f_X5_normOf fu kk md rw dg 0 9).bind (fun u1 =>
  if p0 < 0 then
    some (0, 0, u1.1, u1.2)
  else
    if p0 < 16 then
      (f_X5_cell u1.1 9 p0).bind (fun u5 =>
      some (u5, 0, u1.1, u1.2))
    else
      some (0, 0, u1.1, u1.2))
set_option maxHeartbeats 4000000 in
set_option maxRecDepth 100000 in
theorem C_X5_norm (l : Launch) (D : va_G) (tys : List (ClassId × FieldType)) {ad : Nat → Nat} (hj : ww_inj 6 ad) {cI : ClassId} (htI : tys[0]? = some (cI, .int)) {fu : Nat} {th : Int32} {kk : Int32} {mn : Int64} {md : Nat → Int32} {rw : Nat → Int32} {dg : Nat → Int32} {kn : Int32} {fc : Int32} {oft : Nat → Int32} {p0 : Int32} {res : Int32 × (Int32) × (Nat → Int32) × (Nat → Int32)} (hf : f_X5_norm fu th kk md rw dg p0 = some res) :
    Met l yX5_norm usX5_norm ({ frames := 5, cells := 0, slots := 0, locals := 121 }) (va_Pc [.ref (ad 0), .int p0] (ws_Bx D tys (fun di => ww 6 ad (cellR cI ad th kk mn md rw dg kn fc oft di)))) (ct_Qx D (fun di => ww 6 ad (cellR cI ad res.2.1 kk mn md res.2.2.1 res.2.2.2 kn fc oft di)) (ww_A 6 ad) (some (.int res.1))) 0 0 (ww_A 6 ad) := by
  refine Met.ofW (cc := cX5_norm) (maxL := 2) (ret := (some .int)) (by decide) rfl ?_
  intro p e s m args below meth c s₁ B hml hv
  obtain ⟨rfl, ⟨di, hP⟩, hK⟩ := hv
  have hx := B.exec
  have hb := B.bytes
  have hr := B.returns
  have hts := atoms_spec (ws := usX5_norm) B.pre
  have hown : s.vm.findClass RX5 = some m.cls := findClass_of_methodNamed B.named
  have hlocks := B.notSynchronized
  have hS : va_S (ww_A 6 ad) s.heap s.heap [] := va_S.rf
  have hl := lv_entry ([.ref (ad 0), .int p0]) (n := 2) (Nat.le_of_ble_eq_true rfl)
  rw [lg_entry_eq]
  generalize (lg_sl ([.ref (ad 0), .int p0]) ++ List.replicate (2 - (lg_sl ([.ref (ad 0), .int p0])).length) Slot.unset).toArray = ls at hl ⊢
  have hl : lv_has ls 2 [(0, .ref (ad 0)), (1, .int p0)] := hl
  unfold f_X5_norm at hf
  refine lv_aload_n hx hb dX5_norm_0 rfl (lv_at hl 0 rfl) ?_
  refine lv_iconst (v := 0) hx hb dX5_norm_1 (by decide) ?_
  refine va_put (ci := 5) (v := .int 0) (ty := .int) (C := RX5) (T := TX5) (N := 10) hx hb hts (fun w h => BW_in (in_wsX50 w h)) tyX5 tyX5_ok nmX5 hown hK hP (ww_D hj) hS 0 cr_mdl rfl 0 (by decide) (hts (.fieldLink RX5 35 "NumberFieldFactorsModel" "thrown" "I") (BW_in mw_321)) (fun _ h9 => h9) rfl (by decide +kernel) rfl rfl (Nat.le_of_ble_eq_true rfl) dX5_norm_2 (fun H locs hP hD hS => ?_)
  have hP := cs_th hP
  refine lv_aload_n hx hb dX5_norm_5 rfl (lv_at hl 0 rfl) ?_
  refine lv_iconst (v := 0) hx hb dX5_norm_6 (by decide) ?_
  refine lv_bipush (v := 9) hx hb dX5_norm_7 (by decide) ?_
  obtain ⟨u1, g2, hf⟩ := Option.bind_eq_some_iff.mp hf
  try dsimp only at hf
  refine ct_callx (va_runV (As := [.int 0, .int 9]) (rest := []) ⟨hx, hb, hml, hown, hts⟩ (C_X5_normOf l D tys hj htI (res := u1) g2) (cwV 2 hts (gu_V mw_415 mw_416 mw_417 mw_330 mw_398) rfl rfl rfl (by decide +kernel) ⟨Nat.le_of_ble_eq_true rfl, Nat.le_of_ble_eq_true rfl⟩) (ct_preVx (w := fun di => ww 6 ad (cellR cI ad 0 kk mn md rw dg kn fc oft di)) hP hK (ci := 5) (k := 0) rfl cr_mdl) rfl rfl hl.1 rfl (lv_room (Nat.le_of_ble_eq_true rfl)) dX5_norm_9 ⟨Nat.zero_le _, Nat.zero_le _⟩) hS (fun di H locs hP hS => ?_)
  refine lv_iload_n hx hb dX5_norm_12 rfl (lv_at hl 1 rfl) ?_
  refine lv_if_lt (tgt := 22) hx hb dX5_norm_13 (by decide) (fun c3 => ?_) (fun c3 => ?_)
  · rw [if_pos c3] at hf
    refine lv_iconst (v := 0) hx hb dX5_norm_22 (by decide) ?_
    refine lv_goto (tgt := 33) hx hb dX5_norm_23 (by decide) ?_
    obtain rfl := Option.some.inj hf
    exact W.iret (v := 0) hx hb hr (fun t ht hW => ⟨rfl, ⟨di, by rw [ht]; exact hP⟩, hS.F ht⟩) hS.2.2 dX5_norm_33
  · rw [if_neg c3] at hf
    refine lv_iload_n hx hb dX5_norm_16 rfl (lv_at hl 1 rfl) ?_
    refine lv_bipush (v := 16) hx hb dX5_norm_17 (by decide) ?_
    refine lv_icmp_lt (tgt := 26) hx hb dX5_norm_19 (by decide) (fun c4 => ?_) (fun c4 => ?_)
    · rw [if_pos c4] at hf
      refine lv_aload_n hx hb dX5_norm_26 rfl (lv_at hl 0 rfl) ?_
      refine lv_bipush (v := 9) hx hb dX5_norm_27 (by decide) ?_
      refine lv_iload_n hx hb dX5_norm_29 rfl (lv_at hl 1 rfl) ?_
      obtain ⟨u5, g6, hf⟩ := Option.bind_eq_some_iff.mp hf
      try dsimp only at hf
      refine ct_callx (va_runV (As := [.int 9, .int p0]) (rest := []) ⟨hx, hb, hml, hown, hts⟩ (C_X5_cell l D tys hj htI (res := u5) g6) (cwV 2 hts (gu_V mw_369 mw_370 mw_371 mw_330 mw_367) rfl rfl rfl (by decide +kernel) ⟨Nat.le_of_ble_eq_true rfl, Nat.le_of_ble_eq_true rfl⟩) (ct_preVx (w := fun di => ww 6 ad (cellR cI ad 0 kk mn md u1.1 u1.2 kn fc oft di)) hP hK (ci := 5) (k := 0) rfl cr_mdl) rfl rfl hl.1 rfl (lv_room (Nat.le_of_ble_eq_true rfl)) dX5_norm_30 ⟨Nat.zero_le _, Nat.zero_le _⟩) hS (fun di H locs hP hS => ?_)
      obtain rfl := Option.some.inj hf
      exact W.iret (v := u5) hx hb hr (fun t ht hW => ⟨rfl, ⟨di, by rw [ht]; exact hP⟩, hS.F ht⟩) hS.2.2 dX5_norm_33
    · rw [if_neg c4] at hf
      refine lv_iconst (v := 0) hx hb dX5_norm_22 (by decide) ?_
      refine lv_goto (tgt := 33) hx hb dX5_norm_23 (by decide) ?_
      obtain rfl := Option.some.inj hf
      exact W.iret (v := 0) hx hb hr (fun t ht hW => ⟨rfl, ⟨di, by rw [ht]; exact hP⟩, hS.F ht⟩) hS.2.2 dX5_norm_33
def f_X5_root (fu : Nat) (kk : Int32) (mn : Int64) (md : Nat → Int32) (rw : Nat → Int32) (dg : Nat → Int32) : Option ((Nat → Int32) × (Nat → Int32)) :=
  (f_X5_copy fu rw dg 0 2).bind (fun u1 =>
  (f_X5_slope fu kk md u1.1 u1.2 0 3).bind (fun u3 =>
  (f_X5_divisor fu kk mn md u3.1 u3.2 2 3).bind (fun u5 =>
  (f_X5_copy fu u5.1 u5.2 0 3).bind (fun u7 =>
  (f_X5_divide fu kk mn md u7.1 u7.2 3 2 1).bind (fun u9 =>
  (f_X5_monic fu kk mn md u9.1 u9.2 1).bind (fun u11 =>
  some (u11, u9.2)))))))
set_option maxHeartbeats 4000000 in
set_option maxRecDepth 100000 in
theorem C_X5_root (l : Launch) (D : va_G) (tys : List (ClassId × FieldType)) {ad : Nat → Nat} (hj : ww_inj 6 ad) {cI : ClassId} (htI : tys[0]? = some (cI, .int)) {fu : Nat} {th : Int32} {kk : Int32} {mn : Int64} {md : Nat → Int32} {rw : Nat → Int32} {dg : Nat → Int32} {kn : Int32} {fc : Int32} {oft : Nat → Int32} {res : (Nat → Int32) × (Nat → Int32)} (hf : f_X5_root fu kk mn md rw dg = some res) :
    Met l yX5_root usX5_root ({ frames := 6, cells := 0, slots := 0, locals := 145 }) (va_Pc [.ref (ad 0)] (ws_Bx D tys (fun di => ww 6 ad (cellR cI ad th kk mn md rw dg kn fc oft di)))) (ct_Qx D (fun di => ww 6 ad (cellR cI ad th kk mn md res.1 res.2 kn fc oft di)) (ww_A 6 ad) (none)) 0 0 (ww_A 6 ad) := by
  refine Met.ofW (cc := cX5_root) (maxL := 1) (ret := none) (by decide) rfl ?_
  intro p e s m args below meth c s₁ B hml hv
  obtain ⟨rfl, ⟨di, hP⟩, hK⟩ := hv
  have hx := B.exec
  have hb := B.bytes
  have hr := B.returns
  have hts := atoms_spec (ws := usX5_root) B.pre
  have hown : s.vm.findClass RX5 = some m.cls := findClass_of_methodNamed B.named
  have hlocks := B.notSynchronized
  have hS : va_S (ww_A 6 ad) s.heap s.heap [] := va_S.rf
  have hl := lv_entry ([.ref (ad 0)]) (n := 1) (Nat.le_of_ble_eq_true rfl)
  rw [lg_entry_eq]
  generalize (lg_sl ([.ref (ad 0)]) ++ List.replicate (1 - (lg_sl ([.ref (ad 0)])).length) Slot.unset).toArray = ls at hl ⊢
  have hl : lv_has ls 1 [(0, .ref (ad 0))] := hl
  unfold f_X5_root at hf
  refine lv_aload_n hx hb dX5_root_0 rfl (lv_at hl 0 rfl) ?_
  refine lv_iconst (v := 0) hx hb dX5_root_1 (by decide) ?_
  refine lv_iconst (v := 2) hx hb dX5_root_2 (by decide) ?_
  obtain ⟨u1, g2, hf⟩ := Option.bind_eq_some_iff.mp hf
  try dsimp only at hf
  refine ct_callx (va_runV (As := [.int 0, .int 2]) (rest := []) ⟨hx, hb, hml, hown, hts⟩ (C_X5_copy l D tys hj htI (res := u1) g2) (cwV 2 hts (gu_V mw_385 mw_386 mw_387 mw_330 mw_365) rfl rfl rfl (by decide +kernel) ⟨Nat.le_of_ble_eq_true rfl, Nat.le_of_ble_eq_true rfl⟩) (ct_preVx (w := fun di => ww 6 ad (cellR cI ad th kk mn md rw dg kn fc oft di)) hP hK (ci := 5) (k := 0) rfl cr_mdl) rfl rfl hl.1 rfl (lv_room (Nat.le_of_ble_eq_true rfl)) dX5_root_3 ⟨Nat.zero_le _, Nat.zero_le _⟩) hS (fun di H locs hP hS => ?_)
  refine lv_aload_n hx hb dX5_root_6 rfl (lv_at hl 0 rfl) ?_
  refine lv_iconst (v := 0) hx hb dX5_root_7 (by decide) ?_
  refine lv_iconst (v := 3) hx hb dX5_root_8 (by decide) ?_
  obtain ⟨u3, g4, hf⟩ := Option.bind_eq_some_iff.mp hf
  try dsimp only at hf
  refine ct_callx (va_runV (As := [.int 0, .int 3]) (rest := []) ⟨hx, hb, hml, hown, hts⟩ (C_X5_slope l D tys hj htI (res := u3) g4) (cwV 2 hts (gu_V mw_419 mw_420 mw_421 mw_330 mw_392) rfl rfl rfl (by decide +kernel) ⟨Nat.le_of_ble_eq_true rfl, Nat.le_of_ble_eq_true rfl⟩) (ct_preVx (w := fun di => ww 6 ad (cellR cI ad th kk mn md u1.1 u1.2 kn fc oft di)) hP hK (ci := 5) (k := 0) rfl cr_mdl) rfl rfl hl.1 rfl (lv_room (Nat.le_of_ble_eq_true rfl)) dX5_root_9 ⟨Nat.zero_le _, Nat.zero_le _⟩) hS (fun di H locs hP hS => ?_)
  refine lv_aload_n hx hb dX5_root_12 rfl (lv_at hl 0 rfl) ?_
  refine lv_iconst (v := 2) hx hb dX5_root_13 (by decide) ?_
  refine lv_iconst (v := 3) hx hb dX5_root_14 (by decide) ?_
  obtain ⟨u5, g6, hf⟩ := Option.bind_eq_some_iff.mp hf
  try dsimp only at hf
  refine ct_callx (va_runV (As := [.int 2, .int 3]) (rest := []) ⟨hx, hb, hml, hown, hts⟩ (C_X5_divisor l D tys hj htI (res := u5) g6) (cwV 2 hts (gu_V mw_422 mw_423 mw_424 mw_330 mw_391) rfl rfl rfl (by decide +kernel) ⟨Nat.le_of_ble_eq_true rfl, Nat.le_of_ble_eq_true rfl⟩) (ct_preVx (w := fun di => ww 6 ad (cellR cI ad th kk mn md u3.1 u3.2 kn fc oft di)) hP hK (ci := 5) (k := 0) rfl cr_mdl) rfl rfl hl.1 rfl (lv_room (Nat.le_of_ble_eq_true rfl)) dX5_root_15 ⟨Nat.zero_le _, Nat.zero_le _⟩) hS (fun di H locs hP hS => ?_)
  refine lv_aload_n hx hb dX5_root_18 rfl (lv_at hl 0 rfl) ?_
  refine lv_iconst (v := 0) hx hb dX5_root_19 (by decide) ?_
  refine lv_iconst (v := 3) hx hb dX5_root_20 (by decide) ?_
  obtain ⟨u7, g8, hf⟩ := Option.bind_eq_some_iff.mp hf
  try dsimp only at hf
  refine ct_callx (va_runV (As := [.int 0, .int 3]) (rest := []) ⟨hx, hb, hml, hown, hts⟩ (C_X5_copy l D tys hj htI (res := u7) g8) (cwV 2 hts (gu_V mw_385 mw_386 mw_387 mw_330 mw_365) rfl rfl rfl (by decide +kernel) ⟨Nat.le_of_ble_eq_true rfl, Nat.le_of_ble_eq_true rfl⟩) (ct_preVx (w := fun di => ww 6 ad (cellR cI ad th kk mn md u5.1 u5.2 kn fc oft di)) hP hK (ci := 5) (k := 0) rfl cr_mdl) rfl rfl hl.1 rfl (lv_room (Nat.le_of_ble_eq_true rfl)) dX5_root_21 ⟨Nat.zero_le _, Nat.zero_le _⟩) hS (fun di H locs hP hS => ?_)
  refine lv_aload_n hx hb dX5_root_24 rfl (lv_at hl 0 rfl) ?_
  refine lv_iconst (v := 3) hx hb dX5_root_25 (by decide) ?_
  refine lv_iconst (v := 2) hx hb dX5_root_26 (by decide) ?_
  refine lv_iconst (v := 1) hx hb dX5_root_27 (by decide) ?_
  obtain ⟨u9, g10, hf⟩ := Option.bind_eq_some_iff.mp hf
  try dsimp only at hf
  refine ct_callx (va_runV (As := [.int 3, .int 2, .int 1]) (rest := []) ⟨hx, hb, hml, hown, hts⟩ (C_X5_divide l D tys hj htI (res := u9) g10) (cwV 3 hts (gu_V mw_382 mw_383 mw_384 mw_330 mw_380) rfl rfl rfl (by decide +kernel) ⟨Nat.le_of_ble_eq_true rfl, Nat.le_of_ble_eq_true rfl⟩) (ct_preVx (w := fun di => ww 6 ad (cellR cI ad th kk mn md u7.1 u7.2 kn fc oft di)) hP hK (ci := 5) (k := 0) rfl cr_mdl) rfl rfl hl.1 rfl (lv_room (Nat.le_of_ble_eq_true rfl)) dX5_root_28 ⟨Nat.zero_le _, Nat.zero_le _⟩) hS (fun di H locs hP hS => ?_)
  refine lv_aload_n hx hb dX5_root_31 rfl (lv_at hl 0 rfl) ?_
  refine lv_iconst (v := 1) hx hb dX5_root_32 (by decide) ?_
  obtain ⟨u11, g12, hf⟩ := Option.bind_eq_some_iff.mp hf
  try dsimp only at hf
  refine ct_callx (va_runV (As := [.int 1]) (rest := []) ⟨hx, hb, hml, hown, hts⟩ (C_X5_monic l D tys hj htI (res := u11) g12) (cwV 1 hts (gu_V mw_388 mw_389 mw_390 mw_330 mw_381) rfl rfl rfl (by decide +kernel) ⟨Nat.le_of_ble_eq_true rfl, Nat.le_of_ble_eq_true rfl⟩) (ct_preVx (w := fun di => ww 6 ad (cellR cI ad th kk mn md u9.1 u9.2 kn fc oft di)) hP hK (ci := 5) (k := 0) rfl cr_mdl) rfl rfl hl.1 rfl (lv_room (Nat.le_of_ble_eq_true rfl)) dX5_root_33 ⟨Nat.zero_le _, Nat.zero_le _⟩) hS (fun di H locs hP hS => ?_)
  obtain rfl := Option.some.inj hf
  exact W.vret hx hb hr (fun t ht hW => ⟨rfl, ⟨di, by rw [ht]; exact hP⟩, hS.F ht⟩) hS.2.2 dX5_root_36
def f_X5_found (fu : Nat) (rw : Nat → Int32) (dg : Nat → Int32) (fc : Int32) (p0 : Int32) : Option ((Nat → Int32) × (Nat → Int32) × (Int32)) :=
  (f_X5_copy fu rw dg p0 (20 + fc)).bind (fun u1 =>
  some (u1.1, u1.2, fc + 1))
set_option maxHeartbeats 4000000 in
set_option maxRecDepth 100000 in
theorem C_X5_found (l : Launch) (D : va_G) (tys : List (ClassId × FieldType)) {ad : Nat → Nat} (hj : ww_inj 6 ad) {cI : ClassId} (htI : tys[0]? = some (cI, .int)) {fu : Nat} {th : Int32} {kk : Int32} {mn : Int64} {md : Nat → Int32} {rw : Nat → Int32} {dg : Nat → Int32} {kn : Int32} {fc : Int32} {oft : Nat → Int32} {p0 : Int32} {res : (Nat → Int32) × (Nat → Int32) × (Int32)} (hf : f_X5_found fu rw dg fc p0 = some res) :
    Met l yX5_found usX5_found ({ frames := 1, cells := 0, slots := 0, locals := 23 }) (va_Pc [.ref (ad 0), .int p0] (ws_Bx D tys (fun di => ww 6 ad (cellR cI ad th kk mn md rw dg kn fc oft di)))) (ct_Qx D (fun di => ww 6 ad (cellR cI ad th kk mn md res.1 res.2.1 kn res.2.2 oft di)) (ww_A 6 ad) (none)) 0 0 (ww_A 6 ad) := by
  refine Met.ofW (cc := cX5_found) (maxL := 2) (ret := none) (by decide) rfl ?_
  intro p e s m args below meth c s₁ B hml hv
  obtain ⟨rfl, ⟨di, hP⟩, hK⟩ := hv
  have hx := B.exec
  have hb := B.bytes
  have hr := B.returns
  have hts := atoms_spec (ws := usX5_found) B.pre
  have hown : s.vm.findClass RX5 = some m.cls := findClass_of_methodNamed B.named
  have hlocks := B.notSynchronized
  have hS : va_S (ww_A 6 ad) s.heap s.heap [] := va_S.rf
  have hl := lv_entry ([.ref (ad 0), .int p0]) (n := 2) (Nat.le_of_ble_eq_true rfl)
  rw [lg_entry_eq]
  generalize (lg_sl ([.ref (ad 0), .int p0]) ++ List.replicate (2 - (lg_sl ([.ref (ad 0), .int p0])).length) Slot.unset).toArray = ls at hl ⊢
  have hl : lv_has ls 2 [(0, .ref (ad 0)), (1, .int p0)] := hl
  unfold f_X5_found at hf
  refine lv_aload_n hx hb dX5_found_0 rfl (lv_at hl 0 rfl) ?_
  refine lv_iload_n hx hb dX5_found_1 rfl (lv_at hl 1 rfl) ?_
  refine lv_bipush (v := 20) hx hb dX5_found_2 (by decide) ?_
  refine lv_aload_n hx hb dX5_found_4 rfl (lv_at hl 0 rfl) ?_
  refine va_get (ci := 5) (v := .int fc) (C := RX5) (T := TX5) (N := 10) hx hb hts (fun w h => BW_in (in_wsX50 w h)) hown hK hP 0 cr_mdl rfl 8 (by decide) (hts (.fieldLink RX5 126 "NumberFieldFactorsModel" "factors" "I") (BW_in mw_427)) (fun _ h9 => h9) rfl dX5_found_5 ?_
  refine lv_iadd hx hb dX5_found_8 ?_
  obtain ⟨u1, g2, hf⟩ := Option.bind_eq_some_iff.mp hf
  try dsimp only at hf
  refine ct_callx (va_runV (As := [.int p0, .int (20 + fc)]) (rest := []) ⟨hx, hb, hml, hown, hts⟩ (C_X5_copy l D tys hj htI (res := u1) g2) (cwV 2 hts (gu_V mw_385 mw_386 mw_387 mw_330 mw_365) rfl rfl rfl (by decide +kernel) ⟨Nat.le_of_ble_eq_true rfl, Nat.le_of_ble_eq_true rfl⟩) (ct_preVx (w := fun di => ww 6 ad (cellR cI ad th kk mn md rw dg kn fc oft di)) hP hK (ci := 5) (k := 0) rfl cr_mdl) rfl rfl hl.1 rfl (lv_room (Nat.le_of_ble_eq_true rfl)) dX5_found_9 ⟨Nat.zero_le _, Nat.zero_le _⟩) hS (fun di H locs hP hS => ?_)
  refine lv_aload_n hx hb dX5_found_12 rfl (lv_at hl 0 rfl) ?_
  refine lv_dup hx hb dX5_found_13 rfl ?_
  refine va_get (ci := 5) (v := .int fc) (C := RX5) (T := TX5) (N := 10) hx hb hts (fun w h => BW_in (in_wsX50 w h)) hown hK hP 0 cr_mdl rfl 8 (by decide) (hts (.fieldLink RX5 126 "NumberFieldFactorsModel" "factors" "I") (BW_in mw_427)) (fun _ h9 => h9) rfl dX5_found_14 ?_
  refine lv_iconst (v := 1) hx hb dX5_found_17 (by decide) ?_
  refine lv_iadd hx hb dX5_found_18 ?_
  refine va_put (ci := 5) (v := .int (fc + 1)) (ty := .int) (C := RX5) (T := TX5) (N := 10) hx hb hts (fun w h => BW_in (in_wsX50 w h)) tyX5 tyX5_ok nmX5 hown hK hP (ww_D hj) hS 0 cr_mdl rfl 8 (by decide) (hts (.fieldLink RX5 126 "NumberFieldFactorsModel" "factors" "I") (BW_in mw_427)) (fun _ h9 => h9) rfl (by decide +kernel) rfl rfl (Nat.le_of_ble_eq_true rfl) dX5_found_19 (fun H locs hP hD hS => ?_)
  have hP := cs_fc hP
  obtain rfl := Option.some.inj hf
  exact W.vret hx hb hr (fun t ht hW => ⟨rfl, ⟨di, by rw [ht]; exact hP⟩, hS.F ht⟩) hS.2.2 dX5_found_22
