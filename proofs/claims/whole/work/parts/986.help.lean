/-! The law's helpers. -/
set_option maxHeartbeats 1000000 in
theorem HN_field (l : Launch) (D : va_G) (tys : List (ClassId × FieldType)) (nw : List Cond) (hn : nw.all nw_kind = true) {ad : Nat → Nat} (hj : ww_inj 46 ad) {cL : ClassId} (htL : tys[2]? = some (cL, .long)) {o : Nat} {g : Nat → Int64} (ho : ¬ ww_A 46 ad o) {w w' : Nat → va_E} {fs : List Value} (hw : w 45 = .inr (4, fs)) {p0 : Int32} {p1 : Int64} {p2 : Int64} {p3 : Int64} {v : Int32} (hM : Met l yX4_field usX4_field ({ frames := 6, cells := 0, slots := 0, locals := 90 }) (va_Pc (.ref (ad 45) :: [.int p0, .long p1, .long p2, .long p3]) (ws_B D tys nw (ww 46 ad w))) (ct_Q D (ww 46 ad w') (ww_A 46 ad) (some (.int v))) 0 0 (ww_A 46 ad)) : Met l yL_field usL_field ({ frames := 7, cells := 1, slots := 6, locals := 117 }) (va_Pc [.ref (ad 45), .int p0, .long p1, .long p2, .long p3, .ref o] (hB D tys nw ad (ww 46 ad w) cL o g)) (hq D cL (ww 46 ad w') o (hA ad o) 0 (if v = 0 then 0 else 1)) 1 6 (hA ad o) := by
  refine va_MetW (cc := cL_field) (maxL := 10) (ret := (some .int)) (hh := [(0, 22, 25, 13)]) (by decide) rfl ?_
  intro p e s m args below meth c s₁ B hml hv
  obtain ⟨rfl, ⟨⟨hP, hK, hN⟩, hT⟩, hO, hNc⟩ := hv
  have hx := B.exec
  have hb := B.bytes
  have hr := B.returns
  have hts := atoms_spec (ws := usL_field) B.pre
  have hown : s.vm.findClass RL = some m.cls := findClass_of_methodNamed B.named
  have hlocks := B.notSynchronized
  have hS : va_S (hA ad o) s.heap s.heap [] := va_S.rf
  have hl := lv_entry ([.ref (ad 45), .int p0, .long p1, .long p2, .long p3, .ref o]) (n := 10) (Nat.le_of_ble_eq_true rfl)
  rw [lg_entry_eq]
  generalize (lg_sl ([.ref (ad 45), .int p0, .long p1, .long p2, .long p3, .ref o]) ++ List.replicate (10 - (lg_sl ([.ref (ad 45), .int p0, .long p1, .long p2, .long p3, .ref o])).length) Slot.unset).toArray = ls at hl ⊢
  have hl : lv_has ls 10 [(0, .ref (ad 45)), (1, .int p0), (2, .long p1), (4, .long p2), (6, .long p3), (8, .ref o)] := hl
  refine lv_aload hx hb dL_field_0 (lv_at hl 5 rfl) ?_
  refine lv_iconst (v := 0) hx hb dL_field_2 (by decide) ?_
  refine lv_aload_n hx hb dL_field_3 rfl (lv_at hl 0 rfl) ?_
  refine lv_iload_n hx hb dL_field_4 rfl (lv_at hl 1 rfl) ?_
  refine lv_lload_n hx hb dL_field_5 rfl (lv_at hl 2 rfl) ?_
  refine lv_lload hx hb dL_field_6 (lv_at hl 3 rfl) ?_
  refine lv_lload hx hb dL_field_8 (lv_at hl 4 rfl) ?_
  refine ct_callA (va_runV (As := [.int p0, .long p1, .long p2, .long p3]) (rest := [.int 0, .ref o]) ⟨hx, hb, hml, hown, hts⟩ hM (cwV 4 hts (gu_V mw_476 mw_477 mw_478 mw_222 mw_230) rfl rfl rfl (by decide +kernel) ⟨Nat.le_of_ble_eq_true rfl, Nat.le_of_ble_eq_true rfl⟩) (ct_preV hn hP hK hN (ci := 4) (k := 45) rfl (by decide) hw) rfl rfl hl.1 rfl (lv_room (Nat.le_of_ble_eq_true rfl)) dL_field_10 ⟨Nat.zero_le _, Nat.zero_le _⟩) hS (fun q h => Or.inl h) (fun H locs hP hk hz hS => ?_)
  have hO := oC_kept hO hk ho
  refine lv_if_eq (tgt := 20) hx hb dL_field_13 (by decide) (fun c9 => ?_) (fun c9 => ?_)
  · refine lv_lconst (v := 0) hx hb dL_field_20 rfl ?_
    refine h_last hx hb hK htL hj hP hO ho hS dL_field_21 (fun H locs g' hP hO hg hS => ?_)
    refine lv_goto (tgt := 29) hx hb dL_field_22 (by decide) ?_
    refine lv_iconst (v := 0) hx hb dL_field_29 (by decide) ?_
    refine W.widen (k := 1) (n := 6) (by decide) (by decide) ?_
    exact W.iret hx hb hr (fun t ht hW => ⟨rfl, by rw [ht]; exact hP, ⟨g', by rw [ht]; exact hO, fun _ => by rw [hg, if_pos c9]⟩, hS.F ht⟩) hS.2.2 dL_field_30
  · refine lv_lconst (v := 1) hx hb dL_field_16 rfl ?_
    refine lv_goto (tgt := 21) hx hb dL_field_17 (by decide) ?_
    refine h_last hx hb hK htL hj hP hO ho hS dL_field_21 (fun H locs g' hP hO hg hS => ?_)
    refine lv_goto (tgt := 29) hx hb dL_field_22 (by decide) ?_
    refine lv_iconst (v := 0) hx hb dL_field_29 (by decide) ?_
    refine W.widen (k := 1) (n := 6) (by decide) (by decide) ?_
    exact W.iret hx hb hr (fun t ht hW => ⟨rfl, by rw [ht]; exact hP, ⟨g', by rw [ht]; exact hO, fun _ => by rw [hg, if_neg c9]⟩, hS.F ht⟩) hS.2.2 dL_field_30
set_option maxHeartbeats 1000000 in
theorem HX1_field (l : Launch) (D : va_G) (tys : List (ClassId × FieldType)) (nw : List Cond) (hn : nw.all nw_kind = true) {ad : Nat → Nat} (hj : ww_inj 46 ad) {cL : ClassId} (htL : tys[2]? = some (cL, .long)) {o : Nat} {g : Nat → Int64} (ho : ¬ ww_A 46 ad o) {w w' : Nat → va_E} {fs : List Value} (hw : w 45 = .inr (4, fs)) {p0 : Int32} {p1 : Int64} {p2 : Int64} {p3 : Int64} (v : Int64) (hM : vx_Met l yX4_field usX4_field ({ frames := 6, cells := 1, slots := 6, locals := 90 }) (va_Pc (.ref (ad 45) :: [.int p0, .long p1, .long p2, .long p3]) (ws_Bt D tys nw (ww_A 46 ad) (ww 46 ad w))) (fun _ _ _ _ => False) (xt_Q D (ww 46 ad w') (ww_A 46 ad) "java/lang/IllegalArgumentException") 1 6 (ww_A 46 ad)) : Met l yL_field usL_field ({ frames := 7, cells := 1, slots := 6, locals := 117 }) (va_Pc [.ref (ad 45), .int p0, .long p1, .long p2, .long p3, .ref o] (hB D tys nw ad (ww 46 ad w) cL o g)) (hq D cL (ww 46 ad w') o (hA ad o) 1 v) 1 6 (hA ad o) := by
  refine va_MetW (cc := cL_field) (maxL := 10) (ret := (some .int)) (hh := [(0, 22, 25, 13)]) (by decide) rfl ?_
  intro p e s m args below meth c s₁ B hml hv
  obtain ⟨rfl, ⟨⟨hP, hK, hN⟩, hT⟩, hO, hNc⟩ := hv
  have hx := B.exec
  have hb := B.bytes
  have hr := B.returns
  have hts := atoms_spec (ws := usL_field) B.pre
  have hown : s.vm.findClass RL = some m.cls := findClass_of_methodNamed B.named
  have hlocks := B.notSynchronized
  have hS : va_S (hA ad o) s.heap s.heap [] := va_S.rf
  have hl := lv_entry ([.ref (ad 45), .int p0, .long p1, .long p2, .long p3, .ref o]) (n := 10) (Nat.le_of_ble_eq_true rfl)
  rw [lg_entry_eq]
  generalize (lg_sl ([.ref (ad 45), .int p0, .long p1, .long p2, .long p3, .ref o]) ++ List.replicate (10 - (lg_sl ([.ref (ad 45), .int p0, .long p1, .long p2, .long p3, .ref o])).length) Slot.unset).toArray = ls at hl ⊢
  have hl : lv_has ls 10 [(0, .ref (ad 45)), (1, .int p0), (2, .long p1), (4, .long p2), (6, .long p3), (8, .ref o)] := hl
  refine lv_aload hx hb dL_field_0 (lv_at hl 5 rfl) ?_
  refine lv_iconst (v := 0) hx hb dL_field_2 (by decide) ?_
  refine lv_aload_n hx hb dL_field_3 rfl (lv_at hl 0 rfl) ?_
  refine lv_iload_n hx hb dL_field_4 rfl (lv_at hl 1 rfl) ?_
  refine lv_lload_n hx hb dL_field_5 rfl (lv_at hl 2 rfl) ?_
  refine lv_lload hx hb dL_field_6 (lv_at hl 3 rfl) ?_
  refine lv_lload hx hb dL_field_8 (lv_at hl 4 rfl) ?_
  refine ct_thrA (vx_runV (As := [.int p0, .long p1, .long p2, .long p3]) (rest := [.int 0, .ref o]) ⟨hx, hb, hml, hown, hts⟩ hM (cwV 4 hts (gu_V mw_476 mw_477 mw_478 mw_222 mw_230) rfl rfl rfl (by decide +kernel) ⟨Nat.le_of_ble_eq_true rfl, Nat.le_of_ble_eq_true rfl⟩) (xt_preV hn hP hK hN hT va_S.rf (ci := 4) (k := 45) rfl (by decide) hw) rfl rfl hl.1 rfl (lv_room (Nat.le_of_ble_eq_true rfl)) dL_field_10 ⟨Nat.le_of_ble_eq_true rfl, Nat.le_of_ble_eq_true rfl⟩) hS (fun q h => Or.inl h) (fun q ce H locs hP hk hS hq hv hcl => ?_)
  have hO := oC_kept hO hk ho
  have htb : c.exceptionTable.toList = tableOf [(0, 22, 25, 13)] := vx_table (x := yL_field) B (hts _ List.mem_cons_self)
  refine cg_1 (own := RL) (nm := "java/lang/IllegalArgumentException") (Ex := "java/lang/IllegalArgumentException") hown (x := ⟨0, 22, 25, 13⟩) (t := tableOf []) htb (by decide) (by decide) (hts (.classLink RL 13 "java/lang/IllegalArgumentException") (BW_in mw_475)) (va_Nw.use rfl (hT.2.1.1 "java/lang/IllegalArgumentException" (by decide))) hq hv hcl ?_
  refine lv_astore (lv' := [(9, .ref q), (0, .ref (ad 45)), (1, .int p0), (2, .long p1), (4, .long p2), (6, .long p3), (8, .ref o)]) hx hb dL_field_25 hl (by decide) rfl (fun ls hl => ?_)
  refine lv_iconst (v := 1) hx hb dL_field_27 (by decide) ?_
  refine W.widen (k := 1) (n := 6) (by decide) (by decide) ?_
  exact W.iret hx hb hr (fun t ht hW => ⟨rfl, by rw [ht]; exact hP, ⟨g, by rw [ht]; exact hO, fun z => absurd z (by decide)⟩, hS.F ht⟩) hS.2.2 dL_field_28
set_option maxHeartbeats 1000000 in
theorem HN_modulus (l : Launch) (D : va_G) (tys : List (ClassId × FieldType)) (nw : List Cond) (hn : nw.all nw_kind = true) {ad : Nat → Nat} (hj : ww_inj 46 ad) {cL : ClassId} (htL : tys[2]? = some (cL, .long)) {o : Nat} {g : Nat → Int64} (ho : ¬ ww_A 46 ad o) {w w' : Nat → va_E} {fs : List Value} (hw : w 45 = .inr (4, fs)) {p0 : Int32} {v : Int32} (hM : Met l yX4_modulus usX4_modulus ({ frames := 6, cells := 0, slots := 0, locals := 90 }) (va_Pc (.ref (ad 45) :: [.int p0]) (ws_B D tys nw (ww 46 ad w))) (ct_Q D (ww 46 ad w') (ww_A 46 ad) (some (.int v))) 0 0 (ww_A 46 ad)) : Met l yL_modulus usL_modulus ({ frames := 7, cells := 1, slots := 6, locals := 111 }) (va_Pc [.ref (ad 45), .int p0, .ref o] (hB D tys nw ad (ww 46 ad w) cL o g)) (hq D cL (ww 46 ad w') o (hA ad o) 0 v.toInt64) 1 6 (hA ad o) := by
  refine va_MetW (cc := cL_modulus) (maxL := 4) (ret := (some .int)) (hh := [(0, 9, 12, 19)]) (by decide) rfl ?_
  intro p e s m args below meth c s₁ B hml hv
  obtain ⟨rfl, ⟨⟨hP, hK, hN⟩, hT⟩, hO, hNc⟩ := hv
  have hx := B.exec
  have hb := B.bytes
  have hr := B.returns
  have hts := atoms_spec (ws := usL_modulus) B.pre
  have hown : s.vm.findClass RL = some m.cls := findClass_of_methodNamed B.named
  have hlocks := B.notSynchronized
  have hS : va_S (hA ad o) s.heap s.heap [] := va_S.rf
  have hl := lv_entry ([.ref (ad 45), .int p0, .ref o]) (n := 4) (Nat.le_of_ble_eq_true rfl)
  rw [lg_entry_eq]
  generalize (lg_sl ([.ref (ad 45), .int p0, .ref o]) ++ List.replicate (4 - (lg_sl ([.ref (ad 45), .int p0, .ref o])).length) Slot.unset).toArray = ls at hl ⊢
  have hl : lv_has ls 4 [(0, .ref (ad 45)), (1, .int p0), (2, .ref o)] := hl
  refine lv_aload_n hx hb dL_modulus_0 rfl (lv_at hl 2 rfl) ?_
  refine lv_iconst (v := 0) hx hb dL_modulus_1 (by decide) ?_
  refine lv_aload_n hx hb dL_modulus_2 rfl (lv_at hl 0 rfl) ?_
  refine lv_iload_n hx hb dL_modulus_3 rfl (lv_at hl 1 rfl) ?_
  refine ct_callA (va_runV (As := [.int p0]) (rest := [.int 0, .ref o]) ⟨hx, hb, hml, hown, hts⟩ hM (cwV 1 hts (gu_V mw_482 mw_483 mw_484 mw_222 mw_231) rfl rfl rfl (by decide +kernel) ⟨Nat.le_of_ble_eq_true rfl, Nat.le_of_ble_eq_true rfl⟩) (ct_preV hn hP hK hN (ci := 4) (k := 45) rfl (by decide) hw) rfl rfl hl.1 rfl (lv_room (Nat.le_of_ble_eq_true rfl)) dL_modulus_4 ⟨Nat.zero_le _, Nat.zero_le _⟩) hS (fun q h => Or.inl h) (fun H locs hP hk hz hS => ?_)
  have hO := oC_kept hO hk ho
  refine lv_i2l (v := v.toInt64) hx hb dL_modulus_7 rfl ?_
  refine h_last hx hb hK htL hj hP hO ho hS dL_modulus_8 (fun H locs g' hP hO hg hS => ?_)
  refine lv_goto (tgt := 15) hx hb dL_modulus_9 (by decide) ?_
  refine lv_iconst (v := 0) hx hb dL_modulus_15 (by decide) ?_
  refine W.widen (k := 1) (n := 6) (by decide) (by decide) ?_
  exact W.iret hx hb hr (fun t ht hW => ⟨rfl, by rw [ht]; exact hP, ⟨g', by rw [ht]; exact hO, fun _ => hg⟩, hS.F ht⟩) hS.2.2 dL_modulus_16
set_option maxHeartbeats 1000000 in
theorem HX1_modulus (l : Launch) (D : va_G) (tys : List (ClassId × FieldType)) (nw : List Cond) (hn : nw.all nw_kind = true) {ad : Nat → Nat} (hj : ww_inj 46 ad) {cL : ClassId} (htL : tys[2]? = some (cL, .long)) {o : Nat} {g : Nat → Int64} (ho : ¬ ww_A 46 ad o) {w w' : Nat → va_E} {fs : List Value} (hw : w 45 = .inr (4, fs)) {p0 : Int32} (v : Int64) (hM : vx_Met l yX4_modulus usX4_modulus ({ frames := 6, cells := 1, slots := 6, locals := 90 }) (va_Pc (.ref (ad 45) :: [.int p0]) (ws_Bt D tys nw (ww_A 46 ad) (ww 46 ad w))) (fun _ _ _ _ => False) (xt_Q D (ww 46 ad w') (ww_A 46 ad) "java/lang/IndexOutOfBoundsException") 1 6 (ww_A 46 ad)) : Met l yL_modulus usL_modulus ({ frames := 7, cells := 1, slots := 6, locals := 111 }) (va_Pc [.ref (ad 45), .int p0, .ref o] (hB D tys nw ad (ww 46 ad w) cL o g)) (hq D cL (ww 46 ad w') o (hA ad o) 1 v) 1 6 (hA ad o) := by
  refine va_MetW (cc := cL_modulus) (maxL := 4) (ret := (some .int)) (hh := [(0, 9, 12, 19)]) (by decide) rfl ?_
  intro p e s m args below meth c s₁ B hml hv
  obtain ⟨rfl, ⟨⟨hP, hK, hN⟩, hT⟩, hO, hNc⟩ := hv
  have hx := B.exec
  have hb := B.bytes
  have hr := B.returns
  have hts := atoms_spec (ws := usL_modulus) B.pre
  have hown : s.vm.findClass RL = some m.cls := findClass_of_methodNamed B.named
  have hlocks := B.notSynchronized
  have hS : va_S (hA ad o) s.heap s.heap [] := va_S.rf
  have hl := lv_entry ([.ref (ad 45), .int p0, .ref o]) (n := 4) (Nat.le_of_ble_eq_true rfl)
  rw [lg_entry_eq]
  generalize (lg_sl ([.ref (ad 45), .int p0, .ref o]) ++ List.replicate (4 - (lg_sl ([.ref (ad 45), .int p0, .ref o])).length) Slot.unset).toArray = ls at hl ⊢
  have hl : lv_has ls 4 [(0, .ref (ad 45)), (1, .int p0), (2, .ref o)] := hl
  refine lv_aload_n hx hb dL_modulus_0 rfl (lv_at hl 2 rfl) ?_
  refine lv_iconst (v := 0) hx hb dL_modulus_1 (by decide) ?_
  refine lv_aload_n hx hb dL_modulus_2 rfl (lv_at hl 0 rfl) ?_
  refine lv_iload_n hx hb dL_modulus_3 rfl (lv_at hl 1 rfl) ?_
  refine ct_thrA (vx_runV (As := [.int p0]) (rest := [.int 0, .ref o]) ⟨hx, hb, hml, hown, hts⟩ hM (cwV 1 hts (gu_V mw_482 mw_483 mw_484 mw_222 mw_231) rfl rfl rfl (by decide +kernel) ⟨Nat.le_of_ble_eq_true rfl, Nat.le_of_ble_eq_true rfl⟩) (xt_preV hn hP hK hN hT va_S.rf (ci := 4) (k := 45) rfl (by decide) hw) rfl rfl hl.1 rfl (lv_room (Nat.le_of_ble_eq_true rfl)) dL_modulus_4 ⟨Nat.le_of_ble_eq_true rfl, Nat.le_of_ble_eq_true rfl⟩) hS (fun q h => Or.inl h) (fun q ce H locs hP hk hS hq hv hcl => ?_)
  have hO := oC_kept hO hk ho
  have htb : c.exceptionTable.toList = tableOf [(0, 9, 12, 19)] := vx_table (x := yL_modulus) B (hts _ List.mem_cons_self)
  refine cg_1 (own := RL) (nm := "java/lang/IndexOutOfBoundsException") (Ex := "java/lang/IndexOutOfBoundsException") hown (x := ⟨0, 9, 12, 19⟩) (t := tableOf []) htb (by decide) (by decide) (hts (.classLink RL 19 "java/lang/IndexOutOfBoundsException") (BW_in mw_481)) (va_Nw.use rfl (hT.2.1.1 "java/lang/IndexOutOfBoundsException" (by decide))) hq hv hcl ?_
  refine lv_astore_n (lv' := [(3, .ref q), (0, .ref (ad 45)), (1, .int p0), (2, .ref o)]) hx hb dL_modulus_12 rfl hl (by decide) rfl (fun ls hl => ?_)
  refine lv_iconst (v := 1) hx hb dL_modulus_13 (by decide) ?_
  refine W.widen (k := 1) (n := 6) (by decide) (by decide) ?_
  exact W.iret hx hb hr (fun t ht hW => ⟨rfl, by rw [ht]; exact hP, ⟨g, by rw [ht]; exact hO, fun z => absurd z (by decide)⟩, hS.F ht⟩) hS.2.2 dL_modulus_14
set_option maxHeartbeats 1000000 in
theorem HN_put (l : Launch) (D : va_G) (tys : List (ClassId × FieldType)) (nw : List Cond) (hn : nw.all nw_kind = true) {ad : Nat → Nat} (hj : ww_inj 46 ad) {cL : ClassId} (htL : tys[2]? = some (cL, .long)) {o : Nat} {g : Nat → Int64} (ho : ¬ ww_A 46 ad o) {w w' : Nat → va_E} {fs : List Value} (hw : w 45 = .inr (4, fs)) {p0 : Int32} {p1 : Int32} {v : Int32} (hM : Met l yX4_put usX4_put ({ frames := 7, cells := 0, slots := 0, locals := 111 }) (va_Pc (.ref (ad 45) :: [.int p0, .int p1]) (ws_B D tys nw (ww 46 ad w))) (ct_Q D (ww 46 ad w') (ww_A 46 ad) (some (.int v))) 0 0 (ww_A 46 ad)) : Met l yL_put usL_put ({ frames := 8, cells := 1, slots := 6, locals := 133 }) (va_Pc [.ref (ad 45), .int p0, .int p1, .ref o] (hB D tys nw ad (ww 46 ad w) cL o g)) (hq D cL (ww 46 ad w') o (hA ad o) 0 (if v = 0 then 0 else 1)) 1 6 (hA ad o) := by
  refine va_MetW (cc := cL_put) (maxL := 5) (ret := (some .int)) (hh := [(0, 17, 20, 19), (0, 17, 24, 13)]) (by decide) rfl ?_
  intro p e s m args below meth c s₁ B hml hv
  obtain ⟨rfl, ⟨⟨hP, hK, hN⟩, hT⟩, hO, hNc⟩ := hv
  have hx := B.exec
  have hb := B.bytes
  have hr := B.returns
  have hts := atoms_spec (ws := usL_put) B.pre
  have hown : s.vm.findClass RL = some m.cls := findClass_of_methodNamed B.named
  have hlocks := B.notSynchronized
  have hS : va_S (hA ad o) s.heap s.heap [] := va_S.rf
  have hl := lv_entry ([.ref (ad 45), .int p0, .int p1, .ref o]) (n := 5) (Nat.le_of_ble_eq_true rfl)
  rw [lg_entry_eq]
  generalize (lg_sl ([.ref (ad 45), .int p0, .int p1, .ref o]) ++ List.replicate (5 - (lg_sl ([.ref (ad 45), .int p0, .int p1, .ref o])).length) Slot.unset).toArray = ls at hl ⊢
  have hl : lv_has ls 5 [(0, .ref (ad 45)), (1, .int p0), (2, .int p1), (3, .ref o)] := hl
  refine lv_aload_n hx hb dL_put_0 rfl (lv_at hl 3 rfl) ?_
  refine lv_iconst (v := 0) hx hb dL_put_1 (by decide) ?_
  refine lv_aload_n hx hb dL_put_2 rfl (lv_at hl 0 rfl) ?_
  refine lv_iload_n hx hb dL_put_3 rfl (lv_at hl 1 rfl) ?_
  refine lv_iload_n hx hb dL_put_4 rfl (lv_at hl 2 rfl) ?_
  refine ct_callA (va_runV (As := [.int p0, .int p1]) (rest := [.int 0, .ref o]) ⟨hx, hb, hml, hown, hts⟩ hM (cwV 2 hts (gu_V mw_485 mw_486 mw_487 mw_222 mw_246) rfl rfl rfl (by decide +kernel) ⟨Nat.le_of_ble_eq_true rfl, Nat.le_of_ble_eq_true rfl⟩) (ct_preV hn hP hK hN (ci := 4) (k := 45) rfl (by decide) hw) rfl rfl hl.1 rfl (lv_room (Nat.le_of_ble_eq_true rfl)) dL_put_5 ⟨Nat.zero_le _, Nat.zero_le _⟩) hS (fun q h => Or.inl h) (fun H locs hP hk hz hS => ?_)
  have hO := oC_kept hO hk ho
  refine lv_if_eq (tgt := 15) hx hb dL_put_8 (by decide) (fun c9 => ?_) (fun c9 => ?_)
  · refine lv_lconst (v := 0) hx hb dL_put_15 rfl ?_
    refine h_last hx hb hK htL hj hP hO ho hS dL_put_16 (fun H locs g' hP hO hg hS => ?_)
    refine lv_goto (tgt := 28) hx hb dL_put_17 (by decide) ?_
    refine lv_iconst (v := 0) hx hb dL_put_28 (by decide) ?_
    refine W.widen (k := 1) (n := 6) (by decide) (by decide) ?_
    exact W.iret hx hb hr (fun t ht hW => ⟨rfl, by rw [ht]; exact hP, ⟨g', by rw [ht]; exact hO, fun _ => by rw [hg, if_pos c9]⟩, hS.F ht⟩) hS.2.2 dL_put_29
  · refine lv_lconst (v := 1) hx hb dL_put_11 rfl ?_
    refine lv_goto (tgt := 16) hx hb dL_put_12 (by decide) ?_
    refine h_last hx hb hK htL hj hP hO ho hS dL_put_16 (fun H locs g' hP hO hg hS => ?_)
    refine lv_goto (tgt := 28) hx hb dL_put_17 (by decide) ?_
    refine lv_iconst (v := 0) hx hb dL_put_28 (by decide) ?_
    refine W.widen (k := 1) (n := 6) (by decide) (by decide) ?_
    exact W.iret hx hb hr (fun t ht hW => ⟨rfl, by rw [ht]; exact hP, ⟨g', by rw [ht]; exact hO, fun _ => by rw [hg, if_neg c9]⟩, hS.F ht⟩) hS.2.2 dL_put_29
set_option maxHeartbeats 1000000 in
theorem HX1_put (l : Launch) (D : va_G) (tys : List (ClassId × FieldType)) (nw : List Cond) (hn : nw.all nw_kind = true) {ad : Nat → Nat} (hj : ww_inj 46 ad) {cL : ClassId} (htL : tys[2]? = some (cL, .long)) {o : Nat} {g : Nat → Int64} (ho : ¬ ww_A 46 ad o) {w w' : Nat → va_E} {fs : List Value} (hw : w 45 = .inr (4, fs)) {p0 : Int32} {p1 : Int32} (v : Int64) (hM : vx_Met l yX4_put usX4_put ({ frames := 7, cells := 1, slots := 6, locals := 111 }) (va_Pc (.ref (ad 45) :: [.int p0, .int p1]) (ws_Bt D tys nw (ww_A 46 ad) (ww 46 ad w))) (fun _ _ _ _ => False) (xt_Q D (ww 46 ad w') (ww_A 46 ad) "java/lang/IndexOutOfBoundsException") 1 6 (ww_A 46 ad)) : Met l yL_put usL_put ({ frames := 8, cells := 1, slots := 6, locals := 133 }) (va_Pc [.ref (ad 45), .int p0, .int p1, .ref o] (hB D tys nw ad (ww 46 ad w) cL o g)) (hq D cL (ww 46 ad w') o (hA ad o) 1 v) 1 6 (hA ad o) := by
  refine va_MetW (cc := cL_put) (maxL := 5) (ret := (some .int)) (hh := [(0, 17, 20, 19), (0, 17, 24, 13)]) (by decide) rfl ?_
  intro p e s m args below meth c s₁ B hml hv
  obtain ⟨rfl, ⟨⟨hP, hK, hN⟩, hT⟩, hO, hNc⟩ := hv
  have hx := B.exec
  have hb := B.bytes
  have hr := B.returns
  have hts := atoms_spec (ws := usL_put) B.pre
  have hown : s.vm.findClass RL = some m.cls := findClass_of_methodNamed B.named
  have hlocks := B.notSynchronized
  have hS : va_S (hA ad o) s.heap s.heap [] := va_S.rf
  have hl := lv_entry ([.ref (ad 45), .int p0, .int p1, .ref o]) (n := 5) (Nat.le_of_ble_eq_true rfl)
  rw [lg_entry_eq]
  generalize (lg_sl ([.ref (ad 45), .int p0, .int p1, .ref o]) ++ List.replicate (5 - (lg_sl ([.ref (ad 45), .int p0, .int p1, .ref o])).length) Slot.unset).toArray = ls at hl ⊢
  have hl : lv_has ls 5 [(0, .ref (ad 45)), (1, .int p0), (2, .int p1), (3, .ref o)] := hl
  refine lv_aload_n hx hb dL_put_0 rfl (lv_at hl 3 rfl) ?_
  refine lv_iconst (v := 0) hx hb dL_put_1 (by decide) ?_
  refine lv_aload_n hx hb dL_put_2 rfl (lv_at hl 0 rfl) ?_
  refine lv_iload_n hx hb dL_put_3 rfl (lv_at hl 1 rfl) ?_
  refine lv_iload_n hx hb dL_put_4 rfl (lv_at hl 2 rfl) ?_
  refine ct_thrA (vx_runV (As := [.int p0, .int p1]) (rest := [.int 0, .ref o]) ⟨hx, hb, hml, hown, hts⟩ hM (cwV 2 hts (gu_V mw_485 mw_486 mw_487 mw_222 mw_246) rfl rfl rfl (by decide +kernel) ⟨Nat.le_of_ble_eq_true rfl, Nat.le_of_ble_eq_true rfl⟩) (xt_preV hn hP hK hN hT va_S.rf (ci := 4) (k := 45) rfl (by decide) hw) rfl rfl hl.1 rfl (lv_room (Nat.le_of_ble_eq_true rfl)) dL_put_5 ⟨Nat.le_of_ble_eq_true rfl, Nat.le_of_ble_eq_true rfl⟩) hS (fun q h => Or.inl h) (fun q ce H locs hP hk hS hq hv hcl => ?_)
  have hO := oC_kept hO hk ho
  have htb : c.exceptionTable.toList = tableOf [(0, 17, 20, 19), (0, 17, 24, 13)] := vx_table (x := yL_put) B (hts _ List.mem_cons_self)
  refine cg_1 (own := RL) (nm := "java/lang/IndexOutOfBoundsException") (Ex := "java/lang/IndexOutOfBoundsException") hown (x := ⟨0, 17, 20, 19⟩) (t := tableOf [(0, 17, 24, 13)]) htb (by decide) (by decide) (hts (.classLink RL 19 "java/lang/IndexOutOfBoundsException") (BW_in mw_481)) (va_Nw.use rfl (hT.2.1.1 "java/lang/IndexOutOfBoundsException" (by decide))) hq hv hcl ?_
  refine lv_astore (lv' := [(4, .ref q), (0, .ref (ad 45)), (1, .int p0), (2, .int p1), (3, .ref o)]) hx hb dL_put_20 hl (by decide) rfl (fun ls hl => ?_)
  refine lv_iconst (v := 1) hx hb dL_put_22 (by decide) ?_
  refine W.widen (k := 1) (n := 6) (by decide) (by decide) ?_
  exact W.iret hx hb hr (fun t ht hW => ⟨rfl, by rw [ht]; exact hP, ⟨g, by rw [ht]; exact hO, fun z => absurd z (by decide)⟩, hS.F ht⟩) hS.2.2 dL_put_23
set_option maxHeartbeats 1000000 in
theorem HX2_put (l : Launch) (D : va_G) (tys : List (ClassId × FieldType)) (nw : List Cond) (hn : nw.all nw_kind = true) {ad : Nat → Nat} (hj : ww_inj 46 ad) {cL : ClassId} (htL : tys[2]? = some (cL, .long)) {o : Nat} {g : Nat → Int64} (ho : ¬ ww_A 46 ad o) {w w' : Nat → va_E} {fs : List Value} (hw : w 45 = .inr (4, fs)) {p0 : Int32} {p1 : Int32} (v : Int64) (hM : vx_Met l yX4_put usX4_put ({ frames := 7, cells := 1, slots := 6, locals := 111 }) (va_Pc (.ref (ad 45) :: [.int p0, .int p1]) (ws_Bt D tys nw (ww_A 46 ad) (ww 46 ad w))) (fun _ _ _ _ => False) (xt_Q D (ww 46 ad w') (ww_A 46 ad) "java/lang/IllegalArgumentException") 1 6 (ww_A 46 ad)) : Met l yL_put usL_put ({ frames := 8, cells := 1, slots := 6, locals := 133 }) (va_Pc [.ref (ad 45), .int p0, .int p1, .ref o] (hB D tys nw ad (ww 46 ad w) cL o g)) (hq D cL (ww 46 ad w') o (hA ad o) 2 v) 1 6 (hA ad o) := by
  refine va_MetW (cc := cL_put) (maxL := 5) (ret := (some .int)) (hh := [(0, 17, 20, 19), (0, 17, 24, 13)]) (by decide) rfl ?_
  intro p e s m args below meth c s₁ B hml hv
  obtain ⟨rfl, ⟨⟨hP, hK, hN⟩, hT⟩, hO, hNc⟩ := hv
  have hx := B.exec
  have hb := B.bytes
  have hr := B.returns
  have hts := atoms_spec (ws := usL_put) B.pre
  have hown : s.vm.findClass RL = some m.cls := findClass_of_methodNamed B.named
  have hlocks := B.notSynchronized
  have hS : va_S (hA ad o) s.heap s.heap [] := va_S.rf
  have hl := lv_entry ([.ref (ad 45), .int p0, .int p1, .ref o]) (n := 5) (Nat.le_of_ble_eq_true rfl)
  rw [lg_entry_eq]
  generalize (lg_sl ([.ref (ad 45), .int p0, .int p1, .ref o]) ++ List.replicate (5 - (lg_sl ([.ref (ad 45), .int p0, .int p1, .ref o])).length) Slot.unset).toArray = ls at hl ⊢
  have hl : lv_has ls 5 [(0, .ref (ad 45)), (1, .int p0), (2, .int p1), (3, .ref o)] := hl
  refine lv_aload_n hx hb dL_put_0 rfl (lv_at hl 3 rfl) ?_
  refine lv_iconst (v := 0) hx hb dL_put_1 (by decide) ?_
  refine lv_aload_n hx hb dL_put_2 rfl (lv_at hl 0 rfl) ?_
  refine lv_iload_n hx hb dL_put_3 rfl (lv_at hl 1 rfl) ?_
  refine lv_iload_n hx hb dL_put_4 rfl (lv_at hl 2 rfl) ?_
  refine ct_thrA (vx_runV (As := [.int p0, .int p1]) (rest := [.int 0, .ref o]) ⟨hx, hb, hml, hown, hts⟩ hM (cwV 2 hts (gu_V mw_485 mw_486 mw_487 mw_222 mw_246) rfl rfl rfl (by decide +kernel) ⟨Nat.le_of_ble_eq_true rfl, Nat.le_of_ble_eq_true rfl⟩) (xt_preV hn hP hK hN hT va_S.rf (ci := 4) (k := 45) rfl (by decide) hw) rfl rfl hl.1 rfl (lv_room (Nat.le_of_ble_eq_true rfl)) dL_put_5 ⟨Nat.le_of_ble_eq_true rfl, Nat.le_of_ble_eq_true rfl⟩) hS (fun q h => Or.inl h) (fun q ce H locs hP hk hS hq hv hcl => ?_)
  have hO := oC_kept hO hk ho
  have htb : c.exceptionTable.toList = tableOf [(0, 17, 20, 19), (0, 17, 24, 13)] := vx_table (x := yL_put) B (hts _ List.mem_cons_self)
  refine cg_2 (own := RL) (nm := "java/lang/IllegalArgumentException") (nm' := "java/lang/IndexOutOfBoundsException") (Ex := "java/lang/IllegalArgumentException") hown (y := ⟨0, 17, 20, 19⟩) (x := ⟨0, 17, 24, 13⟩) (t := []) htb (by decide) (by decide) (hts (.classLink RL 19 "java/lang/IndexOutOfBoundsException") (BW_in mw_481)) hNc.1 (by decide) (by decide) (hts (.classLink RL 13 "java/lang/IllegalArgumentException") (BW_in mw_475)) (va_Nw.use rfl (hT.2.1.1 "java/lang/IllegalArgumentException" (by decide))) hq hv hcl ?_
  refine lv_astore (lv' := [(4, .ref q), (0, .ref (ad 45)), (1, .int p0), (2, .int p1), (3, .ref o)]) hx hb dL_put_24 hl (by decide) rfl (fun ls hl => ?_)
  refine lv_iconst (v := 2) hx hb dL_put_26 (by decide) ?_
  refine W.widen (k := 1) (n := 6) (by decide) (by decide) ?_
  exact W.iret hx hb hr (fun t ht hW => ⟨rfl, by rw [ht]; exact hP, ⟨g, by rw [ht]; exact hO, fun z => absurd z (by decide)⟩, hS.F ht⟩) hS.2.2 dL_put_27
set_option maxHeartbeats 1000000 in
theorem HN_at (l : Launch) (D : va_G) (tys : List (ClassId × FieldType)) (nw : List Cond) (hn : nw.all nw_kind = true) {ad : Nat → Nat} (hj : ww_inj 46 ad) {cL : ClassId} (htL : tys[2]? = some (cL, .long)) {o : Nat} {g : Nat → Int64} (ho : ¬ ww_A 46 ad o) {w w' : Nat → va_E} {fs : List Value} (hw : w 45 = .inr (4, fs)) {p0 : Int32} {v : Int32} (hM : Met l yX4_at usX4_at ({ frames := 7, cells := 0, slots := 0, locals := 110 }) (va_Pc (.ref (ad 45) :: [.int p0]) (ws_B D tys nw (ww 46 ad w))) (ct_Q D (ww 46 ad w') (ww_A 46 ad) (some (.int v))) 0 0 (ww_A 46 ad)) : Met l yL_at usL_at ({ frames := 8, cells := 1, slots := 6, locals := 131 }) (va_Pc [.ref (ad 45), .int p0, .ref o] (hB D tys nw ad (ww 46 ad w) cL o g)) (hq D cL (ww 46 ad w') o (hA ad o) 0 v.toInt64) 1 6 (hA ad o) := by
  refine va_MetW (cc := cL_at) (maxL := 4) (ret := (some .int)) (hh := [(0, 9, 12, 19)]) (by decide) rfl ?_
  intro p e s m args below meth c s₁ B hml hv
  obtain ⟨rfl, ⟨⟨hP, hK, hN⟩, hT⟩, hO, hNc⟩ := hv
  have hx := B.exec
  have hb := B.bytes
  have hr := B.returns
  have hts := atoms_spec (ws := usL_at) B.pre
  have hown : s.vm.findClass RL = some m.cls := findClass_of_methodNamed B.named
  have hlocks := B.notSynchronized
  have hS : va_S (hA ad o) s.heap s.heap [] := va_S.rf
  have hl := lv_entry ([.ref (ad 45), .int p0, .ref o]) (n := 4) (Nat.le_of_ble_eq_true rfl)
  rw [lg_entry_eq]
  generalize (lg_sl ([.ref (ad 45), .int p0, .ref o]) ++ List.replicate (4 - (lg_sl ([.ref (ad 45), .int p0, .ref o])).length) Slot.unset).toArray = ls at hl ⊢
  have hl : lv_has ls 4 [(0, .ref (ad 45)), (1, .int p0), (2, .ref o)] := hl
  refine lv_aload_n hx hb dL_at_0 rfl (lv_at hl 2 rfl) ?_
  refine lv_iconst (v := 0) hx hb dL_at_1 (by decide) ?_
  refine lv_aload_n hx hb dL_at_2 rfl (lv_at hl 0 rfl) ?_
  refine lv_iload_n hx hb dL_at_3 rfl (lv_at hl 1 rfl) ?_
  refine ct_callA (va_runV (As := [.int p0]) (rest := [.int 0, .ref o]) ⟨hx, hb, hml, hown, hts⟩ hM (cwV 1 hts (gu_V mw_490 mw_491 mw_492 mw_222 mw_247) rfl rfl rfl (by decide +kernel) ⟨Nat.le_of_ble_eq_true rfl, Nat.le_of_ble_eq_true rfl⟩) (ct_preV hn hP hK hN (ci := 4) (k := 45) rfl (by decide) hw) rfl rfl hl.1 rfl (lv_room (Nat.le_of_ble_eq_true rfl)) dL_at_4 ⟨Nat.zero_le _, Nat.zero_le _⟩) hS (fun q h => Or.inl h) (fun H locs hP hk hz hS => ?_)
  have hO := oC_kept hO hk ho
  refine lv_i2l (v := v.toInt64) hx hb dL_at_7 rfl ?_
  refine h_last hx hb hK htL hj hP hO ho hS dL_at_8 (fun H locs g' hP hO hg hS => ?_)
  refine lv_goto (tgt := 15) hx hb dL_at_9 (by decide) ?_
  refine lv_iconst (v := 0) hx hb dL_at_15 (by decide) ?_
  refine W.widen (k := 1) (n := 6) (by decide) (by decide) ?_
  exact W.iret hx hb hr (fun t ht hW => ⟨rfl, by rw [ht]; exact hP, ⟨g', by rw [ht]; exact hO, fun _ => hg⟩, hS.F ht⟩) hS.2.2 dL_at_16
set_option maxHeartbeats 1000000 in
theorem HX1_at (l : Launch) (D : va_G) (tys : List (ClassId × FieldType)) (nw : List Cond) (hn : nw.all nw_kind = true) {ad : Nat → Nat} (hj : ww_inj 46 ad) {cL : ClassId} (htL : tys[2]? = some (cL, .long)) {o : Nat} {g : Nat → Int64} (ho : ¬ ww_A 46 ad o) {w w' : Nat → va_E} {fs : List Value} (hw : w 45 = .inr (4, fs)) {p0 : Int32} (v : Int64) (hM : vx_Met l yX4_at usX4_at ({ frames := 7, cells := 1, slots := 6, locals := 110 }) (va_Pc (.ref (ad 45) :: [.int p0]) (ws_Bt D tys nw (ww_A 46 ad) (ww 46 ad w))) (fun _ _ _ _ => False) (xt_Q D (ww 46 ad w') (ww_A 46 ad) "java/lang/IndexOutOfBoundsException") 1 6 (ww_A 46 ad)) : Met l yL_at usL_at ({ frames := 8, cells := 1, slots := 6, locals := 131 }) (va_Pc [.ref (ad 45), .int p0, .ref o] (hB D tys nw ad (ww 46 ad w) cL o g)) (hq D cL (ww 46 ad w') o (hA ad o) 1 v) 1 6 (hA ad o) := by
  refine va_MetW (cc := cL_at) (maxL := 4) (ret := (some .int)) (hh := [(0, 9, 12, 19)]) (by decide) rfl ?_
  intro p e s m args below meth c s₁ B hml hv
  obtain ⟨rfl, ⟨⟨hP, hK, hN⟩, hT⟩, hO, hNc⟩ := hv
  have hx := B.exec
  have hb := B.bytes
  have hr := B.returns
  have hts := atoms_spec (ws := usL_at) B.pre
  have hown : s.vm.findClass RL = some m.cls := findClass_of_methodNamed B.named
  have hlocks := B.notSynchronized
  have hS : va_S (hA ad o) s.heap s.heap [] := va_S.rf
  have hl := lv_entry ([.ref (ad 45), .int p0, .ref o]) (n := 4) (Nat.le_of_ble_eq_true rfl)
  rw [lg_entry_eq]
  generalize (lg_sl ([.ref (ad 45), .int p0, .ref o]) ++ List.replicate (4 - (lg_sl ([.ref (ad 45), .int p0, .ref o])).length) Slot.unset).toArray = ls at hl ⊢
  have hl : lv_has ls 4 [(0, .ref (ad 45)), (1, .int p0), (2, .ref o)] := hl
  refine lv_aload_n hx hb dL_at_0 rfl (lv_at hl 2 rfl) ?_
  refine lv_iconst (v := 0) hx hb dL_at_1 (by decide) ?_
  refine lv_aload_n hx hb dL_at_2 rfl (lv_at hl 0 rfl) ?_
  refine lv_iload_n hx hb dL_at_3 rfl (lv_at hl 1 rfl) ?_
  refine ct_thrA (vx_runV (As := [.int p0]) (rest := [.int 0, .ref o]) ⟨hx, hb, hml, hown, hts⟩ hM (cwV 1 hts (gu_V mw_490 mw_491 mw_492 mw_222 mw_247) rfl rfl rfl (by decide +kernel) ⟨Nat.le_of_ble_eq_true rfl, Nat.le_of_ble_eq_true rfl⟩) (xt_preV hn hP hK hN hT va_S.rf (ci := 4) (k := 45) rfl (by decide) hw) rfl rfl hl.1 rfl (lv_room (Nat.le_of_ble_eq_true rfl)) dL_at_4 ⟨Nat.le_of_ble_eq_true rfl, Nat.le_of_ble_eq_true rfl⟩) hS (fun q h => Or.inl h) (fun q ce H locs hP hk hS hq hv hcl => ?_)
  have hO := oC_kept hO hk ho
  have htb : c.exceptionTable.toList = tableOf [(0, 9, 12, 19)] := vx_table (x := yL_at) B (hts _ List.mem_cons_self)
  refine cg_1 (own := RL) (nm := "java/lang/IndexOutOfBoundsException") (Ex := "java/lang/IndexOutOfBoundsException") hown (x := ⟨0, 9, 12, 19⟩) (t := tableOf []) htb (by decide) (by decide) (hts (.classLink RL 19 "java/lang/IndexOutOfBoundsException") (BW_in mw_481)) (va_Nw.use rfl (hT.2.1.1 "java/lang/IndexOutOfBoundsException" (by decide))) hq hv hcl ?_
  refine lv_astore_n (lv' := [(3, .ref q), (0, .ref (ad 45)), (1, .int p0), (2, .ref o)]) hx hb dL_at_12 rfl hl (by decide) rfl (fun ls hl => ?_)
  refine lv_iconst (v := 1) hx hb dL_at_13 (by decide) ?_
  refine W.widen (k := 1) (n := 6) (by decide) (by decide) ?_
  exact W.iret hx hb hr (fun t ht hW => ⟨rfl, by rw [ht]; exact hP, ⟨g, by rw [ht]; exact hO, fun z => absurd z (by decide)⟩, hS.F ht⟩) hS.2.2 dL_at_14
set_option maxHeartbeats 1000000 in
theorem HN_reckon (l : Launch) (D : va_G) (tys : List (ClassId × FieldType)) (nw : List Cond) (hn : nw.all nw_kind = true) {ad : Nat → Nat} (hj : ww_inj 46 ad) {cL : ClassId} (htL : tys[2]? = some (cL, .long)) {o : Nat} {g : Nat → Int64} (ho : ¬ ww_A 46 ad o) {w w' : Nat → va_E} {fs : List Value} (hw : w 45 = .inr (4, fs)) {p0 : Int32} {p1 : Int32} {p2 : Int32} {v : Int32} (hM : Met l yX4_reckon usX4_reckon ({ frames := 7, cells := 0, slots := 0, locals := 111 }) (va_Pc (.ref (ad 45) :: [.int p0, .int p1, .int p2]) (ws_B D tys nw (ww 46 ad w))) (ct_Q D (ww 46 ad w') (ww_A 46 ad) (some (.int v))) 0 0 (ww_A 46 ad)) : Met l yL_reckon usL_reckon ({ frames := 8, cells := 1, slots := 6, locals := 135 }) (va_Pc [.ref (ad 45), .int p0, .int p1, .int p2, .ref o] (hB D tys nw ad (ww 46 ad w) cL o g)) (hq D cL (ww 46 ad w') o (hA ad o) 0 v.toInt64) 1 6 (hA ad o) := by
  refine va_MetW (cc := cL_reckon) (maxL := 6) (ret := (some .int)) (hh := [(0, 12, 15, 13), (0, 12, 19, 32)]) (by decide) rfl ?_
  intro p e s m args below meth c s₁ B hml hv
  obtain ⟨rfl, ⟨⟨hP, hK, hN⟩, hT⟩, hO, hNc⟩ := hv
  have hx := B.exec
  have hb := B.bytes
  have hr := B.returns
  have hts := atoms_spec (ws := usL_reckon) B.pre
  have hown : s.vm.findClass RL = some m.cls := findClass_of_methodNamed B.named
  have hlocks := B.notSynchronized
  have hS : va_S (hA ad o) s.heap s.heap [] := va_S.rf
  have hl := lv_entry ([.ref (ad 45), .int p0, .int p1, .int p2, .ref o]) (n := 6) (Nat.le_of_ble_eq_true rfl)
  rw [lg_entry_eq]
  generalize (lg_sl ([.ref (ad 45), .int p0, .int p1, .int p2, .ref o]) ++ List.replicate (6 - (lg_sl ([.ref (ad 45), .int p0, .int p1, .int p2, .ref o])).length) Slot.unset).toArray = ls at hl ⊢
  have hl : lv_has ls 6 [(0, .ref (ad 45)), (1, .int p0), (2, .int p1), (3, .int p2), (4, .ref o)] := hl
  refine lv_aload hx hb dL_reckon_0 (lv_at hl 4 rfl) ?_
  refine lv_iconst (v := 0) hx hb dL_reckon_2 (by decide) ?_
  refine lv_aload_n hx hb dL_reckon_3 rfl (lv_at hl 0 rfl) ?_
  refine lv_iload_n hx hb dL_reckon_4 rfl (lv_at hl 1 rfl) ?_
  refine lv_iload_n hx hb dL_reckon_5 rfl (lv_at hl 2 rfl) ?_
  refine lv_iload_n hx hb dL_reckon_6 rfl (lv_at hl 3 rfl) ?_
  refine ct_callA (va_runV (As := [.int p0, .int p1, .int p2]) (rest := [.int 0, .ref o]) ⟨hx, hb, hml, hown, hts⟩ hM (cwV 3 hts (gu_V mw_494 mw_495 mw_496 mw_222 mw_254) rfl rfl rfl (by decide +kernel) ⟨Nat.le_of_ble_eq_true rfl, Nat.le_of_ble_eq_true rfl⟩) (ct_preV hn hP hK hN (ci := 4) (k := 45) rfl (by decide) hw) rfl rfl hl.1 rfl (lv_room (Nat.le_of_ble_eq_true rfl)) dL_reckon_7 ⟨Nat.zero_le _, Nat.zero_le _⟩) hS (fun q h => Or.inl h) (fun H locs hP hk hz hS => ?_)
  have hO := oC_kept hO hk ho
  refine lv_i2l (v := v.toInt64) hx hb dL_reckon_10 rfl ?_
  refine h_last hx hb hK htL hj hP hO ho hS dL_reckon_11 (fun H locs g' hP hO hg hS => ?_)
  refine lv_goto (tgt := 23) hx hb dL_reckon_12 (by decide) ?_
  refine lv_iconst (v := 0) hx hb dL_reckon_23 (by decide) ?_
  refine W.widen (k := 1) (n := 6) (by decide) (by decide) ?_
  exact W.iret hx hb hr (fun t ht hW => ⟨rfl, by rw [ht]; exact hP, ⟨g', by rw [ht]; exact hO, fun _ => hg⟩, hS.F ht⟩) hS.2.2 dL_reckon_24
set_option maxHeartbeats 1000000 in
theorem HX1_reckon (l : Launch) (D : va_G) (tys : List (ClassId × FieldType)) (nw : List Cond) (hn : nw.all nw_kind = true) {ad : Nat → Nat} (hj : ww_inj 46 ad) {cL : ClassId} (htL : tys[2]? = some (cL, .long)) {o : Nat} {g : Nat → Int64} (ho : ¬ ww_A 46 ad o) {w w' : Nat → va_E} {fs : List Value} (hw : w 45 = .inr (4, fs)) {p0 : Int32} {p1 : Int32} {p2 : Int32} (v : Int64) (hM : vx_Met l yX4_reckon usX4_reckon ({ frames := 7, cells := 1, slots := 6, locals := 111 }) (va_Pc (.ref (ad 45) :: [.int p0, .int p1, .int p2]) (ws_Bt D tys nw (ww_A 46 ad) (ww 46 ad w))) (fun _ _ _ _ => False) (xt_Q D (ww 46 ad w') (ww_A 46 ad) "java/lang/IllegalArgumentException") 1 6 (ww_A 46 ad)) : Met l yL_reckon usL_reckon ({ frames := 8, cells := 1, slots := 6, locals := 135 }) (va_Pc [.ref (ad 45), .int p0, .int p1, .int p2, .ref o] (hB D tys nw ad (ww 46 ad w) cL o g)) (hq D cL (ww 46 ad w') o (hA ad o) 1 v) 1 6 (hA ad o) := by
  refine va_MetW (cc := cL_reckon) (maxL := 6) (ret := (some .int)) (hh := [(0, 12, 15, 13), (0, 12, 19, 32)]) (by decide) rfl ?_
  intro p e s m args below meth c s₁ B hml hv
  obtain ⟨rfl, ⟨⟨hP, hK, hN⟩, hT⟩, hO, hNc⟩ := hv
  have hx := B.exec
  have hb := B.bytes
  have hr := B.returns
  have hts := atoms_spec (ws := usL_reckon) B.pre
  have hown : s.vm.findClass RL = some m.cls := findClass_of_methodNamed B.named
  have hlocks := B.notSynchronized
  have hS : va_S (hA ad o) s.heap s.heap [] := va_S.rf
  have hl := lv_entry ([.ref (ad 45), .int p0, .int p1, .int p2, .ref o]) (n := 6) (Nat.le_of_ble_eq_true rfl)
  rw [lg_entry_eq]
  generalize (lg_sl ([.ref (ad 45), .int p0, .int p1, .int p2, .ref o]) ++ List.replicate (6 - (lg_sl ([.ref (ad 45), .int p0, .int p1, .int p2, .ref o])).length) Slot.unset).toArray = ls at hl ⊢
  have hl : lv_has ls 6 [(0, .ref (ad 45)), (1, .int p0), (2, .int p1), (3, .int p2), (4, .ref o)] := hl
  refine lv_aload hx hb dL_reckon_0 (lv_at hl 4 rfl) ?_
  refine lv_iconst (v := 0) hx hb dL_reckon_2 (by decide) ?_
  refine lv_aload_n hx hb dL_reckon_3 rfl (lv_at hl 0 rfl) ?_
  refine lv_iload_n hx hb dL_reckon_4 rfl (lv_at hl 1 rfl) ?_
  refine lv_iload_n hx hb dL_reckon_5 rfl (lv_at hl 2 rfl) ?_
  refine lv_iload_n hx hb dL_reckon_6 rfl (lv_at hl 3 rfl) ?_
  refine ct_thrA (vx_runV (As := [.int p0, .int p1, .int p2]) (rest := [.int 0, .ref o]) ⟨hx, hb, hml, hown, hts⟩ hM (cwV 3 hts (gu_V mw_494 mw_495 mw_496 mw_222 mw_254) rfl rfl rfl (by decide +kernel) ⟨Nat.le_of_ble_eq_true rfl, Nat.le_of_ble_eq_true rfl⟩) (xt_preV hn hP hK hN hT va_S.rf (ci := 4) (k := 45) rfl (by decide) hw) rfl rfl hl.1 rfl (lv_room (Nat.le_of_ble_eq_true rfl)) dL_reckon_7 ⟨Nat.le_of_ble_eq_true rfl, Nat.le_of_ble_eq_true rfl⟩) hS (fun q h => Or.inl h) (fun q ce H locs hP hk hS hq hv hcl => ?_)
  have hO := oC_kept hO hk ho
  have htb : c.exceptionTable.toList = tableOf [(0, 12, 15, 13), (0, 12, 19, 32)] := vx_table (x := yL_reckon) B (hts _ List.mem_cons_self)
  refine cg_1 (own := RL) (nm := "java/lang/IllegalArgumentException") (Ex := "java/lang/IllegalArgumentException") hown (x := ⟨0, 12, 15, 13⟩) (t := tableOf [(0, 12, 19, 32)]) htb (by decide) (by decide) (hts (.classLink RL 13 "java/lang/IllegalArgumentException") (BW_in mw_475)) (va_Nw.use rfl (hT.2.1.1 "java/lang/IllegalArgumentException" (by decide))) hq hv hcl ?_
  refine lv_astore (lv' := [(5, .ref q), (0, .ref (ad 45)), (1, .int p0), (2, .int p1), (3, .int p2), (4, .ref o)]) hx hb dL_reckon_15 hl (by decide) rfl (fun ls hl => ?_)
  refine lv_iconst (v := 1) hx hb dL_reckon_17 (by decide) ?_
  refine W.widen (k := 1) (n := 6) (by decide) (by decide) ?_
  exact W.iret hx hb hr (fun t ht hW => ⟨rfl, by rw [ht]; exact hP, ⟨g, by rw [ht]; exact hO, fun z => absurd z (by decide)⟩, hS.F ht⟩) hS.2.2 dL_reckon_18
set_option maxHeartbeats 1000000 in
theorem HX2_reckon (l : Launch) (D : va_G) (tys : List (ClassId × FieldType)) (nw : List Cond) (hn : nw.all nw_kind = true) {ad : Nat → Nat} (hj : ww_inj 46 ad) {cL : ClassId} (htL : tys[2]? = some (cL, .long)) {o : Nat} {g : Nat → Int64} (ho : ¬ ww_A 46 ad o) {w w' : Nat → va_E} {fs : List Value} (hw : w 45 = .inr (4, fs)) {p0 : Int32} {p1 : Int32} {p2 : Int32} (v : Int64) (hM : vx_Met l yX4_reckon usX4_reckon ({ frames := 7, cells := 1, slots := 6, locals := 111 }) (va_Pc (.ref (ad 45) :: [.int p0, .int p1, .int p2]) (ws_Bt D tys nw (ww_A 46 ad) (ww 46 ad w))) (fun _ _ _ _ => False) (xt_Q D (ww 46 ad w') (ww_A 46 ad) "java/lang/ArithmeticException") 1 6 (ww_A 46 ad)) : Met l yL_reckon usL_reckon ({ frames := 8, cells := 1, slots := 6, locals := 135 }) (va_Pc [.ref (ad 45), .int p0, .int p1, .int p2, .ref o] (hB D tys nw ad (ww 46 ad w) cL o g)) (hq D cL (ww 46 ad w') o (hA ad o) 2 v) 1 6 (hA ad o) := by
  refine va_MetW (cc := cL_reckon) (maxL := 6) (ret := (some .int)) (hh := [(0, 12, 15, 13), (0, 12, 19, 32)]) (by decide) rfl ?_
  intro p e s m args below meth c s₁ B hml hv
  obtain ⟨rfl, ⟨⟨hP, hK, hN⟩, hT⟩, hO, hNc⟩ := hv
  have hx := B.exec
  have hb := B.bytes
  have hr := B.returns
  have hts := atoms_spec (ws := usL_reckon) B.pre
  have hown : s.vm.findClass RL = some m.cls := findClass_of_methodNamed B.named
  have hlocks := B.notSynchronized
  have hS : va_S (hA ad o) s.heap s.heap [] := va_S.rf
  have hl := lv_entry ([.ref (ad 45), .int p0, .int p1, .int p2, .ref o]) (n := 6) (Nat.le_of_ble_eq_true rfl)
  rw [lg_entry_eq]
  generalize (lg_sl ([.ref (ad 45), .int p0, .int p1, .int p2, .ref o]) ++ List.replicate (6 - (lg_sl ([.ref (ad 45), .int p0, .int p1, .int p2, .ref o])).length) Slot.unset).toArray = ls at hl ⊢
  have hl : lv_has ls 6 [(0, .ref (ad 45)), (1, .int p0), (2, .int p1), (3, .int p2), (4, .ref o)] := hl
  refine lv_aload hx hb dL_reckon_0 (lv_at hl 4 rfl) ?_
  refine lv_iconst (v := 0) hx hb dL_reckon_2 (by decide) ?_
  refine lv_aload_n hx hb dL_reckon_3 rfl (lv_at hl 0 rfl) ?_
  refine lv_iload_n hx hb dL_reckon_4 rfl (lv_at hl 1 rfl) ?_
  refine lv_iload_n hx hb dL_reckon_5 rfl (lv_at hl 2 rfl) ?_
  refine lv_iload_n hx hb dL_reckon_6 rfl (lv_at hl 3 rfl) ?_
  refine ct_thrA (vx_runV (As := [.int p0, .int p1, .int p2]) (rest := [.int 0, .ref o]) ⟨hx, hb, hml, hown, hts⟩ hM (cwV 3 hts (gu_V mw_494 mw_495 mw_496 mw_222 mw_254) rfl rfl rfl (by decide +kernel) ⟨Nat.le_of_ble_eq_true rfl, Nat.le_of_ble_eq_true rfl⟩) (xt_preV hn hP hK hN hT va_S.rf (ci := 4) (k := 45) rfl (by decide) hw) rfl rfl hl.1 rfl (lv_room (Nat.le_of_ble_eq_true rfl)) dL_reckon_7 ⟨Nat.le_of_ble_eq_true rfl, Nat.le_of_ble_eq_true rfl⟩) hS (fun q h => Or.inl h) (fun q ce H locs hP hk hS hq hv hcl => ?_)
  have hO := oC_kept hO hk ho
  have htb : c.exceptionTable.toList = tableOf [(0, 12, 15, 13), (0, 12, 19, 32)] := vx_table (x := yL_reckon) B (hts _ List.mem_cons_self)
  refine cg_2 (own := RL) (nm := "java/lang/ArithmeticException") (nm' := "java/lang/IllegalArgumentException") (Ex := "java/lang/ArithmeticException") hown (y := ⟨0, 12, 15, 13⟩) (x := ⟨0, 12, 19, 32⟩) (t := []) htb (by decide) (by decide) (hts (.classLink RL 13 "java/lang/IllegalArgumentException") (BW_in mw_475)) hNc.2.1 (by decide) (by decide) (hts (.classLink RL 32 "java/lang/ArithmeticException") (BW_in mw_493)) (va_Nw.use rfl (hT.2.1.1 "java/lang/ArithmeticException" (by decide))) hq hv hcl ?_
  refine lv_astore (lv' := [(5, .ref q), (0, .ref (ad 45)), (1, .int p0), (2, .int p1), (3, .int p2), (4, .ref o)]) hx hb dL_reckon_19 hl (by decide) rfl (fun ls hl => ?_)
  refine lv_iconst (v := 2) hx hb dL_reckon_21 (by decide) ?_
  refine W.widen (k := 1) (n := 6) (by decide) (by decide) ?_
  exact W.iret hx hb hr (fun t ht hW => ⟨rfl, by rw [ht]; exact hP, ⟨g, by rw [ht]; exact hO, fun z => absurd z (by decide)⟩, hS.F ht⟩) hS.2.2 dL_reckon_22
set_option maxHeartbeats 1000000 in
theorem HN_known (l : Launch) (D : va_G) (tys : List (ClassId × FieldType)) (nw : List Cond) (hn : nw.all nw_kind = true) {ad : Nat → Nat} (hj : ww_inj 46 ad) {cL : ClassId} (htL : tys[2]? = some (cL, .long)) {o : Nat} {g : Nat → Int64} (ho : ¬ ww_A 46 ad o) {w w' : Nat → va_E} {fs : List Value} (hw : w 45 = .inr (4, fs)) {p0 : Int32} {p1 : Int32} {v : Int32} (hM : Met l yX4_known usX4_known ({ frames := 7, cells := 0, slots := 0, locals := 111 }) (va_Pc (.ref (ad 45) :: [.int p0, .int p1]) (ws_B D tys nw (ww 46 ad w))) (ct_Q D (ww 46 ad w') (ww_A 46 ad) (some (.int v))) 0 0 (ww_A 46 ad)) : Met l yL_known usL_known ({ frames := 8, cells := 1, slots := 6, locals := 134 }) (va_Pc [.ref (ad 45), .int p0, .int p1, .ref o] (hB D tys nw ad (ww 46 ad w) cL o g)) (hq D cL (ww 46 ad w') o (hA ad o) 0 v.toInt64) 1 6 (hA ad o) := by
  refine va_MetW (cc := cL_known) (maxL := 5) (ret := (some .int)) (hh := [(0, 10, 13, 13)]) (by decide) rfl ?_
  intro p e s m args below meth c s₁ B hml hv
  obtain ⟨rfl, ⟨⟨hP, hK, hN⟩, hT⟩, hO, hNc⟩ := hv
  have hx := B.exec
  have hb := B.bytes
  have hr := B.returns
  have hts := atoms_spec (ws := usL_known) B.pre
  have hown : s.vm.findClass RL = some m.cls := findClass_of_methodNamed B.named
  have hlocks := B.notSynchronized
  have hS : va_S (hA ad o) s.heap s.heap [] := va_S.rf
  have hl := lv_entry ([.ref (ad 45), .int p0, .int p1, .ref o]) (n := 5) (Nat.le_of_ble_eq_true rfl)
  rw [lg_entry_eq]
  generalize (lg_sl ([.ref (ad 45), .int p0, .int p1, .ref o]) ++ List.replicate (5 - (lg_sl ([.ref (ad 45), .int p0, .int p1, .ref o])).length) Slot.unset).toArray = ls at hl ⊢
  have hl : lv_has ls 5 [(0, .ref (ad 45)), (1, .int p0), (2, .int p1), (3, .ref o)] := hl
  refine lv_aload_n hx hb dL_known_0 rfl (lv_at hl 3 rfl) ?_
  refine lv_iconst (v := 0) hx hb dL_known_1 (by decide) ?_
  refine lv_aload_n hx hb dL_known_2 rfl (lv_at hl 0 rfl) ?_
  refine lv_iload_n hx hb dL_known_3 rfl (lv_at hl 1 rfl) ?_
  refine lv_iload_n hx hb dL_known_4 rfl (lv_at hl 2 rfl) ?_
  refine ct_callA (va_runV (As := [.int p0, .int p1]) (rest := [.int 0, .ref o]) ⟨hx, hb, hml, hown, hts⟩ hM (cwV 2 hts (gu_V mw_498 mw_499 mw_500 mw_222 mw_266) rfl rfl rfl (by decide +kernel) ⟨Nat.le_of_ble_eq_true rfl, Nat.le_of_ble_eq_true rfl⟩) (ct_preV hn hP hK hN (ci := 4) (k := 45) rfl (by decide) hw) rfl rfl hl.1 rfl (lv_room (Nat.le_of_ble_eq_true rfl)) dL_known_5 ⟨Nat.zero_le _, Nat.zero_le _⟩) hS (fun q h => Or.inl h) (fun H locs hP hk hz hS => ?_)
  have hO := oC_kept hO hk ho
  refine lv_i2l (v := v.toInt64) hx hb dL_known_8 rfl ?_
  refine h_last hx hb hK htL hj hP hO ho hS dL_known_9 (fun H locs g' hP hO hg hS => ?_)
  refine lv_goto (tgt := 17) hx hb dL_known_10 (by decide) ?_
  refine lv_iconst (v := 0) hx hb dL_known_17 (by decide) ?_
  refine W.widen (k := 1) (n := 6) (by decide) (by decide) ?_
  exact W.iret hx hb hr (fun t ht hW => ⟨rfl, by rw [ht]; exact hP, ⟨g', by rw [ht]; exact hO, fun _ => hg⟩, hS.F ht⟩) hS.2.2 dL_known_18
set_option maxHeartbeats 1000000 in
theorem HX1_known (l : Launch) (D : va_G) (tys : List (ClassId × FieldType)) (nw : List Cond) (hn : nw.all nw_kind = true) {ad : Nat → Nat} (hj : ww_inj 46 ad) {cL : ClassId} (htL : tys[2]? = some (cL, .long)) {o : Nat} {g : Nat → Int64} (ho : ¬ ww_A 46 ad o) {w w' : Nat → va_E} {fs : List Value} (hw : w 45 = .inr (4, fs)) {p0 : Int32} {p1 : Int32} (v : Int64) (hM : vx_Met l yX4_known usX4_known ({ frames := 7, cells := 1, slots := 6, locals := 111 }) (va_Pc (.ref (ad 45) :: [.int p0, .int p1]) (ws_Bt D tys nw (ww_A 46 ad) (ww 46 ad w))) (fun _ _ _ _ => False) (xt_Q D (ww 46 ad w') (ww_A 46 ad) "java/lang/IllegalArgumentException") 1 6 (ww_A 46 ad)) : Met l yL_known usL_known ({ frames := 8, cells := 1, slots := 6, locals := 134 }) (va_Pc [.ref (ad 45), .int p0, .int p1, .ref o] (hB D tys nw ad (ww 46 ad w) cL o g)) (hq D cL (ww 46 ad w') o (hA ad o) 1 v) 1 6 (hA ad o) := by
  refine va_MetW (cc := cL_known) (maxL := 5) (ret := (some .int)) (hh := [(0, 10, 13, 13)]) (by decide) rfl ?_
  intro p e s m args below meth c s₁ B hml hv
  obtain ⟨rfl, ⟨⟨hP, hK, hN⟩, hT⟩, hO, hNc⟩ := hv
  have hx := B.exec
  have hb := B.bytes
  have hr := B.returns
  have hts := atoms_spec (ws := usL_known) B.pre
  have hown : s.vm.findClass RL = some m.cls := findClass_of_methodNamed B.named
  have hlocks := B.notSynchronized
  have hS : va_S (hA ad o) s.heap s.heap [] := va_S.rf
  have hl := lv_entry ([.ref (ad 45), .int p0, .int p1, .ref o]) (n := 5) (Nat.le_of_ble_eq_true rfl)
  rw [lg_entry_eq]
  generalize (lg_sl ([.ref (ad 45), .int p0, .int p1, .ref o]) ++ List.replicate (5 - (lg_sl ([.ref (ad 45), .int p0, .int p1, .ref o])).length) Slot.unset).toArray = ls at hl ⊢
  have hl : lv_has ls 5 [(0, .ref (ad 45)), (1, .int p0), (2, .int p1), (3, .ref o)] := hl
  refine lv_aload_n hx hb dL_known_0 rfl (lv_at hl 3 rfl) ?_
  refine lv_iconst (v := 0) hx hb dL_known_1 (by decide) ?_
  refine lv_aload_n hx hb dL_known_2 rfl (lv_at hl 0 rfl) ?_
  refine lv_iload_n hx hb dL_known_3 rfl (lv_at hl 1 rfl) ?_
  refine lv_iload_n hx hb dL_known_4 rfl (lv_at hl 2 rfl) ?_
  refine ct_thrA (vx_runV (As := [.int p0, .int p1]) (rest := [.int 0, .ref o]) ⟨hx, hb, hml, hown, hts⟩ hM (cwV 2 hts (gu_V mw_498 mw_499 mw_500 mw_222 mw_266) rfl rfl rfl (by decide +kernel) ⟨Nat.le_of_ble_eq_true rfl, Nat.le_of_ble_eq_true rfl⟩) (xt_preV hn hP hK hN hT va_S.rf (ci := 4) (k := 45) rfl (by decide) hw) rfl rfl hl.1 rfl (lv_room (Nat.le_of_ble_eq_true rfl)) dL_known_5 ⟨Nat.le_of_ble_eq_true rfl, Nat.le_of_ble_eq_true rfl⟩) hS (fun q h => Or.inl h) (fun q ce H locs hP hk hS hq hv hcl => ?_)
  have hO := oC_kept hO hk ho
  have htb : c.exceptionTable.toList = tableOf [(0, 10, 13, 13)] := vx_table (x := yL_known) B (hts _ List.mem_cons_self)
  refine cg_1 (own := RL) (nm := "java/lang/IllegalArgumentException") (Ex := "java/lang/IllegalArgumentException") hown (x := ⟨0, 10, 13, 13⟩) (t := tableOf []) htb (by decide) (by decide) (hts (.classLink RL 13 "java/lang/IllegalArgumentException") (BW_in mw_475)) (va_Nw.use rfl (hT.2.1.1 "java/lang/IllegalArgumentException" (by decide))) hq hv hcl ?_
  refine lv_astore (lv' := [(4, .ref q), (0, .ref (ad 45)), (1, .int p0), (2, .int p1), (3, .ref o)]) hx hb dL_known_13 hl (by decide) rfl (fun ls hl => ?_)
  refine lv_iconst (v := 1) hx hb dL_known_15 (by decide) ?_
  refine W.widen (k := 1) (n := 6) (by decide) (by decide) ?_
  exact W.iret hx hb hr (fun t ht hW => ⟨rfl, by rw [ht]; exact hP, ⟨g, by rw [ht]; exact hO, fun z => absurd z (by decide)⟩, hS.F ht⟩) hS.2.2 dL_known_16
set_option maxHeartbeats 1000000 in
theorem HN_minimal (l : Launch) (D : va_G) (tys : List (ClassId × FieldType)) (nw : List Cond) (hn : nw.all nw_kind = true) {ad : Nat → Nat} (hj : ww_inj 46 ad) {cL : ClassId} (htL : tys[2]? = some (cL, .long)) {o : Nat} {g : Nat → Int64} (ho : ¬ ww_A 46 ad o) {w w' : Nat → va_E} {fs : List Value} (hw : w 45 = .inr (4, fs)) {p0 : Int32} {p1 : Int32} {v : Int32} (hM : Met l yX4_minimal usX4_minimal ({ frames := 7, cells := 0, slots := 0, locals := 111 }) (va_Pc (.ref (ad 45) :: [.int p0, .int p1]) (ws_B D tys nw (ww 46 ad w))) (ct_Q D (ww 46 ad w') (ww_A 46 ad) (some (.int v))) 0 0 (ww_A 46 ad)) : Met l yL_minimal usL_minimal ({ frames := 8, cells := 1, slots := 6, locals := 133 }) (va_Pc [.ref (ad 45), .int p0, .int p1, .ref o] (hB D tys nw ad (ww 46 ad w) cL o g)) (hq D cL (ww 46 ad w') o (hA ad o) 0 v.toInt64) 1 6 (hA ad o) := by
  refine va_MetW (cc := cL_minimal) (maxL := 5) (ret := (some .int)) (hh := [(0, 10, 13, 19), (0, 10, 17, 13)]) (by decide) rfl ?_
  intro p e s m args below meth c s₁ B hml hv
  obtain ⟨rfl, ⟨⟨hP, hK, hN⟩, hT⟩, hO, hNc⟩ := hv
  have hx := B.exec
  have hb := B.bytes
  have hr := B.returns
  have hts := atoms_spec (ws := usL_minimal) B.pre
  have hown : s.vm.findClass RL = some m.cls := findClass_of_methodNamed B.named
  have hlocks := B.notSynchronized
  have hS : va_S (hA ad o) s.heap s.heap [] := va_S.rf
  have hl := lv_entry ([.ref (ad 45), .int p0, .int p1, .ref o]) (n := 5) (Nat.le_of_ble_eq_true rfl)
  rw [lg_entry_eq]
  generalize (lg_sl ([.ref (ad 45), .int p0, .int p1, .ref o]) ++ List.replicate (5 - (lg_sl ([.ref (ad 45), .int p0, .int p1, .ref o])).length) Slot.unset).toArray = ls at hl ⊢
  have hl : lv_has ls 5 [(0, .ref (ad 45)), (1, .int p0), (2, .int p1), (3, .ref o)] := hl
  refine lv_aload_n hx hb dL_minimal_0 rfl (lv_at hl 3 rfl) ?_
  refine lv_iconst (v := 0) hx hb dL_minimal_1 (by decide) ?_
  refine lv_aload_n hx hb dL_minimal_2 rfl (lv_at hl 0 rfl) ?_
  refine lv_iload_n hx hb dL_minimal_3 rfl (lv_at hl 1 rfl) ?_
  refine lv_iload_n hx hb dL_minimal_4 rfl (lv_at hl 2 rfl) ?_
  refine ct_callA (va_runV (As := [.int p0, .int p1]) (rest := [.int 0, .ref o]) ⟨hx, hb, hml, hown, hts⟩ hM (cwV 2 hts (gu_V mw_502 mw_503 mw_504 mw_222 mw_270) rfl rfl rfl (by decide +kernel) ⟨Nat.le_of_ble_eq_true rfl, Nat.le_of_ble_eq_true rfl⟩) (ct_preV hn hP hK hN (ci := 4) (k := 45) rfl (by decide) hw) rfl rfl hl.1 rfl (lv_room (Nat.le_of_ble_eq_true rfl)) dL_minimal_5 ⟨Nat.zero_le _, Nat.zero_le _⟩) hS (fun q h => Or.inl h) (fun H locs hP hk hz hS => ?_)
  have hO := oC_kept hO hk ho
  refine lv_i2l (v := v.toInt64) hx hb dL_minimal_8 rfl ?_
  refine h_last hx hb hK htL hj hP hO ho hS dL_minimal_9 (fun H locs g' hP hO hg hS => ?_)
  refine lv_goto (tgt := 21) hx hb dL_minimal_10 (by decide) ?_
  refine lv_iconst (v := 0) hx hb dL_minimal_21 (by decide) ?_
  refine W.widen (k := 1) (n := 6) (by decide) (by decide) ?_
  exact W.iret hx hb hr (fun t ht hW => ⟨rfl, by rw [ht]; exact hP, ⟨g', by rw [ht]; exact hO, fun _ => hg⟩, hS.F ht⟩) hS.2.2 dL_minimal_22
set_option maxHeartbeats 1000000 in
theorem HX1_minimal (l : Launch) (D : va_G) (tys : List (ClassId × FieldType)) (nw : List Cond) (hn : nw.all nw_kind = true) {ad : Nat → Nat} (hj : ww_inj 46 ad) {cL : ClassId} (htL : tys[2]? = some (cL, .long)) {o : Nat} {g : Nat → Int64} (ho : ¬ ww_A 46 ad o) {w w' : Nat → va_E} {fs : List Value} (hw : w 45 = .inr (4, fs)) {p0 : Int32} {p1 : Int32} (v : Int64) (hM : vx_Met l yX4_minimal usX4_minimal ({ frames := 7, cells := 1, slots := 6, locals := 111 }) (va_Pc (.ref (ad 45) :: [.int p0, .int p1]) (ws_Bt D tys nw (ww_A 46 ad) (ww 46 ad w))) (fun _ _ _ _ => False) (xt_Q D (ww 46 ad w') (ww_A 46 ad) "java/lang/IndexOutOfBoundsException") 1 6 (ww_A 46 ad)) : Met l yL_minimal usL_minimal ({ frames := 8, cells := 1, slots := 6, locals := 133 }) (va_Pc [.ref (ad 45), .int p0, .int p1, .ref o] (hB D tys nw ad (ww 46 ad w) cL o g)) (hq D cL (ww 46 ad w') o (hA ad o) 1 v) 1 6 (hA ad o) := by
  refine va_MetW (cc := cL_minimal) (maxL := 5) (ret := (some .int)) (hh := [(0, 10, 13, 19), (0, 10, 17, 13)]) (by decide) rfl ?_
  intro p e s m args below meth c s₁ B hml hv
  obtain ⟨rfl, ⟨⟨hP, hK, hN⟩, hT⟩, hO, hNc⟩ := hv
  have hx := B.exec
  have hb := B.bytes
  have hr := B.returns
  have hts := atoms_spec (ws := usL_minimal) B.pre
  have hown : s.vm.findClass RL = some m.cls := findClass_of_methodNamed B.named
  have hlocks := B.notSynchronized
  have hS : va_S (hA ad o) s.heap s.heap [] := va_S.rf
  have hl := lv_entry ([.ref (ad 45), .int p0, .int p1, .ref o]) (n := 5) (Nat.le_of_ble_eq_true rfl)
  rw [lg_entry_eq]
  generalize (lg_sl ([.ref (ad 45), .int p0, .int p1, .ref o]) ++ List.replicate (5 - (lg_sl ([.ref (ad 45), .int p0, .int p1, .ref o])).length) Slot.unset).toArray = ls at hl ⊢
  have hl : lv_has ls 5 [(0, .ref (ad 45)), (1, .int p0), (2, .int p1), (3, .ref o)] := hl
  refine lv_aload_n hx hb dL_minimal_0 rfl (lv_at hl 3 rfl) ?_
  refine lv_iconst (v := 0) hx hb dL_minimal_1 (by decide) ?_
  refine lv_aload_n hx hb dL_minimal_2 rfl (lv_at hl 0 rfl) ?_
  refine lv_iload_n hx hb dL_minimal_3 rfl (lv_at hl 1 rfl) ?_
  refine lv_iload_n hx hb dL_minimal_4 rfl (lv_at hl 2 rfl) ?_
  refine ct_thrA (vx_runV (As := [.int p0, .int p1]) (rest := [.int 0, .ref o]) ⟨hx, hb, hml, hown, hts⟩ hM (cwV 2 hts (gu_V mw_502 mw_503 mw_504 mw_222 mw_270) rfl rfl rfl (by decide +kernel) ⟨Nat.le_of_ble_eq_true rfl, Nat.le_of_ble_eq_true rfl⟩) (xt_preV hn hP hK hN hT va_S.rf (ci := 4) (k := 45) rfl (by decide) hw) rfl rfl hl.1 rfl (lv_room (Nat.le_of_ble_eq_true rfl)) dL_minimal_5 ⟨Nat.le_of_ble_eq_true rfl, Nat.le_of_ble_eq_true rfl⟩) hS (fun q h => Or.inl h) (fun q ce H locs hP hk hS hq hv hcl => ?_)
  have hO := oC_kept hO hk ho
  have htb : c.exceptionTable.toList = tableOf [(0, 10, 13, 19), (0, 10, 17, 13)] := vx_table (x := yL_minimal) B (hts _ List.mem_cons_self)
  refine cg_1 (own := RL) (nm := "java/lang/IndexOutOfBoundsException") (Ex := "java/lang/IndexOutOfBoundsException") hown (x := ⟨0, 10, 13, 19⟩) (t := tableOf [(0, 10, 17, 13)]) htb (by decide) (by decide) (hts (.classLink RL 19 "java/lang/IndexOutOfBoundsException") (BW_in mw_481)) (va_Nw.use rfl (hT.2.1.1 "java/lang/IndexOutOfBoundsException" (by decide))) hq hv hcl ?_
  refine lv_astore (lv' := [(4, .ref q), (0, .ref (ad 45)), (1, .int p0), (2, .int p1), (3, .ref o)]) hx hb dL_minimal_13 hl (by decide) rfl (fun ls hl => ?_)
  refine lv_iconst (v := 1) hx hb dL_minimal_15 (by decide) ?_
  refine W.widen (k := 1) (n := 6) (by decide) (by decide) ?_
  exact W.iret hx hb hr (fun t ht hW => ⟨rfl, by rw [ht]; exact hP, ⟨g, by rw [ht]; exact hO, fun z => absurd z (by decide)⟩, hS.F ht⟩) hS.2.2 dL_minimal_16
set_option maxHeartbeats 1000000 in
theorem HX2_minimal (l : Launch) (D : va_G) (tys : List (ClassId × FieldType)) (nw : List Cond) (hn : nw.all nw_kind = true) {ad : Nat → Nat} (hj : ww_inj 46 ad) {cL : ClassId} (htL : tys[2]? = some (cL, .long)) {o : Nat} {g : Nat → Int64} (ho : ¬ ww_A 46 ad o) {w w' : Nat → va_E} {fs : List Value} (hw : w 45 = .inr (4, fs)) {p0 : Int32} {p1 : Int32} (v : Int64) (hM : vx_Met l yX4_minimal usX4_minimal ({ frames := 7, cells := 1, slots := 6, locals := 111 }) (va_Pc (.ref (ad 45) :: [.int p0, .int p1]) (ws_Bt D tys nw (ww_A 46 ad) (ww 46 ad w))) (fun _ _ _ _ => False) (xt_Q D (ww 46 ad w') (ww_A 46 ad) "java/lang/IllegalArgumentException") 1 6 (ww_A 46 ad)) : Met l yL_minimal usL_minimal ({ frames := 8, cells := 1, slots := 6, locals := 133 }) (va_Pc [.ref (ad 45), .int p0, .int p1, .ref o] (hB D tys nw ad (ww 46 ad w) cL o g)) (hq D cL (ww 46 ad w') o (hA ad o) 2 v) 1 6 (hA ad o) := by
  refine va_MetW (cc := cL_minimal) (maxL := 5) (ret := (some .int)) (hh := [(0, 10, 13, 19), (0, 10, 17, 13)]) (by decide) rfl ?_
  intro p e s m args below meth c s₁ B hml hv
  obtain ⟨rfl, ⟨⟨hP, hK, hN⟩, hT⟩, hO, hNc⟩ := hv
  have hx := B.exec
  have hb := B.bytes
  have hr := B.returns
  have hts := atoms_spec (ws := usL_minimal) B.pre
  have hown : s.vm.findClass RL = some m.cls := findClass_of_methodNamed B.named
  have hlocks := B.notSynchronized
  have hS : va_S (hA ad o) s.heap s.heap [] := va_S.rf
  have hl := lv_entry ([.ref (ad 45), .int p0, .int p1, .ref o]) (n := 5) (Nat.le_of_ble_eq_true rfl)
  rw [lg_entry_eq]
  generalize (lg_sl ([.ref (ad 45), .int p0, .int p1, .ref o]) ++ List.replicate (5 - (lg_sl ([.ref (ad 45), .int p0, .int p1, .ref o])).length) Slot.unset).toArray = ls at hl ⊢
  have hl : lv_has ls 5 [(0, .ref (ad 45)), (1, .int p0), (2, .int p1), (3, .ref o)] := hl
  refine lv_aload_n hx hb dL_minimal_0 rfl (lv_at hl 3 rfl) ?_
  refine lv_iconst (v := 0) hx hb dL_minimal_1 (by decide) ?_
  refine lv_aload_n hx hb dL_minimal_2 rfl (lv_at hl 0 rfl) ?_
  refine lv_iload_n hx hb dL_minimal_3 rfl (lv_at hl 1 rfl) ?_
  refine lv_iload_n hx hb dL_minimal_4 rfl (lv_at hl 2 rfl) ?_
  refine ct_thrA (vx_runV (As := [.int p0, .int p1]) (rest := [.int 0, .ref o]) ⟨hx, hb, hml, hown, hts⟩ hM (cwV 2 hts (gu_V mw_502 mw_503 mw_504 mw_222 mw_270) rfl rfl rfl (by decide +kernel) ⟨Nat.le_of_ble_eq_true rfl, Nat.le_of_ble_eq_true rfl⟩) (xt_preV hn hP hK hN hT va_S.rf (ci := 4) (k := 45) rfl (by decide) hw) rfl rfl hl.1 rfl (lv_room (Nat.le_of_ble_eq_true rfl)) dL_minimal_5 ⟨Nat.le_of_ble_eq_true rfl, Nat.le_of_ble_eq_true rfl⟩) hS (fun q h => Or.inl h) (fun q ce H locs hP hk hS hq hv hcl => ?_)
  have hO := oC_kept hO hk ho
  have htb : c.exceptionTable.toList = tableOf [(0, 10, 13, 19), (0, 10, 17, 13)] := vx_table (x := yL_minimal) B (hts _ List.mem_cons_self)
  refine cg_2 (own := RL) (nm := "java/lang/IllegalArgumentException") (nm' := "java/lang/IndexOutOfBoundsException") (Ex := "java/lang/IllegalArgumentException") hown (y := ⟨0, 10, 13, 19⟩) (x := ⟨0, 10, 17, 13⟩) (t := []) htb (by decide) (by decide) (hts (.classLink RL 19 "java/lang/IndexOutOfBoundsException") (BW_in mw_481)) hNc.1 (by decide) (by decide) (hts (.classLink RL 13 "java/lang/IllegalArgumentException") (BW_in mw_475)) (va_Nw.use rfl (hT.2.1.1 "java/lang/IllegalArgumentException" (by decide))) hq hv hcl ?_
  refine lv_astore (lv' := [(4, .ref q), (0, .ref (ad 45)), (1, .int p0), (2, .int p1), (3, .ref o)]) hx hb dL_minimal_17 hl (by decide) rfl (fun ls hl => ?_)
  refine lv_iconst (v := 2) hx hb dL_minimal_19 (by decide) ?_
  refine W.widen (k := 1) (n := 6) (by decide) (by decide) ?_
  exact W.iret hx hb hr (fun t ht hW => ⟨rfl, by rw [ht]; exact hP, ⟨g, by rw [ht]; exact hO, fun z => absurd z (by decide)⟩, hS.F ht⟩) hS.2.2 dL_minimal_20
set_option maxHeartbeats 1000000 in
theorem HN_value (l : Launch) (D : va_G) (tys : List (ClassId × FieldType)) (nw : List Cond) (hn : nw.all nw_kind = true) {ad : Nat → Nat} (hj : ww_inj 46 ad) {cL : ClassId} (htL : tys[2]? = some (cL, .long)) {o : Nat} {g : Nat → Int64} (ho : ¬ ww_A 46 ad o) {w w' : Nat → va_E} {fs : List Value} (hw : w 45 = .inr (4, fs)) {p0 : Int32} {v : Int32} (hM : Met l yX4_value usX4_value ({ frames := 7, cells := 0, slots := 0, locals := 111 }) (va_Pc (.ref (ad 45) :: [.int p0]) (ws_B D tys nw (ww 46 ad w))) (ct_Q D (ww 46 ad w') (ww_A 46 ad) (some (.int v))) 0 0 (ww_A 46 ad)) : Met l yL_value usL_value ({ frames := 8, cells := 1, slots := 6, locals := 132 }) (va_Pc [.ref (ad 45), .int p0, .ref o] (hB D tys nw ad (ww 46 ad w) cL o g)) (hq D cL (ww 46 ad w') o (hA ad o) 0 v.toInt64) 1 6 (hA ad o) := by
  refine va_MetW (cc := cL_value) (maxL := 4) (ret := (some .int)) (hh := [(0, 9, 12, 13)]) (by decide) rfl ?_
  intro p e s m args below meth c s₁ B hml hv
  obtain ⟨rfl, ⟨⟨hP, hK, hN⟩, hT⟩, hO, hNc⟩ := hv
  have hx := B.exec
  have hb := B.bytes
  have hr := B.returns
  have hts := atoms_spec (ws := usL_value) B.pre
  have hown : s.vm.findClass RL = some m.cls := findClass_of_methodNamed B.named
  have hlocks := B.notSynchronized
  have hS : va_S (hA ad o) s.heap s.heap [] := va_S.rf
  have hl := lv_entry ([.ref (ad 45), .int p0, .ref o]) (n := 4) (Nat.le_of_ble_eq_true rfl)
  rw [lg_entry_eq]
  generalize (lg_sl ([.ref (ad 45), .int p0, .ref o]) ++ List.replicate (4 - (lg_sl ([.ref (ad 45), .int p0, .ref o])).length) Slot.unset).toArray = ls at hl ⊢
  have hl : lv_has ls 4 [(0, .ref (ad 45)), (1, .int p0), (2, .ref o)] := hl
  refine lv_aload_n hx hb dL_value_0 rfl (lv_at hl 2 rfl) ?_
  refine lv_iconst (v := 0) hx hb dL_value_1 (by decide) ?_
  refine lv_aload_n hx hb dL_value_2 rfl (lv_at hl 0 rfl) ?_
  refine lv_iload_n hx hb dL_value_3 rfl (lv_at hl 1 rfl) ?_
  refine ct_callA (va_runV (As := [.int p0]) (rest := [.int 0, .ref o]) ⟨hx, hb, hml, hown, hts⟩ hM (cwV 1 hts (gu_V mw_506 mw_507 mw_508 mw_222 mw_274) rfl rfl rfl (by decide +kernel) ⟨Nat.le_of_ble_eq_true rfl, Nat.le_of_ble_eq_true rfl⟩) (ct_preV hn hP hK hN (ci := 4) (k := 45) rfl (by decide) hw) rfl rfl hl.1 rfl (lv_room (Nat.le_of_ble_eq_true rfl)) dL_value_4 ⟨Nat.zero_le _, Nat.zero_le _⟩) hS (fun q h => Or.inl h) (fun H locs hP hk hz hS => ?_)
  have hO := oC_kept hO hk ho
  refine lv_i2l (v := v.toInt64) hx hb dL_value_7 rfl ?_
  refine h_last hx hb hK htL hj hP hO ho hS dL_value_8 (fun H locs g' hP hO hg hS => ?_)
  refine lv_goto (tgt := 15) hx hb dL_value_9 (by decide) ?_
  refine lv_iconst (v := 0) hx hb dL_value_15 (by decide) ?_
  refine W.widen (k := 1) (n := 6) (by decide) (by decide) ?_
  exact W.iret hx hb hr (fun t ht hW => ⟨rfl, by rw [ht]; exact hP, ⟨g', by rw [ht]; exact hO, fun _ => hg⟩, hS.F ht⟩) hS.2.2 dL_value_16
set_option maxHeartbeats 1000000 in
theorem HX1_value (l : Launch) (D : va_G) (tys : List (ClassId × FieldType)) (nw : List Cond) (hn : nw.all nw_kind = true) {ad : Nat → Nat} (hj : ww_inj 46 ad) {cL : ClassId} (htL : tys[2]? = some (cL, .long)) {o : Nat} {g : Nat → Int64} (ho : ¬ ww_A 46 ad o) {w w' : Nat → va_E} {fs : List Value} (hw : w 45 = .inr (4, fs)) {p0 : Int32} (v : Int64) (hM : vx_Met l yX4_value usX4_value ({ frames := 7, cells := 1, slots := 6, locals := 111 }) (va_Pc (.ref (ad 45) :: [.int p0]) (ws_Bt D tys nw (ww_A 46 ad) (ww 46 ad w))) (fun _ _ _ _ => False) (xt_Q D (ww 46 ad w') (ww_A 46 ad) "java/lang/IllegalArgumentException") 1 6 (ww_A 46 ad)) : Met l yL_value usL_value ({ frames := 8, cells := 1, slots := 6, locals := 132 }) (va_Pc [.ref (ad 45), .int p0, .ref o] (hB D tys nw ad (ww 46 ad w) cL o g)) (hq D cL (ww 46 ad w') o (hA ad o) 1 v) 1 6 (hA ad o) := by
  refine va_MetW (cc := cL_value) (maxL := 4) (ret := (some .int)) (hh := [(0, 9, 12, 13)]) (by decide) rfl ?_
  intro p e s m args below meth c s₁ B hml hv
  obtain ⟨rfl, ⟨⟨hP, hK, hN⟩, hT⟩, hO, hNc⟩ := hv
  have hx := B.exec
  have hb := B.bytes
  have hr := B.returns
  have hts := atoms_spec (ws := usL_value) B.pre
  have hown : s.vm.findClass RL = some m.cls := findClass_of_methodNamed B.named
  have hlocks := B.notSynchronized
  have hS : va_S (hA ad o) s.heap s.heap [] := va_S.rf
  have hl := lv_entry ([.ref (ad 45), .int p0, .ref o]) (n := 4) (Nat.le_of_ble_eq_true rfl)
  rw [lg_entry_eq]
  generalize (lg_sl ([.ref (ad 45), .int p0, .ref o]) ++ List.replicate (4 - (lg_sl ([.ref (ad 45), .int p0, .ref o])).length) Slot.unset).toArray = ls at hl ⊢
  have hl : lv_has ls 4 [(0, .ref (ad 45)), (1, .int p0), (2, .ref o)] := hl
  refine lv_aload_n hx hb dL_value_0 rfl (lv_at hl 2 rfl) ?_
  refine lv_iconst (v := 0) hx hb dL_value_1 (by decide) ?_
  refine lv_aload_n hx hb dL_value_2 rfl (lv_at hl 0 rfl) ?_
  refine lv_iload_n hx hb dL_value_3 rfl (lv_at hl 1 rfl) ?_
  refine ct_thrA (vx_runV (As := [.int p0]) (rest := [.int 0, .ref o]) ⟨hx, hb, hml, hown, hts⟩ hM (cwV 1 hts (gu_V mw_506 mw_507 mw_508 mw_222 mw_274) rfl rfl rfl (by decide +kernel) ⟨Nat.le_of_ble_eq_true rfl, Nat.le_of_ble_eq_true rfl⟩) (xt_preV hn hP hK hN hT va_S.rf (ci := 4) (k := 45) rfl (by decide) hw) rfl rfl hl.1 rfl (lv_room (Nat.le_of_ble_eq_true rfl)) dL_value_4 ⟨Nat.le_of_ble_eq_true rfl, Nat.le_of_ble_eq_true rfl⟩) hS (fun q h => Or.inl h) (fun q ce H locs hP hk hS hq hv hcl => ?_)
  have hO := oC_kept hO hk ho
  have htb : c.exceptionTable.toList = tableOf [(0, 9, 12, 13)] := vx_table (x := yL_value) B (hts _ List.mem_cons_self)
  refine cg_1 (own := RL) (nm := "java/lang/IllegalArgumentException") (Ex := "java/lang/IllegalArgumentException") hown (x := ⟨0, 9, 12, 13⟩) (t := tableOf []) htb (by decide) (by decide) (hts (.classLink RL 13 "java/lang/IllegalArgumentException") (BW_in mw_475)) (va_Nw.use rfl (hT.2.1.1 "java/lang/IllegalArgumentException" (by decide))) hq hv hcl ?_
  refine lv_astore_n (lv' := [(3, .ref q), (0, .ref (ad 45)), (1, .int p0), (2, .ref o)]) hx hb dL_value_12 rfl hl (by decide) rfl (fun ls hl => ?_)
  refine lv_iconst (v := 1) hx hb dL_value_13 (by decide) ?_
  refine W.widen (k := 1) (n := 6) (by decide) (by decide) ?_
  exact W.iret hx hb hr (fun t ht hW => ⟨rfl, by rw [ht]; exact hP, ⟨g, by rw [ht]; exact hO, fun z => absurd z (by decide)⟩, hS.F ht⟩) hS.2.2 dL_value_14
set_option maxHeartbeats 1000000 in
theorem HN_shift (l : Launch) (D : va_G) (tys : List (ClassId × FieldType)) (nw : List Cond) (hn : nw.all nw_kind = true) {ad : Nat → Nat} (hj : ww_inj 46 ad) {cL : ClassId} (htL : tys[2]? = some (cL, .long)) {o : Nat} {g : Nat → Int64} (ho : ¬ ww_A 46 ad o) {w w' : Nat → va_E} {fs : List Value} (hw : w 45 = .inr (4, fs))  {v : Int32} (hM : Met l yX4_shift usX4_shift ({ frames := 7, cells := 0, slots := 0, locals := 167 }) (va_Pc (.ref (ad 45) :: []) (ws_B D tys nw (ww 46 ad w))) (ct_Q D (ww 46 ad w') (ww_A 46 ad) (some (.int v))) 0 0 (ww_A 46 ad)) : Met l yL_shift usL_shift ({ frames := 8, cells := 1, slots := 6, locals := 187 }) (va_Pc [.ref (ad 45), .ref o] (hB D tys nw ad (ww 46 ad w) cL o g)) (hq D cL (ww 46 ad w') o (hA ad o) 0 v.toInt64) 1 6 (hA ad o) := by
  refine va_MetW (cc := cL_shift) (maxL := 3) (ret := (some .int)) (hh := [(0, 8, 11, 48)]) (by decide) rfl ?_
  intro p e s m args below meth c s₁ B hml hv
  obtain ⟨rfl, ⟨⟨hP, hK, hN⟩, hT⟩, hO, hNc⟩ := hv
  have hx := B.exec
  have hb := B.bytes
  have hr := B.returns
  have hts := atoms_spec (ws := usL_shift) B.pre
  have hown : s.vm.findClass RL = some m.cls := findClass_of_methodNamed B.named
  have hlocks := B.notSynchronized
  have hS : va_S (hA ad o) s.heap s.heap [] := va_S.rf
  have hl := lv_entry ([.ref (ad 45), .ref o]) (n := 3) (Nat.le_of_ble_eq_true rfl)
  rw [lg_entry_eq]
  generalize (lg_sl ([.ref (ad 45), .ref o]) ++ List.replicate (3 - (lg_sl ([.ref (ad 45), .ref o])).length) Slot.unset).toArray = ls at hl ⊢
  have hl : lv_has ls 3 [(0, .ref (ad 45)), (1, .ref o)] := hl
  refine lv_aload_n hx hb dL_shift_0 rfl (lv_at hl 1 rfl) ?_
  refine lv_iconst (v := 0) hx hb dL_shift_1 (by decide) ?_
  refine lv_aload_n hx hb dL_shift_2 rfl (lv_at hl 0 rfl) ?_
  refine ct_callA (va_runV (As := []) (rest := [.int 0, .ref o]) ⟨hx, hb, hml, hown, hts⟩ hM (cwV 0 hts (gu_V mw_511 mw_512 mw_513 mw_222 mw_290) rfl rfl rfl (by decide +kernel) ⟨Nat.le_of_ble_eq_true rfl, Nat.le_of_ble_eq_true rfl⟩) (ct_preV hn hP hK hN (ci := 4) (k := 45) rfl (by decide) hw) rfl rfl hl.1 rfl (lv_room (Nat.le_of_ble_eq_true rfl)) dL_shift_3 ⟨Nat.zero_le _, Nat.zero_le _⟩) hS (fun q h => Or.inl h) (fun H locs hP hk hz hS => ?_)
  have hO := oC_kept hO hk ho
  refine lv_i2l (v := v.toInt64) hx hb dL_shift_6 rfl ?_
  refine h_last hx hb hK htL hj hP hO ho hS dL_shift_7 (fun H locs g' hP hO hg hS => ?_)
  refine lv_goto (tgt := 14) hx hb dL_shift_8 (by decide) ?_
  refine lv_iconst (v := 0) hx hb dL_shift_14 (by decide) ?_
  refine W.widen (k := 1) (n := 6) (by decide) (by decide) ?_
  exact W.iret hx hb hr (fun t ht hW => ⟨rfl, by rw [ht]; exact hP, ⟨g', by rw [ht]; exact hO, fun _ => hg⟩, hS.F ht⟩) hS.2.2 dL_shift_15
set_option maxHeartbeats 1000000 in
theorem HX1_shift (l : Launch) (D : va_G) (tys : List (ClassId × FieldType)) (nw : List Cond) (hn : nw.all nw_kind = true) {ad : Nat → Nat} (hj : ww_inj 46 ad) {cL : ClassId} (htL : tys[2]? = some (cL, .long)) {o : Nat} {g : Nat → Int64} (ho : ¬ ww_A 46 ad o) {w w' : Nat → va_E} {fs : List Value} (hw : w 45 = .inr (4, fs))  (v : Int64) (hM : vx_Met l yX4_shift usX4_shift ({ frames := 7, cells := 1, slots := 6, locals := 167 }) (va_Pc (.ref (ad 45) :: []) (ws_Bt D tys nw (ww_A 46 ad) (ww 46 ad w))) (fun _ _ _ _ => False) (xt_Q D (ww 46 ad w') (ww_A 46 ad) "java/lang/IllegalStateException") 1 6 (ww_A 46 ad)) : Met l yL_shift usL_shift ({ frames := 8, cells := 1, slots := 6, locals := 187 }) (va_Pc [.ref (ad 45), .ref o] (hB D tys nw ad (ww 46 ad w) cL o g)) (hq D cL (ww 46 ad w') o (hA ad o) 1 v) 1 6 (hA ad o) := by
  refine va_MetW (cc := cL_shift) (maxL := 3) (ret := (some .int)) (hh := [(0, 8, 11, 48)]) (by decide) rfl ?_
  intro p e s m args below meth c s₁ B hml hv
  obtain ⟨rfl, ⟨⟨hP, hK, hN⟩, hT⟩, hO, hNc⟩ := hv
  have hx := B.exec
  have hb := B.bytes
  have hr := B.returns
  have hts := atoms_spec (ws := usL_shift) B.pre
  have hown : s.vm.findClass RL = some m.cls := findClass_of_methodNamed B.named
  have hlocks := B.notSynchronized
  have hS : va_S (hA ad o) s.heap s.heap [] := va_S.rf
  have hl := lv_entry ([.ref (ad 45), .ref o]) (n := 3) (Nat.le_of_ble_eq_true rfl)
  rw [lg_entry_eq]
  generalize (lg_sl ([.ref (ad 45), .ref o]) ++ List.replicate (3 - (lg_sl ([.ref (ad 45), .ref o])).length) Slot.unset).toArray = ls at hl ⊢
  have hl : lv_has ls 3 [(0, .ref (ad 45)), (1, .ref o)] := hl
  refine lv_aload_n hx hb dL_shift_0 rfl (lv_at hl 1 rfl) ?_
  refine lv_iconst (v := 0) hx hb dL_shift_1 (by decide) ?_
  refine lv_aload_n hx hb dL_shift_2 rfl (lv_at hl 0 rfl) ?_
  refine ct_thrA (vx_runV (As := []) (rest := [.int 0, .ref o]) ⟨hx, hb, hml, hown, hts⟩ hM (cwV 0 hts (gu_V mw_511 mw_512 mw_513 mw_222 mw_290) rfl rfl rfl (by decide +kernel) ⟨Nat.le_of_ble_eq_true rfl, Nat.le_of_ble_eq_true rfl⟩) (xt_preV hn hP hK hN hT va_S.rf (ci := 4) (k := 45) rfl (by decide) hw) rfl rfl hl.1 rfl (lv_room (Nat.le_of_ble_eq_true rfl)) dL_shift_3 ⟨Nat.le_of_ble_eq_true rfl, Nat.le_of_ble_eq_true rfl⟩) hS (fun q h => Or.inl h) (fun q ce H locs hP hk hS hq hv hcl => ?_)
  have hO := oC_kept hO hk ho
  have htb : c.exceptionTable.toList = tableOf [(0, 8, 11, 48)] := vx_table (x := yL_shift) B (hts _ List.mem_cons_self)
  refine cg_1 (own := RL) (nm := "java/lang/IllegalStateException") (Ex := "java/lang/IllegalStateException") hown (x := ⟨0, 8, 11, 48⟩) (t := tableOf []) htb (by decide) (by decide) (hts (.classLink RL 48 "java/lang/IllegalStateException") (BW_in mw_510)) (va_Nw.use rfl (hT.2.1.1 "java/lang/IllegalStateException" (by decide))) hq hv hcl ?_
  refine lv_astore_n (lv' := [(2, .ref q), (0, .ref (ad 45)), (1, .ref o)]) hx hb dL_shift_11 rfl hl (by decide) rfl (fun ls hl => ?_)
  refine lv_iconst (v := 1) hx hb dL_shift_12 (by decide) ?_
  refine W.widen (k := 1) (n := 6) (by decide) (by decide) ?_
  exact W.iret hx hb hr (fun t ht hW => ⟨rfl, by rw [ht]; exact hP, ⟨g, by rw [ht]; exact hO, fun z => absurd z (by decide)⟩, hS.F ht⟩) hS.2.2 dL_shift_13
set_option maxHeartbeats 1000000 in
theorem HN_factors (l : Launch) (D : va_G) (tys : List (ClassId × FieldType)) (nw : List Cond) (hn : nw.all nw_kind = true) {ad : Nat → Nat} (hj : ww_inj 46 ad) {cL : ClassId} (htL : tys[2]? = some (cL, .long)) {o : Nat} {g : Nat → Int64} (ho : ¬ ww_A 46 ad o) {w w' : Nat → va_E} {fs : List Value} (hw : w 45 = .inr (4, fs))  {v : Int32} (hM : Met l yX4_factors usX4_factors ({ frames := 7, cells := 0, slots := 0, locals := 167 }) (va_Pc (.ref (ad 45) :: []) (ws_B D tys nw (ww 46 ad w))) (ct_Q D (ww 46 ad w') (ww_A 46 ad) (some (.int v))) 0 0 (ww_A 46 ad)) : Met l yL_factors usL_factors ({ frames := 8, cells := 1, slots := 6, locals := 187 }) (va_Pc [.ref (ad 45), .ref o] (hB D tys nw ad (ww 46 ad w) cL o g)) (hq D cL (ww 46 ad w') o (hA ad o) 0 v.toInt64) 1 6 (hA ad o) := by
  refine va_MetW (cc := cL_factors) (maxL := 3) (ret := (some .int)) (hh := [(0, 8, 11, 48)]) (by decide) rfl ?_
  intro p e s m args below meth c s₁ B hml hv
  obtain ⟨rfl, ⟨⟨hP, hK, hN⟩, hT⟩, hO, hNc⟩ := hv
  have hx := B.exec
  have hb := B.bytes
  have hr := B.returns
  have hts := atoms_spec (ws := usL_factors) B.pre
  have hown : s.vm.findClass RL = some m.cls := findClass_of_methodNamed B.named
  have hlocks := B.notSynchronized
  have hS : va_S (hA ad o) s.heap s.heap [] := va_S.rf
  have hl := lv_entry ([.ref (ad 45), .ref o]) (n := 3) (Nat.le_of_ble_eq_true rfl)
  rw [lg_entry_eq]
  generalize (lg_sl ([.ref (ad 45), .ref o]) ++ List.replicate (3 - (lg_sl ([.ref (ad 45), .ref o])).length) Slot.unset).toArray = ls at hl ⊢
  have hl : lv_has ls 3 [(0, .ref (ad 45)), (1, .ref o)] := hl
  refine lv_aload_n hx hb dL_factors_0 rfl (lv_at hl 1 rfl) ?_
  refine lv_iconst (v := 0) hx hb dL_factors_1 (by decide) ?_
  refine lv_aload_n hx hb dL_factors_2 rfl (lv_at hl 0 rfl) ?_
  refine ct_callA (va_runV (As := []) (rest := [.int 0, .ref o]) ⟨hx, hb, hml, hown, hts⟩ hM (cwV 0 hts (gu_V mw_515 mw_516 mw_517 mw_222 mw_291) rfl rfl rfl (by decide +kernel) ⟨Nat.le_of_ble_eq_true rfl, Nat.le_of_ble_eq_true rfl⟩) (ct_preV hn hP hK hN (ci := 4) (k := 45) rfl (by decide) hw) rfl rfl hl.1 rfl (lv_room (Nat.le_of_ble_eq_true rfl)) dL_factors_3 ⟨Nat.zero_le _, Nat.zero_le _⟩) hS (fun q h => Or.inl h) (fun H locs hP hk hz hS => ?_)
  have hO := oC_kept hO hk ho
  refine lv_i2l (v := v.toInt64) hx hb dL_factors_6 rfl ?_
  refine h_last hx hb hK htL hj hP hO ho hS dL_factors_7 (fun H locs g' hP hO hg hS => ?_)
  refine lv_goto (tgt := 14) hx hb dL_factors_8 (by decide) ?_
  refine lv_iconst (v := 0) hx hb dL_factors_14 (by decide) ?_
  refine W.widen (k := 1) (n := 6) (by decide) (by decide) ?_
  exact W.iret hx hb hr (fun t ht hW => ⟨rfl, by rw [ht]; exact hP, ⟨g', by rw [ht]; exact hO, fun _ => hg⟩, hS.F ht⟩) hS.2.2 dL_factors_15
set_option maxHeartbeats 1000000 in
theorem HX1_factors (l : Launch) (D : va_G) (tys : List (ClassId × FieldType)) (nw : List Cond) (hn : nw.all nw_kind = true) {ad : Nat → Nat} (hj : ww_inj 46 ad) {cL : ClassId} (htL : tys[2]? = some (cL, .long)) {o : Nat} {g : Nat → Int64} (ho : ¬ ww_A 46 ad o) {w w' : Nat → va_E} {fs : List Value} (hw : w 45 = .inr (4, fs))  (v : Int64) (hM : vx_Met l yX4_factors usX4_factors ({ frames := 7, cells := 1, slots := 6, locals := 167 }) (va_Pc (.ref (ad 45) :: []) (ws_Bt D tys nw (ww_A 46 ad) (ww 46 ad w))) (fun _ _ _ _ => False) (xt_Q D (ww 46 ad w') (ww_A 46 ad) "java/lang/IllegalStateException") 1 6 (ww_A 46 ad)) : Met l yL_factors usL_factors ({ frames := 8, cells := 1, slots := 6, locals := 187 }) (va_Pc [.ref (ad 45), .ref o] (hB D tys nw ad (ww 46 ad w) cL o g)) (hq D cL (ww 46 ad w') o (hA ad o) 1 v) 1 6 (hA ad o) := by
  refine va_MetW (cc := cL_factors) (maxL := 3) (ret := (some .int)) (hh := [(0, 8, 11, 48)]) (by decide) rfl ?_
  intro p e s m args below meth c s₁ B hml hv
  obtain ⟨rfl, ⟨⟨hP, hK, hN⟩, hT⟩, hO, hNc⟩ := hv
  have hx := B.exec
  have hb := B.bytes
  have hr := B.returns
  have hts := atoms_spec (ws := usL_factors) B.pre
  have hown : s.vm.findClass RL = some m.cls := findClass_of_methodNamed B.named
  have hlocks := B.notSynchronized
  have hS : va_S (hA ad o) s.heap s.heap [] := va_S.rf
  have hl := lv_entry ([.ref (ad 45), .ref o]) (n := 3) (Nat.le_of_ble_eq_true rfl)
  rw [lg_entry_eq]
  generalize (lg_sl ([.ref (ad 45), .ref o]) ++ List.replicate (3 - (lg_sl ([.ref (ad 45), .ref o])).length) Slot.unset).toArray = ls at hl ⊢
  have hl : lv_has ls 3 [(0, .ref (ad 45)), (1, .ref o)] := hl
  refine lv_aload_n hx hb dL_factors_0 rfl (lv_at hl 1 rfl) ?_
  refine lv_iconst (v := 0) hx hb dL_factors_1 (by decide) ?_
  refine lv_aload_n hx hb dL_factors_2 rfl (lv_at hl 0 rfl) ?_
  refine ct_thrA (vx_runV (As := []) (rest := [.int 0, .ref o]) ⟨hx, hb, hml, hown, hts⟩ hM (cwV 0 hts (gu_V mw_515 mw_516 mw_517 mw_222 mw_291) rfl rfl rfl (by decide +kernel) ⟨Nat.le_of_ble_eq_true rfl, Nat.le_of_ble_eq_true rfl⟩) (xt_preV hn hP hK hN hT va_S.rf (ci := 4) (k := 45) rfl (by decide) hw) rfl rfl hl.1 rfl (lv_room (Nat.le_of_ble_eq_true rfl)) dL_factors_3 ⟨Nat.le_of_ble_eq_true rfl, Nat.le_of_ble_eq_true rfl⟩) hS (fun q h => Or.inl h) (fun q ce H locs hP hk hS hq hv hcl => ?_)
  have hO := oC_kept hO hk ho
  have htb : c.exceptionTable.toList = tableOf [(0, 8, 11, 48)] := vx_table (x := yL_factors) B (hts _ List.mem_cons_self)
  refine cg_1 (own := RL) (nm := "java/lang/IllegalStateException") (Ex := "java/lang/IllegalStateException") hown (x := ⟨0, 8, 11, 48⟩) (t := tableOf []) htb (by decide) (by decide) (hts (.classLink RL 48 "java/lang/IllegalStateException") (BW_in mw_510)) (va_Nw.use rfl (hT.2.1.1 "java/lang/IllegalStateException" (by decide))) hq hv hcl ?_
  refine lv_astore_n (lv' := [(2, .ref q), (0, .ref (ad 45)), (1, .ref o)]) hx hb dL_factors_11 rfl hl (by decide) rfl (fun ls hl => ?_)
  refine lv_iconst (v := 1) hx hb dL_factors_12 (by decide) ?_
  refine W.widen (k := 1) (n := 6) (by decide) (by decide) ?_
  exact W.iret hx hb hr (fun t ht hW => ⟨rfl, by rw [ht]; exact hP, ⟨g, by rw [ht]; exact hO, fun z => absurd z (by decide)⟩, hS.F ht⟩) hS.2.2 dL_factors_13
set_option maxHeartbeats 1000000 in
theorem HN_factor (l : Launch) (D : va_G) (tys : List (ClassId × FieldType)) (nw : List Cond) (hn : nw.all nw_kind = true) {ad : Nat → Nat} (hj : ww_inj 46 ad) {cL : ClassId} (htL : tys[2]? = some (cL, .long)) {o : Nat} {g : Nat → Int64} (ho : ¬ ww_A 46 ad o) {w w' : Nat → va_E} {fs : List Value} (hw : w 45 = .inr (4, fs)) {p0 : Int32} {p1 : Int32} {v : Int32} (hM : Met l yX4_factor usX4_factor ({ frames := 7, cells := 0, slots := 0, locals := 167 }) (va_Pc (.ref (ad 45) :: [.int p0, .int p1]) (ws_B D tys nw (ww 46 ad w))) (ct_Q D (ww 46 ad w') (ww_A 46 ad) (some (.int v))) 0 0 (ww_A 46 ad)) : Met l yL_factor usL_factor ({ frames := 8, cells := 1, slots := 6, locals := 189 }) (va_Pc [.ref (ad 45), .int p0, .int p1, .ref o] (hB D tys nw ad (ww 46 ad w) cL o g)) (hq D cL (ww 46 ad w') o (hA ad o) 0 v.toInt64) 1 6 (hA ad o) := by
  refine va_MetW (cc := cL_factor) (maxL := 5) (ret := (some .int)) (hh := [(0, 10, 13, 48), (0, 10, 17, 19)]) (by decide) rfl ?_
  intro p e s m args below meth c s₁ B hml hv
  obtain ⟨rfl, ⟨⟨hP, hK, hN⟩, hT⟩, hO, hNc⟩ := hv
  have hx := B.exec
  have hb := B.bytes
  have hr := B.returns
  have hts := atoms_spec (ws := usL_factor) B.pre
  have hown : s.vm.findClass RL = some m.cls := findClass_of_methodNamed B.named
  have hlocks := B.notSynchronized
  have hS : va_S (hA ad o) s.heap s.heap [] := va_S.rf
  have hl := lv_entry ([.ref (ad 45), .int p0, .int p1, .ref o]) (n := 5) (Nat.le_of_ble_eq_true rfl)
  rw [lg_entry_eq]
  generalize (lg_sl ([.ref (ad 45), .int p0, .int p1, .ref o]) ++ List.replicate (5 - (lg_sl ([.ref (ad 45), .int p0, .int p1, .ref o])).length) Slot.unset).toArray = ls at hl ⊢
  have hl : lv_has ls 5 [(0, .ref (ad 45)), (1, .int p0), (2, .int p1), (3, .ref o)] := hl
  refine lv_aload_n hx hb dL_factor_0 rfl (lv_at hl 3 rfl) ?_
  refine lv_iconst (v := 0) hx hb dL_factor_1 (by decide) ?_
  refine lv_aload_n hx hb dL_factor_2 rfl (lv_at hl 0 rfl) ?_
  refine lv_iload_n hx hb dL_factor_3 rfl (lv_at hl 1 rfl) ?_
  refine lv_iload_n hx hb dL_factor_4 rfl (lv_at hl 2 rfl) ?_
  refine ct_callA (va_runV (As := [.int p0, .int p1]) (rest := [.int 0, .ref o]) ⟨hx, hb, hml, hown, hts⟩ hM (cwV 2 hts (gu_V mw_519 mw_520 mw_521 mw_222 mw_297) rfl rfl rfl (by decide +kernel) ⟨Nat.le_of_ble_eq_true rfl, Nat.le_of_ble_eq_true rfl⟩) (ct_preV hn hP hK hN (ci := 4) (k := 45) rfl (by decide) hw) rfl rfl hl.1 rfl (lv_room (Nat.le_of_ble_eq_true rfl)) dL_factor_5 ⟨Nat.zero_le _, Nat.zero_le _⟩) hS (fun q h => Or.inl h) (fun H locs hP hk hz hS => ?_)
  have hO := oC_kept hO hk ho
  refine lv_i2l (v := v.toInt64) hx hb dL_factor_8 rfl ?_
  refine h_last hx hb hK htL hj hP hO ho hS dL_factor_9 (fun H locs g' hP hO hg hS => ?_)
  refine lv_goto (tgt := 21) hx hb dL_factor_10 (by decide) ?_
  refine lv_iconst (v := 0) hx hb dL_factor_21 (by decide) ?_
  refine W.widen (k := 1) (n := 6) (by decide) (by decide) ?_
  exact W.iret hx hb hr (fun t ht hW => ⟨rfl, by rw [ht]; exact hP, ⟨g', by rw [ht]; exact hO, fun _ => hg⟩, hS.F ht⟩) hS.2.2 dL_factor_22
set_option maxHeartbeats 1000000 in
theorem HX1_factor (l : Launch) (D : va_G) (tys : List (ClassId × FieldType)) (nw : List Cond) (hn : nw.all nw_kind = true) {ad : Nat → Nat} (hj : ww_inj 46 ad) {cL : ClassId} (htL : tys[2]? = some (cL, .long)) {o : Nat} {g : Nat → Int64} (ho : ¬ ww_A 46 ad o) {w w' : Nat → va_E} {fs : List Value} (hw : w 45 = .inr (4, fs)) {p0 : Int32} {p1 : Int32} (v : Int64) (hM : vx_Met l yX4_factor usX4_factor ({ frames := 7, cells := 1, slots := 6, locals := 167 }) (va_Pc (.ref (ad 45) :: [.int p0, .int p1]) (ws_Bt D tys nw (ww_A 46 ad) (ww 46 ad w))) (fun _ _ _ _ => False) (xt_Q D (ww 46 ad w') (ww_A 46 ad) "java/lang/IllegalStateException") 1 6 (ww_A 46 ad)) : Met l yL_factor usL_factor ({ frames := 8, cells := 1, slots := 6, locals := 189 }) (va_Pc [.ref (ad 45), .int p0, .int p1, .ref o] (hB D tys nw ad (ww 46 ad w) cL o g)) (hq D cL (ww 46 ad w') o (hA ad o) 1 v) 1 6 (hA ad o) := by
  refine va_MetW (cc := cL_factor) (maxL := 5) (ret := (some .int)) (hh := [(0, 10, 13, 48), (0, 10, 17, 19)]) (by decide) rfl ?_
  intro p e s m args below meth c s₁ B hml hv
  obtain ⟨rfl, ⟨⟨hP, hK, hN⟩, hT⟩, hO, hNc⟩ := hv
  have hx := B.exec
  have hb := B.bytes
  have hr := B.returns
  have hts := atoms_spec (ws := usL_factor) B.pre
  have hown : s.vm.findClass RL = some m.cls := findClass_of_methodNamed B.named
  have hlocks := B.notSynchronized
  have hS : va_S (hA ad o) s.heap s.heap [] := va_S.rf
  have hl := lv_entry ([.ref (ad 45), .int p0, .int p1, .ref o]) (n := 5) (Nat.le_of_ble_eq_true rfl)
  rw [lg_entry_eq]
  generalize (lg_sl ([.ref (ad 45), .int p0, .int p1, .ref o]) ++ List.replicate (5 - (lg_sl ([.ref (ad 45), .int p0, .int p1, .ref o])).length) Slot.unset).toArray = ls at hl ⊢
  have hl : lv_has ls 5 [(0, .ref (ad 45)), (1, .int p0), (2, .int p1), (3, .ref o)] := hl
  refine lv_aload_n hx hb dL_factor_0 rfl (lv_at hl 3 rfl) ?_
  refine lv_iconst (v := 0) hx hb dL_factor_1 (by decide) ?_
  refine lv_aload_n hx hb dL_factor_2 rfl (lv_at hl 0 rfl) ?_
  refine lv_iload_n hx hb dL_factor_3 rfl (lv_at hl 1 rfl) ?_
  refine lv_iload_n hx hb dL_factor_4 rfl (lv_at hl 2 rfl) ?_
  refine ct_thrA (vx_runV (As := [.int p0, .int p1]) (rest := [.int 0, .ref o]) ⟨hx, hb, hml, hown, hts⟩ hM (cwV 2 hts (gu_V mw_519 mw_520 mw_521 mw_222 mw_297) rfl rfl rfl (by decide +kernel) ⟨Nat.le_of_ble_eq_true rfl, Nat.le_of_ble_eq_true rfl⟩) (xt_preV hn hP hK hN hT va_S.rf (ci := 4) (k := 45) rfl (by decide) hw) rfl rfl hl.1 rfl (lv_room (Nat.le_of_ble_eq_true rfl)) dL_factor_5 ⟨Nat.le_of_ble_eq_true rfl, Nat.le_of_ble_eq_true rfl⟩) hS (fun q h => Or.inl h) (fun q ce H locs hP hk hS hq hv hcl => ?_)
  have hO := oC_kept hO hk ho
  have htb : c.exceptionTable.toList = tableOf [(0, 10, 13, 48), (0, 10, 17, 19)] := vx_table (x := yL_factor) B (hts _ List.mem_cons_self)
  refine cg_1 (own := RL) (nm := "java/lang/IllegalStateException") (Ex := "java/lang/IllegalStateException") hown (x := ⟨0, 10, 13, 48⟩) (t := tableOf [(0, 10, 17, 19)]) htb (by decide) (by decide) (hts (.classLink RL 48 "java/lang/IllegalStateException") (BW_in mw_510)) (va_Nw.use rfl (hT.2.1.1 "java/lang/IllegalStateException" (by decide))) hq hv hcl ?_
  refine lv_astore (lv' := [(4, .ref q), (0, .ref (ad 45)), (1, .int p0), (2, .int p1), (3, .ref o)]) hx hb dL_factor_13 hl (by decide) rfl (fun ls hl => ?_)
  refine lv_iconst (v := 1) hx hb dL_factor_15 (by decide) ?_
  refine W.widen (k := 1) (n := 6) (by decide) (by decide) ?_
  exact W.iret hx hb hr (fun t ht hW => ⟨rfl, by rw [ht]; exact hP, ⟨g, by rw [ht]; exact hO, fun z => absurd z (by decide)⟩, hS.F ht⟩) hS.2.2 dL_factor_16
set_option maxHeartbeats 1000000 in
theorem HX2_factor (l : Launch) (D : va_G) (tys : List (ClassId × FieldType)) (nw : List Cond) (hn : nw.all nw_kind = true) {ad : Nat → Nat} (hj : ww_inj 46 ad) {cL : ClassId} (htL : tys[2]? = some (cL, .long)) {o : Nat} {g : Nat → Int64} (ho : ¬ ww_A 46 ad o) {w w' : Nat → va_E} {fs : List Value} (hw : w 45 = .inr (4, fs)) {p0 : Int32} {p1 : Int32} (v : Int64) (hM : vx_Met l yX4_factor usX4_factor ({ frames := 7, cells := 1, slots := 6, locals := 167 }) (va_Pc (.ref (ad 45) :: [.int p0, .int p1]) (ws_Bt D tys nw (ww_A 46 ad) (ww 46 ad w))) (fun _ _ _ _ => False) (xt_Q D (ww 46 ad w') (ww_A 46 ad) "java/lang/IndexOutOfBoundsException") 1 6 (ww_A 46 ad)) : Met l yL_factor usL_factor ({ frames := 8, cells := 1, slots := 6, locals := 189 }) (va_Pc [.ref (ad 45), .int p0, .int p1, .ref o] (hB D tys nw ad (ww 46 ad w) cL o g)) (hq D cL (ww 46 ad w') o (hA ad o) 2 v) 1 6 (hA ad o) := by
  refine va_MetW (cc := cL_factor) (maxL := 5) (ret := (some .int)) (hh := [(0, 10, 13, 48), (0, 10, 17, 19)]) (by decide) rfl ?_
  intro p e s m args below meth c s₁ B hml hv
  obtain ⟨rfl, ⟨⟨hP, hK, hN⟩, hT⟩, hO, hNc⟩ := hv
  have hx := B.exec
  have hb := B.bytes
  have hr := B.returns
  have hts := atoms_spec (ws := usL_factor) B.pre
  have hown : s.vm.findClass RL = some m.cls := findClass_of_methodNamed B.named
  have hlocks := B.notSynchronized
  have hS : va_S (hA ad o) s.heap s.heap [] := va_S.rf
  have hl := lv_entry ([.ref (ad 45), .int p0, .int p1, .ref o]) (n := 5) (Nat.le_of_ble_eq_true rfl)
  rw [lg_entry_eq]
  generalize (lg_sl ([.ref (ad 45), .int p0, .int p1, .ref o]) ++ List.replicate (5 - (lg_sl ([.ref (ad 45), .int p0, .int p1, .ref o])).length) Slot.unset).toArray = ls at hl ⊢
  have hl : lv_has ls 5 [(0, .ref (ad 45)), (1, .int p0), (2, .int p1), (3, .ref o)] := hl
  refine lv_aload_n hx hb dL_factor_0 rfl (lv_at hl 3 rfl) ?_
  refine lv_iconst (v := 0) hx hb dL_factor_1 (by decide) ?_
  refine lv_aload_n hx hb dL_factor_2 rfl (lv_at hl 0 rfl) ?_
  refine lv_iload_n hx hb dL_factor_3 rfl (lv_at hl 1 rfl) ?_
  refine lv_iload_n hx hb dL_factor_4 rfl (lv_at hl 2 rfl) ?_
  refine ct_thrA (vx_runV (As := [.int p0, .int p1]) (rest := [.int 0, .ref o]) ⟨hx, hb, hml, hown, hts⟩ hM (cwV 2 hts (gu_V mw_519 mw_520 mw_521 mw_222 mw_297) rfl rfl rfl (by decide +kernel) ⟨Nat.le_of_ble_eq_true rfl, Nat.le_of_ble_eq_true rfl⟩) (xt_preV hn hP hK hN hT va_S.rf (ci := 4) (k := 45) rfl (by decide) hw) rfl rfl hl.1 rfl (lv_room (Nat.le_of_ble_eq_true rfl)) dL_factor_5 ⟨Nat.le_of_ble_eq_true rfl, Nat.le_of_ble_eq_true rfl⟩) hS (fun q h => Or.inl h) (fun q ce H locs hP hk hS hq hv hcl => ?_)
  have hO := oC_kept hO hk ho
  have htb : c.exceptionTable.toList = tableOf [(0, 10, 13, 48), (0, 10, 17, 19)] := vx_table (x := yL_factor) B (hts _ List.mem_cons_self)
  refine cg_2 (own := RL) (nm := "java/lang/IndexOutOfBoundsException") (nm' := "java/lang/IllegalStateException") (Ex := "java/lang/IndexOutOfBoundsException") hown (y := ⟨0, 10, 13, 48⟩) (x := ⟨0, 10, 17, 19⟩) (t := []) htb (by decide) (by decide) (hts (.classLink RL 48 "java/lang/IllegalStateException") (BW_in mw_510)) hNc.2.2 (by decide) (by decide) (hts (.classLink RL 19 "java/lang/IndexOutOfBoundsException") (BW_in mw_481)) (va_Nw.use rfl (hT.2.1.1 "java/lang/IndexOutOfBoundsException" (by decide))) hq hv hcl ?_
  refine lv_astore (lv' := [(4, .ref q), (0, .ref (ad 45)), (1, .int p0), (2, .int p1), (3, .ref o)]) hx hb dL_factor_17 hl (by decide) rfl (fun ls hl => ?_)
  refine lv_iconst (v := 2) hx hb dL_factor_19 (by decide) ?_
  refine W.widen (k := 1) (n := 6) (by decide) (by decide) ?_
  exact W.iret hx hb hr (fun t ht hW => ⟨rfl, by rw [ht]; exact hP, ⟨g, by rw [ht]; exact hO, fun z => absurd z (by decide)⟩, hS.F ht⟩) hS.2.2 dL_factor_20
set_option maxHeartbeats 1000000 in
theorem HN_often (l : Launch) (D : va_G) (tys : List (ClassId × FieldType)) (nw : List Cond) (hn : nw.all nw_kind = true) {ad : Nat → Nat} (hj : ww_inj 46 ad) {cL : ClassId} (htL : tys[2]? = some (cL, .long)) {o : Nat} {g : Nat → Int64} (ho : ¬ ww_A 46 ad o) {w w' : Nat → va_E} {fs : List Value} (hw : w 45 = .inr (4, fs)) {p0 : Int32} {v : Int32} (hM : Met l yX4_often usX4_often ({ frames := 7, cells := 0, slots := 0, locals := 167 }) (va_Pc (.ref (ad 45) :: [.int p0]) (ws_B D tys nw (ww 46 ad w))) (ct_Q D (ww 46 ad w') (ww_A 46 ad) (some (.int v))) 0 0 (ww_A 46 ad)) : Met l yL_often usL_often ({ frames := 8, cells := 1, slots := 6, locals := 188 }) (va_Pc [.ref (ad 45), .int p0, .ref o] (hB D tys nw ad (ww 46 ad w) cL o g)) (hq D cL (ww 46 ad w') o (hA ad o) 0 v.toInt64) 1 6 (hA ad o) := by
  refine va_MetW (cc := cL_often) (maxL := 4) (ret := (some .int)) (hh := [(0, 9, 12, 48), (0, 9, 15, 19)]) (by decide) rfl ?_
  intro p e s m args below meth c s₁ B hml hv
  obtain ⟨rfl, ⟨⟨hP, hK, hN⟩, hT⟩, hO, hNc⟩ := hv
  have hx := B.exec
  have hb := B.bytes
  have hr := B.returns
  have hts := atoms_spec (ws := usL_often) B.pre
  have hown : s.vm.findClass RL = some m.cls := findClass_of_methodNamed B.named
  have hlocks := B.notSynchronized
  have hS : va_S (hA ad o) s.heap s.heap [] := va_S.rf
  have hl := lv_entry ([.ref (ad 45), .int p0, .ref o]) (n := 4) (Nat.le_of_ble_eq_true rfl)
  rw [lg_entry_eq]
  generalize (lg_sl ([.ref (ad 45), .int p0, .ref o]) ++ List.replicate (4 - (lg_sl ([.ref (ad 45), .int p0, .ref o])).length) Slot.unset).toArray = ls at hl ⊢
  have hl : lv_has ls 4 [(0, .ref (ad 45)), (1, .int p0), (2, .ref o)] := hl
  refine lv_aload_n hx hb dL_often_0 rfl (lv_at hl 2 rfl) ?_
  refine lv_iconst (v := 0) hx hb dL_often_1 (by decide) ?_
  refine lv_aload_n hx hb dL_often_2 rfl (lv_at hl 0 rfl) ?_
  refine lv_iload_n hx hb dL_often_3 rfl (lv_at hl 1 rfl) ?_
  refine ct_callA (va_runV (As := [.int p0]) (rest := [.int 0, .ref o]) ⟨hx, hb, hml, hown, hts⟩ hM (cwV 1 hts (gu_V mw_523 mw_524 mw_525 mw_222 mw_301) rfl rfl rfl (by decide +kernel) ⟨Nat.le_of_ble_eq_true rfl, Nat.le_of_ble_eq_true rfl⟩) (ct_preV hn hP hK hN (ci := 4) (k := 45) rfl (by decide) hw) rfl rfl hl.1 rfl (lv_room (Nat.le_of_ble_eq_true rfl)) dL_often_4 ⟨Nat.zero_le _, Nat.zero_le _⟩) hS (fun q h => Or.inl h) (fun H locs hP hk hz hS => ?_)
  have hO := oC_kept hO hk ho
  refine lv_i2l (v := v.toInt64) hx hb dL_often_7 rfl ?_
  refine h_last hx hb hK htL hj hP hO ho hS dL_often_8 (fun H locs g' hP hO hg hS => ?_)
  refine lv_goto (tgt := 18) hx hb dL_often_9 (by decide) ?_
  refine lv_iconst (v := 0) hx hb dL_often_18 (by decide) ?_
  refine W.widen (k := 1) (n := 6) (by decide) (by decide) ?_
  exact W.iret hx hb hr (fun t ht hW => ⟨rfl, by rw [ht]; exact hP, ⟨g', by rw [ht]; exact hO, fun _ => hg⟩, hS.F ht⟩) hS.2.2 dL_often_19
set_option maxHeartbeats 1000000 in
theorem HX1_often (l : Launch) (D : va_G) (tys : List (ClassId × FieldType)) (nw : List Cond) (hn : nw.all nw_kind = true) {ad : Nat → Nat} (hj : ww_inj 46 ad) {cL : ClassId} (htL : tys[2]? = some (cL, .long)) {o : Nat} {g : Nat → Int64} (ho : ¬ ww_A 46 ad o) {w w' : Nat → va_E} {fs : List Value} (hw : w 45 = .inr (4, fs)) {p0 : Int32} (v : Int64) (hM : vx_Met l yX4_often usX4_often ({ frames := 7, cells := 1, slots := 6, locals := 167 }) (va_Pc (.ref (ad 45) :: [.int p0]) (ws_Bt D tys nw (ww_A 46 ad) (ww 46 ad w))) (fun _ _ _ _ => False) (xt_Q D (ww 46 ad w') (ww_A 46 ad) "java/lang/IllegalStateException") 1 6 (ww_A 46 ad)) : Met l yL_often usL_often ({ frames := 8, cells := 1, slots := 6, locals := 188 }) (va_Pc [.ref (ad 45), .int p0, .ref o] (hB D tys nw ad (ww 46 ad w) cL o g)) (hq D cL (ww 46 ad w') o (hA ad o) 1 v) 1 6 (hA ad o) := by
  refine va_MetW (cc := cL_often) (maxL := 4) (ret := (some .int)) (hh := [(0, 9, 12, 48), (0, 9, 15, 19)]) (by decide) rfl ?_
  intro p e s m args below meth c s₁ B hml hv
  obtain ⟨rfl, ⟨⟨hP, hK, hN⟩, hT⟩, hO, hNc⟩ := hv
  have hx := B.exec
  have hb := B.bytes
  have hr := B.returns
  have hts := atoms_spec (ws := usL_often) B.pre
  have hown : s.vm.findClass RL = some m.cls := findClass_of_methodNamed B.named
  have hlocks := B.notSynchronized
  have hS : va_S (hA ad o) s.heap s.heap [] := va_S.rf
  have hl := lv_entry ([.ref (ad 45), .int p0, .ref o]) (n := 4) (Nat.le_of_ble_eq_true rfl)
  rw [lg_entry_eq]
  generalize (lg_sl ([.ref (ad 45), .int p0, .ref o]) ++ List.replicate (4 - (lg_sl ([.ref (ad 45), .int p0, .ref o])).length) Slot.unset).toArray = ls at hl ⊢
  have hl : lv_has ls 4 [(0, .ref (ad 45)), (1, .int p0), (2, .ref o)] := hl
  refine lv_aload_n hx hb dL_often_0 rfl (lv_at hl 2 rfl) ?_
  refine lv_iconst (v := 0) hx hb dL_often_1 (by decide) ?_
  refine lv_aload_n hx hb dL_often_2 rfl (lv_at hl 0 rfl) ?_
  refine lv_iload_n hx hb dL_often_3 rfl (lv_at hl 1 rfl) ?_
  refine ct_thrA (vx_runV (As := [.int p0]) (rest := [.int 0, .ref o]) ⟨hx, hb, hml, hown, hts⟩ hM (cwV 1 hts (gu_V mw_523 mw_524 mw_525 mw_222 mw_301) rfl rfl rfl (by decide +kernel) ⟨Nat.le_of_ble_eq_true rfl, Nat.le_of_ble_eq_true rfl⟩) (xt_preV hn hP hK hN hT va_S.rf (ci := 4) (k := 45) rfl (by decide) hw) rfl rfl hl.1 rfl (lv_room (Nat.le_of_ble_eq_true rfl)) dL_often_4 ⟨Nat.le_of_ble_eq_true rfl, Nat.le_of_ble_eq_true rfl⟩) hS (fun q h => Or.inl h) (fun q ce H locs hP hk hS hq hv hcl => ?_)
  have hO := oC_kept hO hk ho
  have htb : c.exceptionTable.toList = tableOf [(0, 9, 12, 48), (0, 9, 15, 19)] := vx_table (x := yL_often) B (hts _ List.mem_cons_self)
  refine cg_1 (own := RL) (nm := "java/lang/IllegalStateException") (Ex := "java/lang/IllegalStateException") hown (x := ⟨0, 9, 12, 48⟩) (t := tableOf [(0, 9, 15, 19)]) htb (by decide) (by decide) (hts (.classLink RL 48 "java/lang/IllegalStateException") (BW_in mw_510)) (va_Nw.use rfl (hT.2.1.1 "java/lang/IllegalStateException" (by decide))) hq hv hcl ?_
  refine lv_astore_n (lv' := [(3, .ref q), (0, .ref (ad 45)), (1, .int p0), (2, .ref o)]) hx hb dL_often_12 rfl hl (by decide) rfl (fun ls hl => ?_)
  refine lv_iconst (v := 1) hx hb dL_often_13 (by decide) ?_
  refine W.widen (k := 1) (n := 6) (by decide) (by decide) ?_
  exact W.iret hx hb hr (fun t ht hW => ⟨rfl, by rw [ht]; exact hP, ⟨g, by rw [ht]; exact hO, fun z => absurd z (by decide)⟩, hS.F ht⟩) hS.2.2 dL_often_14
set_option maxHeartbeats 1000000 in
theorem HX2_often (l : Launch) (D : va_G) (tys : List (ClassId × FieldType)) (nw : List Cond) (hn : nw.all nw_kind = true) {ad : Nat → Nat} (hj : ww_inj 46 ad) {cL : ClassId} (htL : tys[2]? = some (cL, .long)) {o : Nat} {g : Nat → Int64} (ho : ¬ ww_A 46 ad o) {w w' : Nat → va_E} {fs : List Value} (hw : w 45 = .inr (4, fs)) {p0 : Int32} (v : Int64) (hM : vx_Met l yX4_often usX4_often ({ frames := 7, cells := 1, slots := 6, locals := 167 }) (va_Pc (.ref (ad 45) :: [.int p0]) (ws_Bt D tys nw (ww_A 46 ad) (ww 46 ad w))) (fun _ _ _ _ => False) (xt_Q D (ww 46 ad w') (ww_A 46 ad) "java/lang/IndexOutOfBoundsException") 1 6 (ww_A 46 ad)) : Met l yL_often usL_often ({ frames := 8, cells := 1, slots := 6, locals := 188 }) (va_Pc [.ref (ad 45), .int p0, .ref o] (hB D tys nw ad (ww 46 ad w) cL o g)) (hq D cL (ww 46 ad w') o (hA ad o) 2 v) 1 6 (hA ad o) := by
  refine va_MetW (cc := cL_often) (maxL := 4) (ret := (some .int)) (hh := [(0, 9, 12, 48), (0, 9, 15, 19)]) (by decide) rfl ?_
  intro p e s m args below meth c s₁ B hml hv
  obtain ⟨rfl, ⟨⟨hP, hK, hN⟩, hT⟩, hO, hNc⟩ := hv
  have hx := B.exec
  have hb := B.bytes
  have hr := B.returns
  have hts := atoms_spec (ws := usL_often) B.pre
  have hown : s.vm.findClass RL = some m.cls := findClass_of_methodNamed B.named
  have hlocks := B.notSynchronized
  have hS : va_S (hA ad o) s.heap s.heap [] := va_S.rf
  have hl := lv_entry ([.ref (ad 45), .int p0, .ref o]) (n := 4) (Nat.le_of_ble_eq_true rfl)
  rw [lg_entry_eq]
  generalize (lg_sl ([.ref (ad 45), .int p0, .ref o]) ++ List.replicate (4 - (lg_sl ([.ref (ad 45), .int p0, .ref o])).length) Slot.unset).toArray = ls at hl ⊢
  have hl : lv_has ls 4 [(0, .ref (ad 45)), (1, .int p0), (2, .ref o)] := hl
  refine lv_aload_n hx hb dL_often_0 rfl (lv_at hl 2 rfl) ?_
  refine lv_iconst (v := 0) hx hb dL_often_1 (by decide) ?_
  refine lv_aload_n hx hb dL_often_2 rfl (lv_at hl 0 rfl) ?_
  refine lv_iload_n hx hb dL_often_3 rfl (lv_at hl 1 rfl) ?_
  refine ct_thrA (vx_runV (As := [.int p0]) (rest := [.int 0, .ref o]) ⟨hx, hb, hml, hown, hts⟩ hM (cwV 1 hts (gu_V mw_523 mw_524 mw_525 mw_222 mw_301) rfl rfl rfl (by decide +kernel) ⟨Nat.le_of_ble_eq_true rfl, Nat.le_of_ble_eq_true rfl⟩) (xt_preV hn hP hK hN hT va_S.rf (ci := 4) (k := 45) rfl (by decide) hw) rfl rfl hl.1 rfl (lv_room (Nat.le_of_ble_eq_true rfl)) dL_often_4 ⟨Nat.le_of_ble_eq_true rfl, Nat.le_of_ble_eq_true rfl⟩) hS (fun q h => Or.inl h) (fun q ce H locs hP hk hS hq hv hcl => ?_)
  have hO := oC_kept hO hk ho
  have htb : c.exceptionTable.toList = tableOf [(0, 9, 12, 48), (0, 9, 15, 19)] := vx_table (x := yL_often) B (hts _ List.mem_cons_self)
  refine cg_2 (own := RL) (nm := "java/lang/IndexOutOfBoundsException") (nm' := "java/lang/IllegalStateException") (Ex := "java/lang/IndexOutOfBoundsException") hown (y := ⟨0, 9, 12, 48⟩) (x := ⟨0, 9, 15, 19⟩) (t := []) htb (by decide) (by decide) (hts (.classLink RL 48 "java/lang/IllegalStateException") (BW_in mw_510)) hNc.2.2 (by decide) (by decide) (hts (.classLink RL 19 "java/lang/IndexOutOfBoundsException") (BW_in mw_481)) (va_Nw.use rfl (hT.2.1.1 "java/lang/IndexOutOfBoundsException" (by decide))) hq hv hcl ?_
  refine lv_astore_n (lv' := [(3, .ref q), (0, .ref (ad 45)), (1, .int p0), (2, .ref o)]) hx hb dL_often_15 rfl hl (by decide) rfl (fun ls hl => ?_)
  refine lv_iconst (v := 2) hx hb dL_often_16 (by decide) ?_
  refine W.widen (k := 1) (n := 6) (by decide) (by decide) ?_
  exact W.iret hx hb hr (fun t ht hW => ⟨rfl, by rw [ht]; exact hP, ⟨g, by rw [ht]; exact hO, fun z => absurd z (by decide)⟩, hS.F ht⟩) hS.2.2 dL_often_17
set_option maxHeartbeats 1000000 in
theorem HN_splitting (l : Launch) (D : va_G) (tys : List (ClassId × FieldType)) (nw : List Cond) (hn : nw.all nw_kind = true) {ad : Nat → Nat} (hj : ww_inj 46 ad) {cL : ClassId} (htL : tys[2]? = some (cL, .long)) {o : Nat} {g : Nat → Int64} (ho : ¬ ww_A 46 ad o) {w w' : Nat → va_E} {fs : List Value} (hw : w 45 = .inr (4, fs))  {v : Int32} (hM : Met l yX4_splitting usX4_splitting ({ frames := 7, cells := 0, slots := 0, locals := 167 }) (va_Pc (.ref (ad 45) :: []) (ws_B D tys nw (ww 46 ad w))) (ct_Q D (ww 46 ad w') (ww_A 46 ad) (some (.int v))) 0 0 (ww_A 46 ad)) : Met l yL_splitting usL_splitting ({ frames := 8, cells := 1, slots := 6, locals := 187 }) (va_Pc [.ref (ad 45), .ref o] (hB D tys nw ad (ww 46 ad w) cL o g)) (hq D cL (ww 46 ad w') o (hA ad o) 0 v.toInt64) 1 6 (hA ad o) := by
  refine va_MetW (cc := cL_splitting) (maxL := 3) (ret := (some .int)) (hh := [(0, 8, 11, 48)]) (by decide) rfl ?_
  intro p e s m args below meth c s₁ B hml hv
  obtain ⟨rfl, ⟨⟨hP, hK, hN⟩, hT⟩, hO, hNc⟩ := hv
  have hx := B.exec
  have hb := B.bytes
  have hr := B.returns
  have hts := atoms_spec (ws := usL_splitting) B.pre
  have hown : s.vm.findClass RL = some m.cls := findClass_of_methodNamed B.named
  have hlocks := B.notSynchronized
  have hS : va_S (hA ad o) s.heap s.heap [] := va_S.rf
  have hl := lv_entry ([.ref (ad 45), .ref o]) (n := 3) (Nat.le_of_ble_eq_true rfl)
  rw [lg_entry_eq]
  generalize (lg_sl ([.ref (ad 45), .ref o]) ++ List.replicate (3 - (lg_sl ([.ref (ad 45), .ref o])).length) Slot.unset).toArray = ls at hl ⊢
  have hl : lv_has ls 3 [(0, .ref (ad 45)), (1, .ref o)] := hl
  refine lv_aload_n hx hb dL_splitting_0 rfl (lv_at hl 1 rfl) ?_
  refine lv_iconst (v := 0) hx hb dL_splitting_1 (by decide) ?_
  refine lv_aload_n hx hb dL_splitting_2 rfl (lv_at hl 0 rfl) ?_
  refine ct_callA (va_runV (As := []) (rest := [.int 0, .ref o]) ⟨hx, hb, hml, hown, hts⟩ hM (cwV 0 hts (gu_V mw_527 mw_528 mw_529 mw_222 mw_305) rfl rfl rfl (by decide +kernel) ⟨Nat.le_of_ble_eq_true rfl, Nat.le_of_ble_eq_true rfl⟩) (ct_preV hn hP hK hN (ci := 4) (k := 45) rfl (by decide) hw) rfl rfl hl.1 rfl (lv_room (Nat.le_of_ble_eq_true rfl)) dL_splitting_3 ⟨Nat.zero_le _, Nat.zero_le _⟩) hS (fun q h => Or.inl h) (fun H locs hP hk hz hS => ?_)
  have hO := oC_kept hO hk ho
  refine lv_i2l (v := v.toInt64) hx hb dL_splitting_6 rfl ?_
  refine h_last hx hb hK htL hj hP hO ho hS dL_splitting_7 (fun H locs g' hP hO hg hS => ?_)
  refine lv_goto (tgt := 14) hx hb dL_splitting_8 (by decide) ?_
  refine lv_iconst (v := 0) hx hb dL_splitting_14 (by decide) ?_
  refine W.widen (k := 1) (n := 6) (by decide) (by decide) ?_
  exact W.iret hx hb hr (fun t ht hW => ⟨rfl, by rw [ht]; exact hP, ⟨g', by rw [ht]; exact hO, fun _ => hg⟩, hS.F ht⟩) hS.2.2 dL_splitting_15
set_option maxHeartbeats 1000000 in
theorem HX1_splitting (l : Launch) (D : va_G) (tys : List (ClassId × FieldType)) (nw : List Cond) (hn : nw.all nw_kind = true) {ad : Nat → Nat} (hj : ww_inj 46 ad) {cL : ClassId} (htL : tys[2]? = some (cL, .long)) {o : Nat} {g : Nat → Int64} (ho : ¬ ww_A 46 ad o) {w w' : Nat → va_E} {fs : List Value} (hw : w 45 = .inr (4, fs))  (v : Int64) (hM : vx_Met l yX4_splitting usX4_splitting ({ frames := 7, cells := 1, slots := 6, locals := 167 }) (va_Pc (.ref (ad 45) :: []) (ws_Bt D tys nw (ww_A 46 ad) (ww 46 ad w))) (fun _ _ _ _ => False) (xt_Q D (ww 46 ad w') (ww_A 46 ad) "java/lang/IllegalStateException") 1 6 (ww_A 46 ad)) : Met l yL_splitting usL_splitting ({ frames := 8, cells := 1, slots := 6, locals := 187 }) (va_Pc [.ref (ad 45), .ref o] (hB D tys nw ad (ww 46 ad w) cL o g)) (hq D cL (ww 46 ad w') o (hA ad o) 1 v) 1 6 (hA ad o) := by
  refine va_MetW (cc := cL_splitting) (maxL := 3) (ret := (some .int)) (hh := [(0, 8, 11, 48)]) (by decide) rfl ?_
  intro p e s m args below meth c s₁ B hml hv
  obtain ⟨rfl, ⟨⟨hP, hK, hN⟩, hT⟩, hO, hNc⟩ := hv
  have hx := B.exec
  have hb := B.bytes
  have hr := B.returns
  have hts := atoms_spec (ws := usL_splitting) B.pre
  have hown : s.vm.findClass RL = some m.cls := findClass_of_methodNamed B.named
  have hlocks := B.notSynchronized
  have hS : va_S (hA ad o) s.heap s.heap [] := va_S.rf
  have hl := lv_entry ([.ref (ad 45), .ref o]) (n := 3) (Nat.le_of_ble_eq_true rfl)
  rw [lg_entry_eq]
  generalize (lg_sl ([.ref (ad 45), .ref o]) ++ List.replicate (3 - (lg_sl ([.ref (ad 45), .ref o])).length) Slot.unset).toArray = ls at hl ⊢
  have hl : lv_has ls 3 [(0, .ref (ad 45)), (1, .ref o)] := hl
  refine lv_aload_n hx hb dL_splitting_0 rfl (lv_at hl 1 rfl) ?_
  refine lv_iconst (v := 0) hx hb dL_splitting_1 (by decide) ?_
  refine lv_aload_n hx hb dL_splitting_2 rfl (lv_at hl 0 rfl) ?_
  refine ct_thrA (vx_runV (As := []) (rest := [.int 0, .ref o]) ⟨hx, hb, hml, hown, hts⟩ hM (cwV 0 hts (gu_V mw_527 mw_528 mw_529 mw_222 mw_305) rfl rfl rfl (by decide +kernel) ⟨Nat.le_of_ble_eq_true rfl, Nat.le_of_ble_eq_true rfl⟩) (xt_preV hn hP hK hN hT va_S.rf (ci := 4) (k := 45) rfl (by decide) hw) rfl rfl hl.1 rfl (lv_room (Nat.le_of_ble_eq_true rfl)) dL_splitting_3 ⟨Nat.le_of_ble_eq_true rfl, Nat.le_of_ble_eq_true rfl⟩) hS (fun q h => Or.inl h) (fun q ce H locs hP hk hS hq hv hcl => ?_)
  have hO := oC_kept hO hk ho
  have htb : c.exceptionTable.toList = tableOf [(0, 8, 11, 48)] := vx_table (x := yL_splitting) B (hts _ List.mem_cons_self)
  refine cg_1 (own := RL) (nm := "java/lang/IllegalStateException") (Ex := "java/lang/IllegalStateException") hown (x := ⟨0, 8, 11, 48⟩) (t := tableOf []) htb (by decide) (by decide) (hts (.classLink RL 48 "java/lang/IllegalStateException") (BW_in mw_510)) (va_Nw.use rfl (hT.2.1.1 "java/lang/IllegalStateException" (by decide))) hq hv hcl ?_
  refine lv_astore_n (lv' := [(2, .ref q), (0, .ref (ad 45)), (1, .ref o)]) hx hb dL_splitting_11 rfl hl (by decide) rfl (fun ls hl => ?_)
  refine lv_iconst (v := 1) hx hb dL_splitting_12 (by decide) ?_
  refine W.widen (k := 1) (n := 6) (by decide) (by decide) ?_
  exact W.iret hx hb hr (fun t ht hW => ⟨rfl, by rw [ht]; exact hP, ⟨g, by rw [ht]; exact hO, fun z => absurd z (by decide)⟩, hS.F ht⟩) hS.2.2 dL_splitting_13
set_option maxHeartbeats 1000000 in
theorem HN_move (l : Launch) (D : va_G) (tys : List (ClassId × FieldType)) (nw : List Cond) (hn : nw.all nw_kind = true) {ad : Nat → Nat} (hj : ww_inj 46 ad) {w w' : Nat → va_E} {fs : List Value} (hw : w 45 = .inr (4, fs)) {p0 : Int32} (hM : Met l yX4_move usX4_move ({ frames := 7, cells := 0, slots := 0, locals := 111 }) (va_Pc (.ref (ad 45) :: [.int p0]) (ws_B D tys nw (ww 46 ad w))) (ct_Q D (ww 46 ad w') (ww_A 46 ad) (none)) 0 0 (ww_A 46 ad)) : Met l yL_move usL_move ({ frames := 8, cells := 1, slots := 6, locals := 132 }) (va_Pc [.ref (ad 45), .int p0] (hB0 D tys nw ad (ww 46 ad w))) (hq0 D (ww 46 ad w') (ww_A 46 ad) 0) 1 6 (ww_A 46 ad) := by
  refine va_MetW (cc := cL_move) (maxL := 3) (ret := (some .int)) (hh := [(0, 5, 8, 13)]) (by decide) rfl ?_
  intro p e s m args below meth c s₁ B hml hv
  obtain ⟨rfl, ⟨⟨hP, hK, hN⟩, hT⟩, hNc⟩ := hv
  have hx := B.exec
  have hb := B.bytes
  have hr := B.returns
  have hts := atoms_spec (ws := usL_move) B.pre
  have hown : s.vm.findClass RL = some m.cls := findClass_of_methodNamed B.named
  have hlocks := B.notSynchronized
  have hS : va_S (ww_A 46 ad) s.heap s.heap [] := va_S.rf
  have hl := lv_entry ([.ref (ad 45), .int p0]) (n := 3) (Nat.le_of_ble_eq_true rfl)
  rw [lg_entry_eq]
  generalize (lg_sl ([.ref (ad 45), .int p0]) ++ List.replicate (3 - (lg_sl ([.ref (ad 45), .int p0])).length) Slot.unset).toArray = ls at hl ⊢
  have hl : lv_has ls 3 [(0, .ref (ad 45)), (1, .int p0)] := hl
  refine lv_aload_n hx hb dL_move_0 rfl (lv_at hl 0 rfl) ?_
  refine lv_iload_n hx hb dL_move_1 rfl (lv_at hl 1 rfl) ?_
  refine ct_callA (va_runV (As := [.int p0]) (rest := []) ⟨hx, hb, hml, hown, hts⟩ hM (cwV 1 hts (gu_V mw_531 mw_532 mw_533 mw_222 mw_307) rfl rfl rfl (by decide +kernel) ⟨Nat.le_of_ble_eq_true rfl, Nat.le_of_ble_eq_true rfl⟩) (ct_preV hn hP hK hN (ci := 4) (k := 45) rfl (by decide) hw) rfl rfl hl.1 rfl (lv_room (Nat.le_of_ble_eq_true rfl)) dL_move_2 ⟨Nat.zero_le _, Nat.zero_le _⟩) hS (fun q h => h) (fun H locs hP hk hz hS => ?_)
  refine lv_goto (tgt := 11) hx hb dL_move_5 (by decide) ?_
  refine lv_iconst (v := 0) hx hb dL_move_11 (by decide) ?_
  refine W.widen (k := 1) (n := 6) (by decide) (by decide) ?_
  exact W.iret hx hb hr (fun t ht hW => ⟨rfl, by rw [ht]; exact hP, hS.F ht⟩) hS.2.2 dL_move_12
set_option maxHeartbeats 1000000 in
theorem HX1_move (l : Launch) (D : va_G) (tys : List (ClassId × FieldType)) (nw : List Cond) (hn : nw.all nw_kind = true) {ad : Nat → Nat} (hj : ww_inj 46 ad) {w w' : Nat → va_E} {fs : List Value} (hw : w 45 = .inr (4, fs)) {p0 : Int32} (hM : vx_Met l yX4_move usX4_move ({ frames := 7, cells := 1, slots := 6, locals := 111 }) (va_Pc (.ref (ad 45) :: [.int p0]) (ws_Bt D tys nw (ww_A 46 ad) (ww 46 ad w))) (fun _ _ _ _ => False) (xt_Q D (ww 46 ad w') (ww_A 46 ad) "java/lang/IllegalArgumentException") 1 6 (ww_A 46 ad)) : Met l yL_move usL_move ({ frames := 8, cells := 1, slots := 6, locals := 132 }) (va_Pc [.ref (ad 45), .int p0] (hB0 D tys nw ad (ww 46 ad w))) (hq0 D (ww 46 ad w') (ww_A 46 ad) 1) 1 6 (ww_A 46 ad) := by
  refine va_MetW (cc := cL_move) (maxL := 3) (ret := (some .int)) (hh := [(0, 5, 8, 13)]) (by decide) rfl ?_
  intro p e s m args below meth c s₁ B hml hv
  obtain ⟨rfl, ⟨⟨hP, hK, hN⟩, hT⟩, hNc⟩ := hv
  have hx := B.exec
  have hb := B.bytes
  have hr := B.returns
  have hts := atoms_spec (ws := usL_move) B.pre
  have hown : s.vm.findClass RL = some m.cls := findClass_of_methodNamed B.named
  have hlocks := B.notSynchronized
  have hS : va_S (ww_A 46 ad) s.heap s.heap [] := va_S.rf
  have hl := lv_entry ([.ref (ad 45), .int p0]) (n := 3) (Nat.le_of_ble_eq_true rfl)
  rw [lg_entry_eq]
  generalize (lg_sl ([.ref (ad 45), .int p0]) ++ List.replicate (3 - (lg_sl ([.ref (ad 45), .int p0])).length) Slot.unset).toArray = ls at hl ⊢
  have hl : lv_has ls 3 [(0, .ref (ad 45)), (1, .int p0)] := hl
  refine lv_aload_n hx hb dL_move_0 rfl (lv_at hl 0 rfl) ?_
  refine lv_iload_n hx hb dL_move_1 rfl (lv_at hl 1 rfl) ?_
  refine ct_thrA (vx_runV (As := [.int p0]) (rest := []) ⟨hx, hb, hml, hown, hts⟩ hM (cwV 1 hts (gu_V mw_531 mw_532 mw_533 mw_222 mw_307) rfl rfl rfl (by decide +kernel) ⟨Nat.le_of_ble_eq_true rfl, Nat.le_of_ble_eq_true rfl⟩) (xt_preV hn hP hK hN hT va_S.rf (ci := 4) (k := 45) rfl (by decide) hw) rfl rfl hl.1 rfl (lv_room (Nat.le_of_ble_eq_true rfl)) dL_move_2 ⟨Nat.le_of_ble_eq_true rfl, Nat.le_of_ble_eq_true rfl⟩) hS (fun q h => h) (fun q ce H locs hP hk hS hq hv hcl => ?_)
  have htb : c.exceptionTable.toList = tableOf [(0, 5, 8, 13)] := vx_table (x := yL_move) B (hts _ List.mem_cons_self)
  refine cg_1 (own := RL) (nm := "java/lang/IllegalArgumentException") (Ex := "java/lang/IllegalArgumentException") hown (x := ⟨0, 5, 8, 13⟩) (t := tableOf []) htb (by decide) (by decide) (hts (.classLink RL 13 "java/lang/IllegalArgumentException") (BW_in mw_475)) (va_Nw.use rfl (hT.2.1.1 "java/lang/IllegalArgumentException" (by decide))) hq hv hcl ?_
  refine lv_astore_n (lv' := [(2, .ref q), (0, .ref (ad 45)), (1, .int p0)]) hx hb dL_move_8 rfl hl (by decide) rfl (fun ls hl => ?_)
  refine lv_iconst (v := 1) hx hb dL_move_9 (by decide) ?_
  refine W.widen (k := 1) (n := 6) (by decide) (by decide) ?_
  exact W.iret hx hb hr (fun t ht hW => ⟨rfl, by rw [ht]; exact hP, hS.F ht⟩) hS.2.2 dL_move_10
set_option maxHeartbeats 1000000 in
theorem HN_take (l : Launch) (D : va_G) (tys : List (ClassId × FieldType)) (nw : List Cond) (hn : nw.all nw_kind = true) {ad : Nat → Nat} (hj : ww_inj 46 ad) {w w' : Nat → va_E} {fs : List Value} (hw : w 45 = .inr (4, fs)) {p0 : Int32} (hM : Met l yX4_take usX4_take ({ frames := 7, cells := 0, slots := 0, locals := 167 }) (va_Pc (.ref (ad 45) :: [.int p0]) (ws_B D tys nw (ww 46 ad w))) (ct_Q D (ww 46 ad w') (ww_A 46 ad) (none)) 0 0 (ww_A 46 ad)) : Met l yL_take usL_take ({ frames := 8, cells := 1, slots := 6, locals := 188 }) (va_Pc [.ref (ad 45), .int p0] (hB0 D tys nw ad (ww 46 ad w))) (hq0 D (ww 46 ad w') (ww_A 46 ad) 0) 1 6 (ww_A 46 ad) := by
  refine va_MetW (cc := cL_take) (maxL := 3) (ret := (some .int)) (hh := [(0, 5, 8, 48), (0, 5, 11, 19)]) (by decide) rfl ?_
  intro p e s m args below meth c s₁ B hml hv
  obtain ⟨rfl, ⟨⟨hP, hK, hN⟩, hT⟩, hNc⟩ := hv
  have hx := B.exec
  have hb := B.bytes
  have hr := B.returns
  have hts := atoms_spec (ws := usL_take) B.pre
  have hown : s.vm.findClass RL = some m.cls := findClass_of_methodNamed B.named
  have hlocks := B.notSynchronized
  have hS : va_S (ww_A 46 ad) s.heap s.heap [] := va_S.rf
  have hl := lv_entry ([.ref (ad 45), .int p0]) (n := 3) (Nat.le_of_ble_eq_true rfl)
  rw [lg_entry_eq]
  generalize (lg_sl ([.ref (ad 45), .int p0]) ++ List.replicate (3 - (lg_sl ([.ref (ad 45), .int p0])).length) Slot.unset).toArray = ls at hl ⊢
  have hl : lv_has ls 3 [(0, .ref (ad 45)), (1, .int p0)] := hl
  refine lv_aload_n hx hb dL_take_0 rfl (lv_at hl 0 rfl) ?_
  refine lv_iload_n hx hb dL_take_1 rfl (lv_at hl 1 rfl) ?_
  refine ct_callA (va_runV (As := [.int p0]) (rest := []) ⟨hx, hb, hml, hown, hts⟩ hM (cwV 1 hts (gu_V mw_535 mw_536 mw_537 mw_222 mw_309) rfl rfl rfl (by decide +kernel) ⟨Nat.le_of_ble_eq_true rfl, Nat.le_of_ble_eq_true rfl⟩) (ct_preV hn hP hK hN (ci := 4) (k := 45) rfl (by decide) hw) rfl rfl hl.1 rfl (lv_room (Nat.le_of_ble_eq_true rfl)) dL_take_2 ⟨Nat.zero_le _, Nat.zero_le _⟩) hS (fun q h => h) (fun H locs hP hk hz hS => ?_)
  refine lv_goto (tgt := 14) hx hb dL_take_5 (by decide) ?_
  refine lv_iconst (v := 0) hx hb dL_take_14 (by decide) ?_
  refine W.widen (k := 1) (n := 6) (by decide) (by decide) ?_
  exact W.iret hx hb hr (fun t ht hW => ⟨rfl, by rw [ht]; exact hP, hS.F ht⟩) hS.2.2 dL_take_15
set_option maxHeartbeats 1000000 in
theorem HX1_take (l : Launch) (D : va_G) (tys : List (ClassId × FieldType)) (nw : List Cond) (hn : nw.all nw_kind = true) {ad : Nat → Nat} (hj : ww_inj 46 ad) {w w' : Nat → va_E} {fs : List Value} (hw : w 45 = .inr (4, fs)) {p0 : Int32} (hM : vx_Met l yX4_take usX4_take ({ frames := 7, cells := 1, slots := 6, locals := 167 }) (va_Pc (.ref (ad 45) :: [.int p0]) (ws_Bt D tys nw (ww_A 46 ad) (ww 46 ad w))) (fun _ _ _ _ => False) (xt_Q D (ww 46 ad w') (ww_A 46 ad) "java/lang/IllegalStateException") 1 6 (ww_A 46 ad)) : Met l yL_take usL_take ({ frames := 8, cells := 1, slots := 6, locals := 188 }) (va_Pc [.ref (ad 45), .int p0] (hB0 D tys nw ad (ww 46 ad w))) (hq0 D (ww 46 ad w') (ww_A 46 ad) 1) 1 6 (ww_A 46 ad) := by
  refine va_MetW (cc := cL_take) (maxL := 3) (ret := (some .int)) (hh := [(0, 5, 8, 48), (0, 5, 11, 19)]) (by decide) rfl ?_
  intro p e s m args below meth c s₁ B hml hv
  obtain ⟨rfl, ⟨⟨hP, hK, hN⟩, hT⟩, hNc⟩ := hv
  have hx := B.exec
  have hb := B.bytes
  have hr := B.returns
  have hts := atoms_spec (ws := usL_take) B.pre
  have hown : s.vm.findClass RL = some m.cls := findClass_of_methodNamed B.named
  have hlocks := B.notSynchronized
  have hS : va_S (ww_A 46 ad) s.heap s.heap [] := va_S.rf
  have hl := lv_entry ([.ref (ad 45), .int p0]) (n := 3) (Nat.le_of_ble_eq_true rfl)
  rw [lg_entry_eq]
  generalize (lg_sl ([.ref (ad 45), .int p0]) ++ List.replicate (3 - (lg_sl ([.ref (ad 45), .int p0])).length) Slot.unset).toArray = ls at hl ⊢
  have hl : lv_has ls 3 [(0, .ref (ad 45)), (1, .int p0)] := hl
  refine lv_aload_n hx hb dL_take_0 rfl (lv_at hl 0 rfl) ?_
  refine lv_iload_n hx hb dL_take_1 rfl (lv_at hl 1 rfl) ?_
  refine ct_thrA (vx_runV (As := [.int p0]) (rest := []) ⟨hx, hb, hml, hown, hts⟩ hM (cwV 1 hts (gu_V mw_535 mw_536 mw_537 mw_222 mw_309) rfl rfl rfl (by decide +kernel) ⟨Nat.le_of_ble_eq_true rfl, Nat.le_of_ble_eq_true rfl⟩) (xt_preV hn hP hK hN hT va_S.rf (ci := 4) (k := 45) rfl (by decide) hw) rfl rfl hl.1 rfl (lv_room (Nat.le_of_ble_eq_true rfl)) dL_take_2 ⟨Nat.le_of_ble_eq_true rfl, Nat.le_of_ble_eq_true rfl⟩) hS (fun q h => h) (fun q ce H locs hP hk hS hq hv hcl => ?_)
  have htb : c.exceptionTable.toList = tableOf [(0, 5, 8, 48), (0, 5, 11, 19)] := vx_table (x := yL_take) B (hts _ List.mem_cons_self)
  refine cg_1 (own := RL) (nm := "java/lang/IllegalStateException") (Ex := "java/lang/IllegalStateException") hown (x := ⟨0, 5, 8, 48⟩) (t := tableOf [(0, 5, 11, 19)]) htb (by decide) (by decide) (hts (.classLink RL 48 "java/lang/IllegalStateException") (BW_in mw_510)) (va_Nw.use rfl (hT.2.1.1 "java/lang/IllegalStateException" (by decide))) hq hv hcl ?_
  refine lv_astore_n (lv' := [(2, .ref q), (0, .ref (ad 45)), (1, .int p0)]) hx hb dL_take_8 rfl hl (by decide) rfl (fun ls hl => ?_)
  refine lv_iconst (v := 1) hx hb dL_take_9 (by decide) ?_
  refine W.widen (k := 1) (n := 6) (by decide) (by decide) ?_
  exact W.iret hx hb hr (fun t ht hW => ⟨rfl, by rw [ht]; exact hP, hS.F ht⟩) hS.2.2 dL_take_10
set_option maxHeartbeats 1000000 in
theorem HX2_take (l : Launch) (D : va_G) (tys : List (ClassId × FieldType)) (nw : List Cond) (hn : nw.all nw_kind = true) {ad : Nat → Nat} (hj : ww_inj 46 ad) {w w' : Nat → va_E} {fs : List Value} (hw : w 45 = .inr (4, fs)) {p0 : Int32} (hM : vx_Met l yX4_take usX4_take ({ frames := 7, cells := 1, slots := 6, locals := 167 }) (va_Pc (.ref (ad 45) :: [.int p0]) (ws_Bt D tys nw (ww_A 46 ad) (ww 46 ad w))) (fun _ _ _ _ => False) (xt_Q D (ww 46 ad w') (ww_A 46 ad) "java/lang/IndexOutOfBoundsException") 1 6 (ww_A 46 ad)) : Met l yL_take usL_take ({ frames := 8, cells := 1, slots := 6, locals := 188 }) (va_Pc [.ref (ad 45), .int p0] (hB0 D tys nw ad (ww 46 ad w))) (hq0 D (ww 46 ad w') (ww_A 46 ad) 2) 1 6 (ww_A 46 ad) := by
  refine va_MetW (cc := cL_take) (maxL := 3) (ret := (some .int)) (hh := [(0, 5, 8, 48), (0, 5, 11, 19)]) (by decide) rfl ?_
  intro p e s m args below meth c s₁ B hml hv
  obtain ⟨rfl, ⟨⟨hP, hK, hN⟩, hT⟩, hNc⟩ := hv
  have hx := B.exec
  have hb := B.bytes
  have hr := B.returns
  have hts := atoms_spec (ws := usL_take) B.pre
  have hown : s.vm.findClass RL = some m.cls := findClass_of_methodNamed B.named
  have hlocks := B.notSynchronized
  have hS : va_S (ww_A 46 ad) s.heap s.heap [] := va_S.rf
  have hl := lv_entry ([.ref (ad 45), .int p0]) (n := 3) (Nat.le_of_ble_eq_true rfl)
  rw [lg_entry_eq]
  generalize (lg_sl ([.ref (ad 45), .int p0]) ++ List.replicate (3 - (lg_sl ([.ref (ad 45), .int p0])).length) Slot.unset).toArray = ls at hl ⊢
  have hl : lv_has ls 3 [(0, .ref (ad 45)), (1, .int p0)] := hl
  refine lv_aload_n hx hb dL_take_0 rfl (lv_at hl 0 rfl) ?_
  refine lv_iload_n hx hb dL_take_1 rfl (lv_at hl 1 rfl) ?_
  refine ct_thrA (vx_runV (As := [.int p0]) (rest := []) ⟨hx, hb, hml, hown, hts⟩ hM (cwV 1 hts (gu_V mw_535 mw_536 mw_537 mw_222 mw_309) rfl rfl rfl (by decide +kernel) ⟨Nat.le_of_ble_eq_true rfl, Nat.le_of_ble_eq_true rfl⟩) (xt_preV hn hP hK hN hT va_S.rf (ci := 4) (k := 45) rfl (by decide) hw) rfl rfl hl.1 rfl (lv_room (Nat.le_of_ble_eq_true rfl)) dL_take_2 ⟨Nat.le_of_ble_eq_true rfl, Nat.le_of_ble_eq_true rfl⟩) hS (fun q h => h) (fun q ce H locs hP hk hS hq hv hcl => ?_)
  have htb : c.exceptionTable.toList = tableOf [(0, 5, 8, 48), (0, 5, 11, 19)] := vx_table (x := yL_take) B (hts _ List.mem_cons_self)
  refine cg_2 (own := RL) (nm := "java/lang/IndexOutOfBoundsException") (nm' := "java/lang/IllegalStateException") (Ex := "java/lang/IndexOutOfBoundsException") hown (y := ⟨0, 5, 8, 48⟩) (x := ⟨0, 5, 11, 19⟩) (t := []) htb (by decide) (by decide) (hts (.classLink RL 48 "java/lang/IllegalStateException") (BW_in mw_510)) hNc.2.2 (by decide) (by decide) (hts (.classLink RL 19 "java/lang/IndexOutOfBoundsException") (BW_in mw_481)) (va_Nw.use rfl (hT.2.1.1 "java/lang/IndexOutOfBoundsException" (by decide))) hq hv hcl ?_
  refine lv_astore_n (lv' := [(2, .ref q), (0, .ref (ad 45)), (1, .int p0)]) hx hb dL_take_11 rfl hl (by decide) rfl (fun ls hl => ?_)
  refine lv_iconst (v := 2) hx hb dL_take_12 (by decide) ?_
  refine W.widen (k := 1) (n := 6) (by decide) (by decide) ?_
  exact W.iret hx hb hr (fun t ht hW => ⟨rfl, by rw [ht]; exact hP, hS.F ht⟩) hS.2.2 dL_take_13
