set_option maxHeartbeats 4000000 in
set_option maxRecDepth 100000 in
theorem X_X4_requirePower (l : Launch) (hst : l.stackTraces = false) (D : va_G) (tys : List (ClassId × FieldType)) (nw : List Cond) (hn : nw.all nw_kind = true) (hnw : ∀ w ∈ nw0, w ∈ nw) {ad : Nat → Nat} (hj : ww_inj 46 ad) {cI : ClassId} {cR : ClassId} (htI : tys[0]? = some (cI, .int)) (htR : tys[1]? = some (cR, .object RX2)) {M : Fin 20 → Nat → Int32} {E : Nat → Int32} {P : Nat → Fin 20} {C : Nat → Int32} {N : Nat → Int32} {p0 : Int32} {xr : String} (hf : f_X4_requirePower p0 = some (.inl xr)) :
    vx_Met l yX4_requirePower usX4_requirePower ({ frames := 6, cells := 1, slots := 6, locals := 90 }) (va_Pc [.int p0] (ws_Bt D tys nw (ww_A 46 ad) (ww 46 ad (cellC cI cR ad M E P C N)))) (fun _ _ _ _ => False) (xt_Q D (ww 46 ad (cellC cI cR ad M E P C N)) (ww_A 46 ad) xr) 1 6 (ww_A 46 ad) := by
  refine vx_ofW (cc := cX4_requirePower) (maxL := 1) (ret := none) (by decide) rfl ?_
  intro p e s m args below meth c s₁ B hml hx0 hv
  obtain ⟨rfl, ⟨hP, hK, hN⟩, hT⟩ := hv
  have hx := B.exec
  have hb := B.bytes
  have hr := B.returns
  have hts := atoms_spec (ws := usX4_requirePower) B.pre
  have hown : s.vm.findClass RX4 = some m.cls := findClass_of_methodNamed B.named
  have hlocks := B.notSynchronized
  have hS : va_S (ww_A 46 ad) s.heap s.heap [] := va_S.rf
  have hl := lv_entry ([.int p0]) (n := 1) (Nat.le_of_ble_eq_true rfl)
  rw [lg_entry_eq]
  generalize (lg_sl ([.int p0]) ++ List.replicate (1 - (lg_sl ([.int p0])).length) Slot.unset).toArray = ls at hl ⊢
  have hl : lv_has ls 1 [(0, .int p0)] := hl
  unfold f_X4_requirePower at hf
  refine lv_iload_n hx hb dX4_requirePower_0 rfl (lv_at hl 0 rfl) ?_
  refine lv_if_lt (tgt := 9) hx hb dX4_requirePower_1 (by decide) (fun c1 => ?_) (fun c1 => ?_)
  · rw [if_pos c1] at hf
    obtain rfl := Sum.inl.inj (Option.some.inj hf)
    obtain ⟨sa, hsa⟩ := hT.1 (176, "a polynomial has powers 0 .. 5") (by decide)
    refine vx_throwS (own := RX4) (cls := "java/lang/IndexOutOfBoundsException") (text := "a polynomial has powers 0 .. 5") (names := ["java/lang/RuntimeException", "java/lang/Exception"]) (ik := 57) (is := 176) (ic := 61) (sa := sa) (A := ww_A 46 ad) hx hb hst hown (by decide) (by decide) (hts (.classLink RX4 57 "java/lang/IndexOutOfBoundsException") (BW_in mw_232)) (hts (.initialized "java/lang/IndexOutOfBoundsException") (BW_in mw_233)) hsa (vx_hat (B := .castable "java/lang/IndexOutOfBoundsException" "java/lang/IndexOutOfBoundsException" :: x4_sup.map (fun X => .declares (Bundle.initS X))) (fun w h => hts w (BW_in (in_BWx1 w h))) (by decide +kernel) (xt_ng (hT.2.1.1 "java/lang/IndexOutOfBoundsException" (by decide)) hT.2.1.2)) (by decide +kernel) hT.2.2.1 hT.2.2.2 hS (hl.1.trans hml.symm) dX4_requirePower_9 dX4_requirePower_12 dX4_requirePower_13 dX4_requirePower_15 dX4_requirePower_18 (fun x h => (hx0 x h).elim) (by decide) (by decide) (by decide) (by decide) hlocks (fun t ha hz hk => xt_thrown hP hS hz hk) hS.2.2 (by decide) (by decide)
  · rw [if_neg c1] at hf
    refine lv_iload_n hx hb dX4_requirePower_4 rfl (lv_at hl 0 rfl) ?_
    refine lv_iconst (v := 5) hx hb dX4_requirePower_5 (by decide) ?_
    refine lv_icmp_le (tgt := 19) hx hb dX4_requirePower_6 (by decide) (fun c2 => ?_) (fun c2 => ?_)
    · rw [if_pos c2] at hf
      cases hf
    · rw [if_neg c2] at hf
      obtain rfl := Sum.inl.inj (Option.some.inj hf)
      obtain ⟨sa, hsa⟩ := hT.1 (176, "a polynomial has powers 0 .. 5") (by decide)
      refine vx_throwS (own := RX4) (cls := "java/lang/IndexOutOfBoundsException") (text := "a polynomial has powers 0 .. 5") (names := ["java/lang/RuntimeException", "java/lang/Exception"]) (ik := 57) (is := 176) (ic := 61) (sa := sa) (A := ww_A 46 ad) hx hb hst hown (by decide) (by decide) (hts (.classLink RX4 57 "java/lang/IndexOutOfBoundsException") (BW_in mw_232)) (hts (.initialized "java/lang/IndexOutOfBoundsException") (BW_in mw_233)) hsa (vx_hat (B := .castable "java/lang/IndexOutOfBoundsException" "java/lang/IndexOutOfBoundsException" :: x4_sup.map (fun X => .declares (Bundle.initS X))) (fun w h => hts w (BW_in (in_BWx1 w h))) (by decide +kernel) (xt_ng (hT.2.1.1 "java/lang/IndexOutOfBoundsException" (by decide)) hT.2.1.2)) (by decide +kernel) hT.2.2.1 hT.2.2.2 hS (hl.1.trans hml.symm) dX4_requirePower_9 dX4_requirePower_12 dX4_requirePower_13 dX4_requirePower_15 dX4_requirePower_18 (fun x h => (hx0 x h).elim) (by decide) (by decide) (by decide) (by decide) hlocks (fun t ha hz hk => xt_thrown hP hS hz hk) hS.2.2 (by decide) (by decide)
set_option maxHeartbeats 4000000 in
set_option maxRecDepth 100000 in
theorem X_X4_requireElement (l : Launch) (hst : l.stackTraces = false) (D : va_G) (tys : List (ClassId × FieldType)) (nw : List Cond) (hn : nw.all nw_kind = true) (hnw : ∀ w ∈ nw0, w ∈ nw) {ad : Nat → Nat} (hj : ww_inj 46 ad) {cI : ClassId} {cR : ClassId} (htI : tys[0]? = some (cI, .int)) (htR : tys[1]? = some (cR, .object RX2)) {M : Fin 20 → Nat → Int32} {E : Nat → Int32} {P : Nat → Fin 20} {C : Nat → Int32} {N : Nat → Int32} {p0 : Int32} {xr : String} (hf : f_X4_requireElement E p0 = some (.inl xr)) :
    vx_Met l yX4_requireElement usX4_requireElement ({ frames := 6, cells := 1, slots := 6, locals := 90 }) (va_Pc [.ref (ad 45), .int p0] (ws_Bt D tys nw (ww_A 46 ad) (ww 46 ad (cellC cI cR ad M E P C N)))) (fun _ _ _ _ => False) (xt_Q D (ww 46 ad (cellC cI cR ad M E P C N)) (ww_A 46 ad) xr) 1 6 (ww_A 46 ad) := by
  refine vx_ofW (cc := cX4_requireElement) (maxL := 2) (ret := none) (by decide) rfl ?_
  intro p e s m args below meth c s₁ B hml hx0 hv
  obtain ⟨rfl, ⟨hP, hK, hN⟩, hT⟩ := hv
  have hx := B.exec
  have hb := B.bytes
  have hr := B.returns
  have hts := atoms_spec (ws := usX4_requireElement) B.pre
  have hown : s.vm.findClass RX4 = some m.cls := findClass_of_methodNamed B.named
  have hlocks := B.notSynchronized
  have hS : va_S (ww_A 46 ad) s.heap s.heap [] := va_S.rf
  have hl := lv_entry ([.ref (ad 45), .int p0]) (n := 2) (Nat.le_of_ble_eq_true rfl)
  rw [lg_entry_eq]
  generalize (lg_sl ([.ref (ad 45), .int p0]) ++ List.replicate (2 - (lg_sl ([.ref (ad 45), .int p0])).length) Slot.unset).toArray = ls at hl ⊢
  have hl : lv_has ls 2 [(0, .ref (ad 45)), (1, .int p0)] := hl
  unfold f_X4_requireElement at hf
  refine lv_iload_n hx hb dX4_requireElement_0 rfl (lv_at hl 1 rfl) ?_
  refine lv_if_lt (tgt := 18) hx hb dX4_requireElement_1 (by decide) (fun c1 => ?_) (fun c1 => ?_)
  · rw [if_pos c1] at hf
    obtain rfl := Sum.inl.inj (Option.some.inj hf)
    obtain ⟨sa, hsa⟩ := hT.1 (178, "no such element") (by decide)
    refine vx_throwS (own := RX4) (cls := "java/lang/IllegalArgumentException") (text := "no such element") (names := ["java/lang/RuntimeException", "java/lang/Exception"]) (ik := 30) (is := 178) (ic := 34) (sa := sa) (A := ww_A 46 ad) hx hb hst hown (by decide) (by decide) (hts (.classLink RX4 30 "java/lang/IllegalArgumentException") (BW_in mw_218)) (hts (.initialized "java/lang/IllegalArgumentException") (BW_in mw_219)) hsa (vx_hat (B := .castable "java/lang/IllegalArgumentException" "java/lang/IllegalArgumentException" :: x4_sup.map (fun X => .declares (Bundle.initS X))) (fun w h => hts w (BW_in (in_BWx0 w h))) (by decide +kernel) (xt_ng (hT.2.1.1 "java/lang/IllegalArgumentException" (by decide)) hT.2.1.2)) (by decide +kernel) hT.2.2.1 hT.2.2.2 hS (hl.1.trans hml.symm) dX4_requireElement_18 dX4_requireElement_21 dX4_requireElement_22 dX4_requireElement_24 dX4_requireElement_27 (fun x h => (hx0 x h).elim) (by decide) (by decide) (by decide) (by decide) hlocks (fun t ha hz hk => xt_thrown hP hS hz hk) hS.2.2 (by decide) (by decide)
  · rw [if_neg c1] at hf
    refine lv_iload_n hx hb dX4_requireElement_4 rfl (lv_at hl 1 rfl) ?_
    refine lv_aload_n hx hb dX4_requireElement_5 rfl (lv_at hl 0 rfl) ?_
    refine va_get (ci := 4) (v := .ref (ad 41)) (C := RX4) (T := TX4) (N := 3) hx hb hts (fun w h => BW_in (in_wsX40 w h)) hown hK hP 45 cc_main rfl 1 (by decide) (hts (.fieldLink RX4 19 "NumberFieldFactors" "ring" "LNumberFieldFactors$Ring;") (BW_in mw_208)) (fun _ h9 => h9) rfl dX4_requireElement_6 ?_
    refine va_getN (ci := 1) (v := .ref (ad 40)) (C := RX1) (T := TX1) (N := 11) (host := "NumberFieldFactors") hx hb hts (fun w h => BW_in (in_wsX10 w h)) hown hK hP 41 cc_ring rfl 0 (by decide) (va_Nw.use rfl (hN (.fieldLinkNest RX4 37 "NumberFieldFactors$Ring" "extension" "LNumberFieldFactors$Extension;" "NumberFieldFactors") (hnw _ (by decide +kernel)))) (fun _ h9 => h9) rfl dX4_requireElement_9 ?_
    refine va_getN (ci := 0) (v := .int (E 1)) (C := RX0) (T := TX0) (N := 8) (host := "NumberFieldFactors") hx hb hts (fun w h => BW_in (in_wsX00 w h)) hown hK hP 40 cc_ext rfl 1 (by decide) (va_Nw.use rfl (hN (.fieldLinkNest RX4 97 "NumberFieldFactors$Extension" "size" "I" "NumberFieldFactors") (hnw _ (by decide +kernel)))) (fun _ h9 => h9) rfl dX4_requireElement_12 ?_
    refine lv_icmp_lt (tgt := 28) hx hb dX4_requireElement_15 (by decide) (fun c2 => ?_) (fun c2 => ?_)
    · rw [if_pos c2] at hf
      cases hf
    · rw [if_neg c2] at hf
      obtain rfl := Sum.inl.inj (Option.some.inj hf)
      obtain ⟨sa, hsa⟩ := hT.1 (178, "no such element") (by decide)
      refine vx_throwS (own := RX4) (cls := "java/lang/IllegalArgumentException") (text := "no such element") (names := ["java/lang/RuntimeException", "java/lang/Exception"]) (ik := 30) (is := 178) (ic := 34) (sa := sa) (A := ww_A 46 ad) hx hb hst hown (by decide) (by decide) (hts (.classLink RX4 30 "java/lang/IllegalArgumentException") (BW_in mw_218)) (hts (.initialized "java/lang/IllegalArgumentException") (BW_in mw_219)) hsa (vx_hat (B := .castable "java/lang/IllegalArgumentException" "java/lang/IllegalArgumentException" :: x4_sup.map (fun X => .declares (Bundle.initS X))) (fun w h => hts w (BW_in (in_BWx0 w h))) (by decide +kernel) (xt_ng (hT.2.1.1 "java/lang/IllegalArgumentException" (by decide)) hT.2.1.2)) (by decide +kernel) hT.2.2.1 hT.2.2.2 hS (hl.1.trans hml.symm) dX4_requireElement_18 dX4_requireElement_21 dX4_requireElement_22 dX4_requireElement_24 dX4_requireElement_27 (fun x h => (hx0 x h).elim) (by decide) (by decide) (by decide) (by decide) hlocks (fun t ha hz hk => xt_thrown hP hS hz hk) hS.2.2 (by decide) (by decide)
set_option maxHeartbeats 4000000 in
set_option maxRecDepth 100000 in
theorem X_X4_requireSome (l : Launch) (hst : l.stackTraces = false) (D : va_G) (tys : List (ClassId × FieldType)) (nw : List Cond) (hn : nw.all nw_kind = true) (hnw : ∀ w ∈ nw0, w ∈ nw) {ad : Nat → Nat} (hj : ww_inj 46 ad) {cI : ClassId} {cR : ClassId} (htI : tys[0]? = some (cI, .int)) (htR : tys[1]? = some (cR, .object RX2)) {fu : Nat} {M : Fin 20 → Nat → Int32} {E : Nat → Int32} {P : Nat → Fin 20} {C : Nat → Int32} {N : Nat → Int32} {xr : String} (hf : f_X4_requireSome fu M = some (.inl xr)) :
    vx_Met l yX4_requireSome usX4_requireSome ({ frames := 6, cells := 1, slots := 6, locals := 90 }) (va_Pc [.ref (ad 45)] (ws_Bt D tys nw (ww_A 46 ad) (ww 46 ad (cellC cI cR ad M E P C N)))) (fun _ _ _ _ => False) (xt_Q D (ww 46 ad (cellC cI cR ad M E P C N)) (ww_A 46 ad) xr) 1 6 (ww_A 46 ad) := by
  refine vx_ofW (cc := cX4_requireSome) (maxL := 1) (ret := none) (by decide) rfl ?_
  intro p e s m args below meth c s₁ B hml hx0 hv
  obtain ⟨rfl, ⟨hP, hK, hN⟩, hT⟩ := hv
  have hx := B.exec
  have hb := B.bytes
  have hr := B.returns
  have hts := atoms_spec (ws := usX4_requireSome) B.pre
  have hown : s.vm.findClass RX4 = some m.cls := findClass_of_methodNamed B.named
  have hlocks := B.notSynchronized
  have hS : va_S (ww_A 46 ad) s.heap s.heap [] := va_S.rf
  have hl := lv_entry ([.ref (ad 45)]) (n := 1) (Nat.le_of_ble_eq_true rfl)
  rw [lg_entry_eq]
  generalize (lg_sl ([.ref (ad 45)]) ++ List.replicate (1 - (lg_sl ([.ref (ad 45)])).length) Slot.unset).toArray = ls at hl ⊢
  have hl : lv_has ls 1 [(0, .ref (ad 45))] := hl
  unfold f_X4_requireSome at hf
  refine lv_aload_n hx hb dX4_requireSome_0 rfl (lv_at hl 0 rfl) ?_
  refine va_get (ci := 4) (v := .ref (ra ad (0 : Fin 20))) (C := RX4) (T := TX4) (N := 3) hx hb hts (fun w h => BW_in (in_wsX40 w h)) hown hK hP 45 cc_main rfl 0 (by decide) (hts (.fieldLink RX4 10 "NumberFieldFactors" "f" "LNumberFieldFactors$Row;") (BW_in mw_205)) (fun _ h9 => h9) rfl dX4_requireSome_1 ?_
  obtain ⟨u1, g2, hf⟩ := Option.bind_eq_some_iff.mp hf
  try dsimp only at hf
  refine ct_call (va_runV (As := []) (rest := []) ⟨hx, hb, hml, hown, hts⟩ (C_X2_degree l D tys nw hn hnw hj htI htR (res := u1) g2) (cwV 0 hts (gu_V mw_280 mw_68 mw_69 mw_50 mw_64) rfl rfl rfl (by decide +kernel) ⟨Nat.le_of_ble_eq_true rfl, Nat.le_of_ble_eq_true rfl⟩) (ct_preV hn hP hK hN (ci := 2) (k := (20 + ((0 : Fin 20)).val)) rfl (ra_lt (0 : Fin 20)) (cl_row (0 : Fin 20))) rfl rfl hl.1 rfl (lv_room (Nat.le_of_ble_eq_true rfl)) dX4_requireSome_4 ⟨Nat.zero_le _, Nat.zero_le _⟩) hS (fun H locs hP hS => ?_)
  refine lv_if_ge (tgt := 20) hx hb dX4_requireSome_7 (by decide) (fun c3 => ?_) (fun c3 => ?_)
  · rw [if_pos c3] at hf
    cases hf
  · rw [if_neg c3] at hf
    obtain rfl := Sum.inl.inj (Option.some.inj hf)
    obtain ⟨sa, hsa⟩ := hT.1 (185, "f is 0") (by decide)
    refine vx_throwS (own := RX4) (cls := "java/lang/IllegalStateException") (text := "f is 0") (names := ["java/lang/RuntimeException", "java/lang/Exception"]) (ik := 183) (is := 185) (ic := 187) (sa := sa) (A := ww_A 46 ad) hx hb hst hown (by decide) (by decide) (hts (.classLink RX4 183 "java/lang/IllegalStateException") (BW_in mw_278)) (hts (.initialized "java/lang/IllegalStateException") (BW_in mw_279)) hsa (vx_hat (B := .castable "java/lang/IllegalStateException" "java/lang/IllegalStateException" :: x4_sup.map (fun X => .declares (Bundle.initS X))) (fun w h => hts w (BW_in (in_BWx3 w h))) (by decide +kernel) (xt_ng (hT.2.1.1 "java/lang/IllegalStateException" (by decide)) hT.2.1.2)) (by decide +kernel) hT.2.2.1 hT.2.2.2 hS (hl.1.trans hml.symm) dX4_requireSome_10 dX4_requireSome_13 dX4_requireSome_14 dX4_requireSome_16 dX4_requireSome_19 (fun x h => (hx0 x h).elim) (by decide) (by decide) (by decide) (by decide) hlocks (fun t ha hz hk => xt_thrown hP hS hz hk) hS.2.2 (by decide) (by decide)
set_option maxHeartbeats 4000000 in
set_option maxRecDepth 100000 in
theorem X_X4_requireFactor (l : Launch) (hst : l.stackTraces = false) (D : va_G) (tys : List (ClassId × FieldType)) (nw : List Cond) (hn : nw.all nw_kind = true) (hnw : ∀ w ∈ nw0, w ∈ nw) {ad : Nat → Nat} (hj : ww_inj 46 ad) {cI : ClassId} {cR : ClassId} (htI : tys[0]? = some (cI, .int)) (htR : tys[1]? = some (cR, .object RX2)) {M : Fin 20 → Nat → Int32} {E : Nat → Int32} {P : Nat → Fin 20} {C : Nat → Int32} {N : Nat → Int32} {p0 : Int32} {xr : String} (hf : f_X4_requireFactor N p0 = some (.inl xr)) :
    vx_Met l yX4_requireFactor usX4_requireFactor ({ frames := 6, cells := 1, slots := 6, locals := 90 }) (va_Pc [.ref (ad 45), .int p0] (ws_Bt D tys nw (ww_A 46 ad) (ww 46 ad (cellC cI cR ad M E P C N)))) (fun _ _ _ _ => False) (xt_Q D (ww 46 ad (cellC cI cR ad M E P C N)) (ww_A 46 ad) xr) 1 6 (ww_A 46 ad) := by
  refine vx_ofW (cc := cX4_requireFactor) (maxL := 2) (ret := none) (by decide) rfl ?_
  intro p e s m args below meth c s₁ B hml hx0 hv
  obtain ⟨rfl, ⟨hP, hK, hN⟩, hT⟩ := hv
  have hx := B.exec
  have hb := B.bytes
  have hr := B.returns
  have hts := atoms_spec (ws := usX4_requireFactor) B.pre
  have hown : s.vm.findClass RX4 = some m.cls := findClass_of_methodNamed B.named
  have hlocks := B.notSynchronized
  have hS : va_S (ww_A 46 ad) s.heap s.heap [] := va_S.rf
  have hl := lv_entry ([.ref (ad 45), .int p0]) (n := 2) (Nat.le_of_ble_eq_true rfl)
  rw [lg_entry_eq]
  generalize (lg_sl ([.ref (ad 45), .int p0]) ++ List.replicate (2 - (lg_sl ([.ref (ad 45), .int p0])).length) Slot.unset).toArray = ls at hl ⊢
  have hl : lv_has ls 2 [(0, .ref (ad 45)), (1, .int p0)] := hl
  unfold f_X4_requireFactor at hf
  refine lv_iload_n hx hb dX4_requireFactor_0 rfl (lv_at hl 1 rfl) ?_
  refine lv_if_lt (tgt := 15) hx hb dX4_requireFactor_1 (by decide) (fun c1 => ?_) (fun c1 => ?_)
  · rw [if_pos c1] at hf
    obtain rfl := Sum.inl.inj (Option.some.inj hf)
    obtain ⟨sa, hsa⟩ := hT.1 (188, "no such factor") (by decide)
    refine vx_throwS (own := RX4) (cls := "java/lang/IndexOutOfBoundsException") (text := "no such factor") (names := ["java/lang/RuntimeException", "java/lang/Exception"]) (ik := 57) (is := 188) (ic := 61) (sa := sa) (A := ww_A 46 ad) hx hb hst hown (by decide) (by decide) (hts (.classLink RX4 57 "java/lang/IndexOutOfBoundsException") (BW_in mw_232)) (hts (.initialized "java/lang/IndexOutOfBoundsException") (BW_in mw_233)) hsa (vx_hat (B := .castable "java/lang/IndexOutOfBoundsException" "java/lang/IndexOutOfBoundsException" :: x4_sup.map (fun X => .declares (Bundle.initS X))) (fun w h => hts w (BW_in (in_BWx1 w h))) (by decide +kernel) (xt_ng (hT.2.1.1 "java/lang/IndexOutOfBoundsException" (by decide)) hT.2.1.2)) (by decide +kernel) hT.2.2.1 hT.2.2.2 hS (hl.1.trans hml.symm) dX4_requireFactor_15 dX4_requireFactor_18 dX4_requireFactor_19 dX4_requireFactor_21 dX4_requireFactor_24 (fun x h => (hx0 x h).elim) (by decide) (by decide) (by decide) (by decide) hlocks (fun t ha hz hk => xt_thrown hP hS hz hk) hS.2.2 (by decide) (by decide)
  · rw [if_neg c1] at hf
    refine lv_iload_n hx hb dX4_requireFactor_4 rfl (lv_at hl 1 rfl) ?_
    refine lv_aload_n hx hb dX4_requireFactor_5 rfl (lv_at hl 0 rfl) ?_
    refine va_get (ci := 4) (v := .ref (ad 42)) (C := RX4) (T := TX4) (N := 3) hx hb hts (fun w h => BW_in (in_wsX40 w h)) hown hK hP 45 cc_main rfl 2 (by decide) (hts (.fieldLink RX4 26 "NumberFieldFactors" "splitter" "LNumberFieldFactors$Splitter;") (BW_in mw_211)) (fun _ h9 => h9) rfl dX4_requireFactor_6 ?_
    refine va_getN (ci := 3) (v := .int (N 0)) (C := RX3) (T := TX3) (N := 8) (host := "NumberFieldFactors") hx hb hts (fun w h => BW_in (in_wsX30 w h)) hown hK hP 42 cc_spl rfl 2 (by decide) (va_Nw.use rfl (hN (.fieldLinkNest RX4 150 "NumberFieldFactors$Splitter" "count" "I" "NumberFieldFactors") (hnw _ (by decide +kernel)))) (fun _ h9 => h9) rfl dX4_requireFactor_9 ?_
    refine lv_icmp_lt (tgt := 25) hx hb dX4_requireFactor_12 (by decide) (fun c2 => ?_) (fun c2 => ?_)
    · rw [if_pos c2] at hf
      cases hf
    · rw [if_neg c2] at hf
      obtain rfl := Sum.inl.inj (Option.some.inj hf)
      obtain ⟨sa, hsa⟩ := hT.1 (188, "no such factor") (by decide)
      refine vx_throwS (own := RX4) (cls := "java/lang/IndexOutOfBoundsException") (text := "no such factor") (names := ["java/lang/RuntimeException", "java/lang/Exception"]) (ik := 57) (is := 188) (ic := 61) (sa := sa) (A := ww_A 46 ad) hx hb hst hown (by decide) (by decide) (hts (.classLink RX4 57 "java/lang/IndexOutOfBoundsException") (BW_in mw_232)) (hts (.initialized "java/lang/IndexOutOfBoundsException") (BW_in mw_233)) hsa (vx_hat (B := .castable "java/lang/IndexOutOfBoundsException" "java/lang/IndexOutOfBoundsException" :: x4_sup.map (fun X => .declares (Bundle.initS X))) (fun w h => hts w (BW_in (in_BWx1 w h))) (by decide +kernel) (xt_ng (hT.2.1.1 "java/lang/IndexOutOfBoundsException" (by decide)) hT.2.1.2)) (by decide +kernel) hT.2.2.1 hT.2.2.2 hS (hl.1.trans hml.symm) dX4_requireFactor_15 dX4_requireFactor_18 dX4_requireFactor_19 dX4_requireFactor_21 dX4_requireFactor_24 (fun x h => (hx0 x h).elim) (by decide) (by decide) (by decide) (by decide) hlocks (fun t ha hz hk => xt_thrown hP hS hz hk) hS.2.2 (by decide) (by decide)
set_option maxHeartbeats 4000000 in
set_option maxRecDepth 100000 in
theorem X_X4_field (l : Launch) (hst : l.stackTraces = false) (D : va_G) (tys : List (ClassId × FieldType)) (nw : List Cond) (hn : nw.all nw_kind = true) (hnw : ∀ w ∈ nw0, w ∈ nw) {ad : Nat → Nat} (hj : ww_inj 46 ad) {cI : ClassId} {cR : ClassId} (htI : tys[0]? = some (cI, .int)) (htR : tys[1]? = some (cR, .object RX2)) {fu : Nat} {M : Fin 20 → Nat → Int32} {E : Nat → Int32} {P : Nat → Fin 20} {C : Nat → Int32} {N : Nat → Int32} {p0 : Int32} {p1 : Int64} {p2 : Int64} {p3 : Int64} {xr : String × (Fin 20 → Nat → Int32) × (Nat → Int32) × (Nat → Int32)} (hf : f_X4_field fu M E N p0 p1 p2 p3 = some (.inl xr)) :
    vx_Met l yX4_field usX4_field ({ frames := 6, cells := 1, slots := 6, locals := 90 }) (va_Pc [.ref (ad 45), .int p0, .long p1, .long p2, .long p3] (ws_Bt D tys nw (ww_A 46 ad) (ww 46 ad (cellC cI cR ad M E P C N)))) (fun _ _ _ _ => False) (xt_Q D (ww 46 ad (cellC cI cR ad xr.2.1 xr.2.2.1 P C xr.2.2.2)) (ww_A 46 ad) xr.1) 1 6 (ww_A 46 ad) := by
  refine vx_ofW (cc := cX4_field) (maxL := 8) (ret := (some .boolean)) (by decide) rfl ?_
  intro p e s m args below meth c s₁ B hml hx0 hv
  obtain ⟨rfl, ⟨hP, hK, hN⟩, hT⟩ := hv
  have hx := B.exec
  have hb := B.bytes
  have hr := B.returns
  have hts := atoms_spec (ws := usX4_field) B.pre
  have hown : s.vm.findClass RX4 = some m.cls := findClass_of_methodNamed B.named
  have hlocks := B.notSynchronized
  have hS : va_S (ww_A 46 ad) s.heap s.heap [] := va_S.rf
  have hl := lv_entry ([.ref (ad 45), .int p0, .long p1, .long p2, .long p3]) (n := 8) (Nat.le_of_ble_eq_true rfl)
  rw [lg_entry_eq]
  generalize (lg_sl ([.ref (ad 45), .int p0, .long p1, .long p2, .long p3]) ++ List.replicate (8 - (lg_sl ([.ref (ad 45), .int p0, .long p1, .long p2, .long p3])).length) Slot.unset).toArray = ls at hl ⊢
  have hl : lv_has ls 8 [(0, .ref (ad 45)), (1, .int p0), (2, .long p1), (4, .long p2), (6, .long p3)] := hl
  unfold f_X4_field at hf
  refine lv_iload_n hx hb dX4_field_0 rfl (lv_at hl 1 rfl) ?_
  refine lv_iconst (v := 1) hx hb dX4_field_1 (by decide) ?_
  refine lv_icmp_lt (tgt := 10) hx hb dX4_field_2 (by decide) (fun c1 => ?_) (fun c1 => ?_)
  · rw [if_pos c1] at hf
    obtain rfl := Sum.inl.inj (Option.some.inj hf)
    obtain ⟨sa, hsa⟩ := hT.1 (32, "k isn't 1 .. 3") (by decide)
    refine vx_throwS (own := RX4) (cls := "java/lang/IllegalArgumentException") (text := "k isn't 1 .. 3") (names := ["java/lang/RuntimeException", "java/lang/Exception"]) (ik := 30) (is := 32) (ic := 34) (sa := sa) (A := ww_A 46 ad) hx hb hst hown (by decide) (by decide) (hts (.classLink RX4 30 "java/lang/IllegalArgumentException") (BW_in mw_218)) (hts (.initialized "java/lang/IllegalArgumentException") (BW_in mw_219)) hsa (vx_hat (B := .castable "java/lang/IllegalArgumentException" "java/lang/IllegalArgumentException" :: x4_sup.map (fun X => .declares (Bundle.initS X))) (fun w h => hts w (BW_in (in_BWx0 w h))) (by decide +kernel) (xt_ng (hT.2.1.1 "java/lang/IllegalArgumentException" (by decide)) hT.2.1.2)) (by decide +kernel) hT.2.2.1 hT.2.2.2 hS (hl.1.trans hml.symm) dX4_field_10 dX4_field_13 dX4_field_14 dX4_field_16 dX4_field_19 (fun x h => (hx0 x h).elim) (by decide) (by decide) (by decide) (by decide) hlocks (fun t ha hz hk => xt_thrown hP hS hz hk) hS.2.2 (by decide) (by decide)
  · rw [if_neg c1] at hf
    refine lv_iload_n hx hb dX4_field_5 rfl (lv_at hl 1 rfl) ?_
    refine lv_iconst (v := 3) hx hb dX4_field_6 (by decide) ?_
    refine lv_icmp_le (tgt := 20) hx hb dX4_field_7 (by decide) (fun c2 => ?_) (fun c2 => ?_)
    · rw [if_pos c2] at hf
      refine lv_aload_n hx hb dX4_field_20 rfl (lv_at hl 0 rfl) ?_
      refine va_get (ci := 4) (v := .ref (ad 41)) (C := RX4) (T := TX4) (N := 3) hx hb hts (fun w h => BW_in (in_wsX40 w h)) hown hK hP 45 cc_main rfl 1 (by decide) (hts (.fieldLink RX4 19 "NumberFieldFactors" "ring" "LNumberFieldFactors$Ring;") (BW_in mw_208)) (fun _ h9 => h9) rfl dX4_field_21 ?_
      refine va_getN (ci := 1) (v := .ref (ad 40)) (C := RX1) (T := TX1) (N := 11) (host := "NumberFieldFactors") hx hb hts (fun w h => BW_in (in_wsX10 w h)) hown hK hP 41 cc_ring rfl 0 (by decide) (va_Nw.use rfl (hN (.fieldLinkNest RX4 37 "NumberFieldFactors$Ring" "extension" "LNumberFieldFactors$Extension;" "NumberFieldFactors") (hnw _ (by decide +kernel)))) (fun _ h9 => h9) rfl dX4_field_24 ?_
      refine lv_iload_n hx hb dX4_field_27 rfl (lv_at hl 1 rfl) ?_
      refine lv_lload_n hx hb dX4_field_28 rfl (lv_at hl 2 rfl) ?_
      obtain ⟨u3, g4, hf⟩ := Option.bind_eq_some_iff.mp hf
      try dsimp only at hf
      refine ct_call (va_runS (As := [.long p1]) (rest := [.int p0, .ref (ad 40)]) ⟨hx, hb, hml, hown, hts⟩ (C_X4_numberOf l D tys nw hn hnw hj htI htR (res := u3) g4) (cwS 1 hts (gu_S mw_220 mw_221 mw_222 mw_216) rfl rfl rfl (by decide +kernel) ⟨Nat.le_of_ble_eq_true rfl, Nat.le_of_ble_eq_true rfl⟩) (ct_preS hn hP hK hN) rfl rfl hl.1 rfl (lv_room (Nat.le_of_ble_eq_true rfl)) dX4_field_29 ⟨Nat.zero_le _, Nat.zero_le _⟩) hS (fun H locs hP hS => ?_)
      refine lv_lload hx hb dX4_field_32 (lv_at hl 3 rfl) ?_
      obtain ⟨u5, g6, hf⟩ := Option.bind_eq_some_iff.mp hf
      try dsimp only at hf
      refine ct_call (va_runS (As := [.long p2]) (rest := [.int u3, .int p0, .ref (ad 40)]) ⟨hx, hb, hml, hown, hts⟩ (C_X4_numberOf l D tys nw hn hnw hj htI htR (res := u5) g6) (cwS 1 hts (gu_S mw_220 mw_221 mw_222 mw_216) rfl rfl rfl (by decide +kernel) ⟨Nat.le_of_ble_eq_true rfl, Nat.le_of_ble_eq_true rfl⟩) (ct_preS hn hP hK hN) rfl rfl hl.1 rfl (lv_room (Nat.le_of_ble_eq_true rfl)) dX4_field_34 ⟨Nat.zero_le _, Nat.zero_le _⟩) hS (fun H locs hP hS => ?_)
      refine lv_lload hx hb dX4_field_37 (lv_at hl 4 rfl) ?_
      obtain ⟨u7, g8, hf⟩ := Option.bind_eq_some_iff.mp hf
      try dsimp only at hf
      refine ct_call (va_runS (As := [.long p3]) (rest := [.int u5, .int u3, .int p0, .ref (ad 40)]) ⟨hx, hb, hml, hown, hts⟩ (C_X4_numberOf l D tys nw hn hnw hj htI htR (res := u7) g8) (cwS 1 hts (gu_S mw_220 mw_221 mw_222 mw_216) rfl rfl rfl (by decide +kernel) ⟨Nat.le_of_ble_eq_true rfl, Nat.le_of_ble_eq_true rfl⟩) (ct_preS hn hP hK hN) rfl rfl hl.1 rfl (lv_room (Nat.le_of_ble_eq_true rfl)) dX4_field_39 ⟨Nat.zero_le _, Nat.zero_le _⟩) hS (fun H locs hP hS => ?_)
      obtain ⟨u9, g10, hf⟩ := Option.bind_eq_some_iff.mp hf
      try dsimp only at hf
      refine ct_call (va_runV (As := [.int p0, .int u3, .int u5, .int u7]) (rest := []) ⟨hx, hb, hml, hown, hts⟩ (C_X0_become l D tys nw hn hnw hj htI htR (res := u9) g10) (cwV 4 hts (gu_V mw_223 mw_224 mw_225 mw_18 mw_19) rfl rfl rfl (by decide +kernel) ⟨Nat.le_of_ble_eq_true rfl, Nat.le_of_ble_eq_true rfl⟩) (ct_preV hn hP hK hN (ci := 0) (k := 40) rfl (by decide) rfl) rfl rfl hl.1 rfl (lv_room (Nat.le_of_ble_eq_true rfl)) dX4_field_42 ⟨Nat.zero_le _, Nat.zero_le _⟩) hS (fun H locs hP hS => ?_)
      refine lv_if_ne (tgt := 50) hx hb dX4_field_45 (by decide) (fun c11 => ?_) (fun c11 => ?_)
      · rw [if_neg c11] at hf
        refine lv_aload_n hx hb dX4_field_50 rfl (lv_at hl 0 rfl) ?_
        refine va_get (ci := 4) (v := .ref (ra ad (0 : Fin 20))) (C := RX4) (T := TX4) (N := 3) hx hb hts (fun w h => BW_in (in_wsX40 w h)) hown hK hP 45 cc_main rfl 0 (by decide) (hts (.fieldLink RX4 10 "NumberFieldFactors" "f" "LNumberFieldFactors$Row;") (BW_in mw_205)) (fun _ h9 => h9) rfl dX4_field_51 ?_
        obtain ⟨u12, g13, hf⟩ := Option.bind_eq_some_iff.mp hf
        try dsimp only at hf
        refine ct_call (va_runV (As := []) (rest := []) ⟨hx, hb, hml, hown, hts⟩ (C_X2_clear l D tys nw hn hnw hj htI htR (res := u12) g13) (cwV 0 hts (gu_V mw_226 mw_84 mw_85 mw_50 mw_80) rfl rfl rfl (by decide +kernel) ⟨Nat.le_of_ble_eq_true rfl, Nat.le_of_ble_eq_true rfl⟩) (ct_preV hn hP hK hN (ci := 2) (k := (20 + ((0 : Fin 20)).val)) rfl (ra_lt (0 : Fin 20)) (cl_row (0 : Fin 20))) rfl rfl hl.1 rfl (lv_room (Nat.le_of_ble_eq_true rfl)) dX4_field_54 ⟨Nat.zero_le _, Nat.zero_le _⟩) hS (fun H locs hP hS => ?_)
        refine lv_aload_n hx hb dX4_field_57 rfl (lv_at hl 0 rfl) ?_
        refine va_get (ci := 4) (v := .ref (ad 42)) (C := RX4) (T := TX4) (N := 3) hx hb hts (fun w h => BW_in (in_wsX40 w h)) hown hK hP 45 cc_main rfl 2 (by decide) (hts (.fieldLink RX4 26 "NumberFieldFactors" "splitter" "LNumberFieldFactors$Splitter;") (BW_in mw_211)) (fun _ h9 => h9) rfl dX4_field_58 ?_
        obtain ⟨u14, g15, hf⟩ := Option.bind_eq_some_iff.mp hf
        try dsimp only at hf
        refine ct_call (va_runV (As := []) (rest := []) ⟨hx, hb, hml, hown, hts⟩ (C_X3_forget l D tys nw hn hnw hj htI htR (res := u14) g15) (cwV 0 hts (gu_V mw_227 mw_228 mw_229 mw_158 mw_151) rfl rfl rfl (by decide +kernel) ⟨Nat.le_of_ble_eq_true rfl, Nat.le_of_ble_eq_true rfl⟩) (ct_preV hn hP hK hN (ci := 3) (k := 42) rfl (by decide) rfl) rfl rfl hl.1 rfl (lv_room (Nat.le_of_ble_eq_true rfl)) dX4_field_61 ⟨Nat.zero_le _, Nat.zero_le _⟩) hS (fun H locs hP hS => ?_)
        refine lv_iconst (v := 1) hx hb dX4_field_64 (by decide) ?_
        cases hf
      · rw [if_pos c11] at hf
        refine lv_iconst (v := 0) hx hb dX4_field_48 (by decide) ?_
        cases hf
    · rw [if_neg c2] at hf
      obtain rfl := Sum.inl.inj (Option.some.inj hf)
      obtain ⟨sa, hsa⟩ := hT.1 (32, "k isn't 1 .. 3") (by decide)
      refine vx_throwS (own := RX4) (cls := "java/lang/IllegalArgumentException") (text := "k isn't 1 .. 3") (names := ["java/lang/RuntimeException", "java/lang/Exception"]) (ik := 30) (is := 32) (ic := 34) (sa := sa) (A := ww_A 46 ad) hx hb hst hown (by decide) (by decide) (hts (.classLink RX4 30 "java/lang/IllegalArgumentException") (BW_in mw_218)) (hts (.initialized "java/lang/IllegalArgumentException") (BW_in mw_219)) hsa (vx_hat (B := .castable "java/lang/IllegalArgumentException" "java/lang/IllegalArgumentException" :: x4_sup.map (fun X => .declares (Bundle.initS X))) (fun w h => hts w (BW_in (in_BWx0 w h))) (by decide +kernel) (xt_ng (hT.2.1.1 "java/lang/IllegalArgumentException" (by decide)) hT.2.1.2)) (by decide +kernel) hT.2.2.1 hT.2.2.2 hS (hl.1.trans hml.symm) dX4_field_10 dX4_field_13 dX4_field_14 dX4_field_16 dX4_field_19 (fun x h => (hx0 x h).elim) (by decide) (by decide) (by decide) (by decide) hlocks (fun t ha hz hk => xt_thrown hP hS hz hk) hS.2.2 (by decide) (by decide)
set_option maxHeartbeats 4000000 in
set_option maxRecDepth 100000 in
theorem X_X4_modulus (l : Launch) (hst : l.stackTraces = false) (D : va_G) (tys : List (ClassId × FieldType)) (nw : List Cond) (hn : nw.all nw_kind = true) (hnw : ∀ w ∈ nw0, w ∈ nw) {ad : Nat → Nat} (hj : ww_inj 46 ad) {cI : ClassId} {cR : ClassId} (htI : tys[0]? = some (cI, .int)) (htR : tys[1]? = some (cR, .object RX2)) {M : Fin 20 → Nat → Int32} {E : Nat → Int32} {P : Nat → Fin 20} {C : Nat → Int32} {N : Nat → Int32} {p0 : Int32} {xr : String} (hf : f_X4_modulus E p0 = some (.inl xr)) :
    vx_Met l yX4_modulus usX4_modulus ({ frames := 6, cells := 1, slots := 6, locals := 90 }) (va_Pc [.ref (ad 45), .int p0] (ws_Bt D tys nw (ww_A 46 ad) (ww 46 ad (cellC cI cR ad M E P C N)))) (fun _ _ _ _ => False) (xt_Q D (ww 46 ad (cellC cI cR ad M E P C N)) (ww_A 46 ad) xr) 1 6 (ww_A 46 ad) := by
  refine vx_ofW (cc := cX4_modulus) (maxL := 2) (ret := (some .int)) (by decide) rfl ?_
  intro p e s m args below meth c s₁ B hml hx0 hv
  obtain ⟨rfl, ⟨hP, hK, hN⟩, hT⟩ := hv
  have hx := B.exec
  have hb := B.bytes
  have hr := B.returns
  have hts := atoms_spec (ws := usX4_modulus) B.pre
  have hown : s.vm.findClass RX4 = some m.cls := findClass_of_methodNamed B.named
  have hlocks := B.notSynchronized
  have hS : va_S (ww_A 46 ad) s.heap s.heap [] := va_S.rf
  have hl := lv_entry ([.ref (ad 45), .int p0]) (n := 2) (Nat.le_of_ble_eq_true rfl)
  rw [lg_entry_eq]
  generalize (lg_sl ([.ref (ad 45), .int p0]) ++ List.replicate (2 - (lg_sl ([.ref (ad 45), .int p0])).length) Slot.unset).toArray = ls at hl ⊢
  have hl : lv_has ls 2 [(0, .ref (ad 45)), (1, .int p0)] := hl
  unfold f_X4_modulus at hf
  refine lv_iload_n hx hb dX4_modulus_0 rfl (lv_at hl 1 rfl) ?_
  refine lv_if_lt (tgt := 9) hx hb dX4_modulus_1 (by decide) (fun c1 => ?_) (fun c1 => ?_)
  · rw [if_pos c1] at hf
    obtain rfl := Sum.inl.inj (Option.some.inj hf)
    obtain ⟨sa, hsa⟩ := hT.1 (59, "the modulus has powers 0 .. 3") (by decide)
    refine vx_throwS (own := RX4) (cls := "java/lang/IndexOutOfBoundsException") (text := "the modulus has powers 0 .. 3") (names := ["java/lang/RuntimeException", "java/lang/Exception"]) (ik := 57) (is := 59) (ic := 61) (sa := sa) (A := ww_A 46 ad) hx hb hst hown (by decide) (by decide) (hts (.classLink RX4 57 "java/lang/IndexOutOfBoundsException") (BW_in mw_232)) (hts (.initialized "java/lang/IndexOutOfBoundsException") (BW_in mw_233)) hsa (vx_hat (B := .castable "java/lang/IndexOutOfBoundsException" "java/lang/IndexOutOfBoundsException" :: x4_sup.map (fun X => .declares (Bundle.initS X))) (fun w h => hts w (BW_in (in_BWx1 w h))) (by decide +kernel) (xt_ng (hT.2.1.1 "java/lang/IndexOutOfBoundsException" (by decide)) hT.2.1.2)) (by decide +kernel) hT.2.2.1 hT.2.2.2 hS (hl.1.trans hml.symm) dX4_modulus_9 dX4_modulus_12 dX4_modulus_13 dX4_modulus_15 dX4_modulus_18 (fun x h => (hx0 x h).elim) (by decide) (by decide) (by decide) (by decide) hlocks (fun t ha hz hk => xt_thrown hP hS hz hk) hS.2.2 (by decide) (by decide)
  · rw [if_neg c1] at hf
    refine lv_iload_n hx hb dX4_modulus_4 rfl (lv_at hl 1 rfl) ?_
    refine lv_iconst (v := 3) hx hb dX4_modulus_5 (by decide) ?_
    refine lv_icmp_le (tgt := 19) hx hb dX4_modulus_6 (by decide) (fun c2 => ?_) (fun c2 => ?_)
    · rw [if_pos c2] at hf
      refine lv_aload_n hx hb dX4_modulus_19 rfl (lv_at hl 0 rfl) ?_
      refine va_get (ci := 4) (v := .ref (ad 41)) (C := RX4) (T := TX4) (N := 3) hx hb hts (fun w h => BW_in (in_wsX40 w h)) hown hK hP 45 cc_main rfl 1 (by decide) (hts (.fieldLink RX4 19 "NumberFieldFactors" "ring" "LNumberFieldFactors$Ring;") (BW_in mw_208)) (fun _ h9 => h9) rfl dX4_modulus_20 ?_
      refine va_getN (ci := 1) (v := .ref (ad 40)) (C := RX1) (T := TX1) (N := 11) (host := "NumberFieldFactors") hx hb hts (fun w h => BW_in (in_wsX10 w h)) hown hK hP 41 cc_ring rfl 0 (by decide) (va_Nw.use rfl (hN (.fieldLinkNest RX4 37 "NumberFieldFactors$Ring" "extension" "LNumberFieldFactors$Extension;" "NumberFieldFactors") (hnw _ (by decide +kernel)))) (fun _ h9 => h9) rfl dX4_modulus_23 ?_
      refine lv_iload_n hx hb dX4_modulus_26 rfl (lv_at hl 1 rfl) ?_
      obtain ⟨u3, g4, hf⟩ := Option.bind_eq_some_iff.mp hf
      try dsimp only at hf
      refine ct_call (va_runV (As := [.int p0]) (rest := []) ⟨hx, hb, hml, hown, hts⟩ (C_X0_modulusAt l D tys nw hn hnw hj htI htR (res := u3) g4) (cwV 1 hts (gu_V mw_234 mw_235 mw_236 mw_18 mw_26) rfl rfl rfl (by decide +kernel) ⟨Nat.le_of_ble_eq_true rfl, Nat.le_of_ble_eq_true rfl⟩) (ct_preV hn hP hK hN (ci := 0) (k := 40) rfl (by decide) rfl) rfl rfl hl.1 rfl (lv_room (Nat.le_of_ble_eq_true rfl)) dX4_modulus_27 ⟨Nat.zero_le _, Nat.zero_le _⟩) hS (fun H locs hP hS => ?_)
      cases hf
    · rw [if_neg c2] at hf
      obtain rfl := Sum.inl.inj (Option.some.inj hf)
      obtain ⟨sa, hsa⟩ := hT.1 (59, "the modulus has powers 0 .. 3") (by decide)
      refine vx_throwS (own := RX4) (cls := "java/lang/IndexOutOfBoundsException") (text := "the modulus has powers 0 .. 3") (names := ["java/lang/RuntimeException", "java/lang/Exception"]) (ik := 57) (is := 59) (ic := 61) (sa := sa) (A := ww_A 46 ad) hx hb hst hown (by decide) (by decide) (hts (.classLink RX4 57 "java/lang/IndexOutOfBoundsException") (BW_in mw_232)) (hts (.initialized "java/lang/IndexOutOfBoundsException") (BW_in mw_233)) hsa (vx_hat (B := .castable "java/lang/IndexOutOfBoundsException" "java/lang/IndexOutOfBoundsException" :: x4_sup.map (fun X => .declares (Bundle.initS X))) (fun w h => hts w (BW_in (in_BWx1 w h))) (by decide +kernel) (xt_ng (hT.2.1.1 "java/lang/IndexOutOfBoundsException" (by decide)) hT.2.1.2)) (by decide +kernel) hT.2.2.1 hT.2.2.2 hS (hl.1.trans hml.symm) dX4_modulus_9 dX4_modulus_12 dX4_modulus_13 dX4_modulus_15 dX4_modulus_18 (fun x h => (hx0 x h).elim) (by decide) (by decide) (by decide) (by decide) hlocks (fun t ha hz hk => xt_thrown hP hS hz hk) hS.2.2 (by decide) (by decide)
set_option maxHeartbeats 4000000 in
set_option maxRecDepth 100000 in
theorem X_X4_put (l : Launch) (hst : l.stackTraces = false) (D : va_G) (tys : List (ClassId × FieldType)) (nw : List Cond) (hn : nw.all nw_kind = true) (hnw : ∀ w ∈ nw0, w ∈ nw) {ad : Nat → Nat} (hj : ww_inj 46 ad) {cI : ClassId} {cR : ClassId} (htI : tys[0]? = some (cI, .int)) (htR : tys[1]? = some (cR, .object RX2)) {M : Fin 20 → Nat → Int32} {E : Nat → Int32} {P : Nat → Fin 20} {C : Nat → Int32} {N : Nat → Int32} {p0 : Int32} {p1 : Int32} {xr : String × (Fin 20 → Nat → Int32) × (Nat → Int32)} (hf : f_X4_put M E N p0 p1 = some (.inl xr)) :
    vx_Met l yX4_put usX4_put ({ frames := 7, cells := 1, slots := 6, locals := 111 }) (va_Pc [.ref (ad 45), .int p0, .int p1] (ws_Bt D tys nw (ww_A 46 ad) (ww 46 ad (cellC cI cR ad M E P C N)))) (fun _ _ _ _ => False) (xt_Q D (ww 46 ad (cellC cI cR ad xr.2.1 E P C xr.2.2)) (ww_A 46 ad) xr.1) 1 6 (ww_A 46 ad) := by
  refine vx_ofW (cc := cX4_put) (maxL := 3) (ret := (some .boolean)) (by decide) rfl ?_
  intro p e s m args below meth c s₁ B hml hx0 hv
  obtain ⟨rfl, ⟨hP, hK, hN⟩, hT⟩ := hv
  have hx := B.exec
  have hb := B.bytes
  have hr := B.returns
  have hts := atoms_spec (ws := usX4_put) B.pre
  have hown : s.vm.findClass RX4 = some m.cls := findClass_of_methodNamed B.named
  have hlocks := B.notSynchronized
  have hS : va_S (ww_A 46 ad) s.heap s.heap [] := va_S.rf
  have hl := lv_entry ([.ref (ad 45), .int p0, .int p1]) (n := 3) (Nat.le_of_ble_eq_true rfl)
  rw [lg_entry_eq]
  generalize (lg_sl ([.ref (ad 45), .int p0, .int p1]) ++ List.replicate (3 - (lg_sl ([.ref (ad 45), .int p0, .int p1])).length) Slot.unset).toArray = ls at hl ⊢
  have hl : lv_has ls 3 [(0, .ref (ad 45)), (1, .int p0), (2, .int p1)] := hl
  unfold f_X4_put at hf
  refine lv_iload_n hx hb dX4_put_0 rfl (lv_at hl 1 rfl) ?_
  rcases tb_el hf with ⟨x3, g2, hf⟩ | ⟨u1, g2, hf⟩
  · try dsimp only at hf
    obtain rfl := Sum.inl.inj (Option.some.inj hf)
    exact xt_prop (vx_runS (As := [.int p0]) (rest := []) ⟨hx, hb, hml, hown, hts⟩ (X_X4_requirePower l hst D tys nw hn hnw hj htI htR (xr := x3) g2) (cwS 1 hts (gu_S mw_239 mw_240 mw_222 mw_237) rfl rfl rfl (by decide +kernel) ⟨Nat.le_of_ble_eq_true rfl, Nat.le_of_ble_eq_true rfl⟩) (xt_pre hn hP hK hN hT hS) rfl rfl hl.1 rfl (lv_room (Nat.le_of_ble_eq_true rfl)) dX4_put_1 ⟨Nat.le_of_ble_eq_true rfl, Nat.le_of_ble_eq_true rfl⟩) hS hx0 hlocks
  try dsimp only at hf
  refine ct_call (va_runS (As := [.int p0]) (rest := []) ⟨hx, hb, hml, hown, hts⟩ (C_X4_requirePower l D tys nw hn hnw hj htI htR (res := u1) g2) (cwS 1 hts (gu_S mw_239 mw_240 mw_222 mw_237) rfl rfl rfl (by decide +kernel) ⟨Nat.le_of_ble_eq_true rfl, Nat.le_of_ble_eq_true rfl⟩) (ct_preS hn hP hK hN) rfl rfl hl.1 rfl (lv_room (Nat.le_of_ble_eq_true rfl)) dX4_put_1 ⟨Nat.zero_le _, Nat.zero_le _⟩) hS (fun H locs hP hS => ?_)
  refine lv_aload_n hx hb dX4_put_4 rfl (lv_at hl 0 rfl) ?_
  refine lv_iload_n hx hb dX4_put_5 rfl (lv_at hl 2 rfl) ?_
  rcases tb_el hf with ⟨x6, g5, hf⟩ | ⟨u4, g5, hf⟩
  · try dsimp only at hf
    obtain rfl := Sum.inl.inj (Option.some.inj hf)
    exact xt_prop (vx_runV (As := [.int p1]) (rest := []) ⟨hx, hb, hml, hown, hts⟩ (X_X4_requireElement l hst D tys nw hn hnw hj htI htR (xr := x6) g5) (cwV 1 hts (gu_V mw_241 mw_242 mw_243 mw_222 mw_238) rfl rfl rfl (by decide +kernel) ⟨Nat.le_of_ble_eq_true rfl, Nat.le_of_ble_eq_true rfl⟩) (xt_preV hn hP hK hN hT hS (ci := 4) (k := 45) rfl (by decide) rfl) rfl rfl hl.1 rfl (lv_room (Nat.le_of_ble_eq_true rfl)) dX4_put_6 ⟨Nat.le_of_ble_eq_true rfl, Nat.le_of_ble_eq_true rfl⟩) hS hx0 hlocks
  try dsimp only at hf
  refine ct_call (va_runV (As := [.int p1]) (rest := []) ⟨hx, hb, hml, hown, hts⟩ (C_X4_requireElement l D tys nw hn hnw hj htI htR (res := u4) g5) (cwV 1 hts (gu_V mw_241 mw_242 mw_243 mw_222 mw_238) rfl rfl rfl (by decide +kernel) ⟨Nat.le_of_ble_eq_true rfl, Nat.le_of_ble_eq_true rfl⟩) (ct_preV hn hP hK hN (ci := 4) (k := 45) rfl (by decide) rfl) rfl rfl hl.1 rfl (lv_room (Nat.le_of_ble_eq_true rfl)) dX4_put_6 ⟨Nat.zero_le _, Nat.zero_le _⟩) hS (fun H locs hP hS => ?_)
  refine lv_aload_n hx hb dX4_put_9 rfl (lv_at hl 0 rfl) ?_
  refine va_get (ci := 4) (v := .ref (ra ad (0 : Fin 20))) (C := RX4) (T := TX4) (N := 3) hx hb hts (fun w h => BW_in (in_wsX40 w h)) hown hK hP 45 cc_main rfl 0 (by decide) (hts (.fieldLink RX4 10 "NumberFieldFactors" "f" "LNumberFieldFactors$Row;") (BW_in mw_205)) (fun _ h9 => h9) rfl dX4_put_10 ?_
  refine lv_iload_n hx hb dX4_put_13 rfl (lv_at hl 1 rfl) ?_
  obtain ⟨u7, g8, hf⟩ := Option.bind_eq_some_iff.mp hf
  try dsimp only at hf
  refine ct_call (va_runV (As := [.int p0]) (rest := []) ⟨hx, hb, hml, hown, hts⟩ (C_X2_get l D tys nw hn hnw hj htI htR (res := u7) g8) (cwV 1 hts (gu_V mw_244 mw_72 mw_73 mw_50 mw_65) rfl rfl rfl (by decide +kernel) ⟨Nat.le_of_ble_eq_true rfl, Nat.le_of_ble_eq_true rfl⟩) (ct_preV hn hP hK hN (ci := 2) (k := (20 + ((0 : Fin 20)).val)) rfl (ra_lt (0 : Fin 20)) (cl_row (0 : Fin 20))) rfl rfl hl.1 rfl (lv_room (Nat.le_of_ble_eq_true rfl)) dX4_put_14 ⟨Nat.zero_le _, Nat.zero_le _⟩) hS (fun H locs hP hS => ?_)
  refine lv_iload_n hx hb dX4_put_17 rfl (lv_at hl 2 rfl) ?_
  refine lv_icmp_ne (tgt := 23) hx hb dX4_put_18 (by decide) (fun c9 => ?_) (fun c9 => ?_)
  · rw [if_neg c9] at hf
    refine lv_aload_n hx hb dX4_put_23 rfl (lv_at hl 0 rfl) ?_
    refine va_get (ci := 4) (v := .ref (ra ad (0 : Fin 20))) (C := RX4) (T := TX4) (N := 3) hx hb hts (fun w h => BW_in (in_wsX40 w h)) hown hK hP 45 cc_main rfl 0 (by decide) (hts (.fieldLink RX4 10 "NumberFieldFactors" "f" "LNumberFieldFactors$Row;") (BW_in mw_205)) (fun _ h9 => h9) rfl dX4_put_24 ?_
    refine lv_iload_n hx hb dX4_put_27 rfl (lv_at hl 1 rfl) ?_
    refine lv_iload_n hx hb dX4_put_28 rfl (lv_at hl 2 rfl) ?_
    obtain ⟨u10, g11, hf⟩ := Option.bind_eq_some_iff.mp hf
    try dsimp only at hf
    refine ct_call (va_runV (As := [.int p0, .int p1]) (rest := []) ⟨hx, hb, hml, hown, hts⟩ (C_X2_set l D tys nw hn hnw hj htI htR (res := u10) g11) (cwV 2 hts (gu_V mw_245 mw_77 mw_78 mw_50 mw_75) rfl rfl rfl (by decide +kernel) ⟨Nat.le_of_ble_eq_true rfl, Nat.le_of_ble_eq_true rfl⟩) (ct_preV hn hP hK hN (ci := 2) (k := (20 + ((0 : Fin 20)).val)) rfl (ra_lt (0 : Fin 20)) (cl_row (0 : Fin 20))) rfl rfl hl.1 rfl (lv_room (Nat.le_of_ble_eq_true rfl)) dX4_put_29 ⟨Nat.zero_le _, Nat.zero_le _⟩) hS (fun H locs hP hS => ?_)
    refine lv_aload_n hx hb dX4_put_32 rfl (lv_at hl 0 rfl) ?_
    refine va_get (ci := 4) (v := .ref (ad 42)) (C := RX4) (T := TX4) (N := 3) hx hb hts (fun w h => BW_in (in_wsX40 w h)) hown hK hP 45 cc_main rfl 2 (by decide) (hts (.fieldLink RX4 26 "NumberFieldFactors" "splitter" "LNumberFieldFactors$Splitter;") (BW_in mw_211)) (fun _ h9 => h9) rfl dX4_put_33 ?_
    obtain ⟨u12, g13, hf⟩ := Option.bind_eq_some_iff.mp hf
    try dsimp only at hf
    refine ct_call (va_runV (As := []) (rest := []) ⟨hx, hb, hml, hown, hts⟩ (C_X3_forget l D tys nw hn hnw hj htI htR (res := u12) g13) (cwV 0 hts (gu_V mw_227 mw_228 mw_229 mw_158 mw_151) rfl rfl rfl (by decide +kernel) ⟨Nat.le_of_ble_eq_true rfl, Nat.le_of_ble_eq_true rfl⟩) (ct_preV hn hP hK hN (ci := 3) (k := 42) rfl (by decide) rfl) rfl rfl hl.1 rfl (lv_room (Nat.le_of_ble_eq_true rfl)) dX4_put_36 ⟨Nat.zero_le _, Nat.zero_le _⟩) hS (fun H locs hP hS => ?_)
    refine lv_iconst (v := 1) hx hb dX4_put_39 (by decide) ?_
    cases hf
  · rw [if_pos c9] at hf
    refine lv_iconst (v := 0) hx hb dX4_put_21 (by decide) ?_
    cases hf
set_option maxHeartbeats 4000000 in
set_option maxRecDepth 100000 in
theorem X_X4_at (l : Launch) (hst : l.stackTraces = false) (D : va_G) (tys : List (ClassId × FieldType)) (nw : List Cond) (hn : nw.all nw_kind = true) (hnw : ∀ w ∈ nw0, w ∈ nw) {ad : Nat → Nat} (hj : ww_inj 46 ad) {cI : ClassId} {cR : ClassId} (htI : tys[0]? = some (cI, .int)) (htR : tys[1]? = some (cR, .object RX2)) {M : Fin 20 → Nat → Int32} {E : Nat → Int32} {P : Nat → Fin 20} {C : Nat → Int32} {N : Nat → Int32} {p0 : Int32} {xr : String} (hf : f_X4_at M p0 = some (.inl xr)) :
    vx_Met l yX4_at usX4_at ({ frames := 7, cells := 1, slots := 6, locals := 110 }) (va_Pc [.ref (ad 45), .int p0] (ws_Bt D tys nw (ww_A 46 ad) (ww 46 ad (cellC cI cR ad M E P C N)))) (fun _ _ _ _ => False) (xt_Q D (ww 46 ad (cellC cI cR ad M E P C N)) (ww_A 46 ad) xr) 1 6 (ww_A 46 ad) := by
  refine vx_ofW (cc := cX4_at) (maxL := 2) (ret := (some .int)) (by decide) rfl ?_
  intro p e s m args below meth c s₁ B hml hx0 hv
  obtain ⟨rfl, ⟨hP, hK, hN⟩, hT⟩ := hv
  have hx := B.exec
  have hb := B.bytes
  have hr := B.returns
  have hts := atoms_spec (ws := usX4_at) B.pre
  have hown : s.vm.findClass RX4 = some m.cls := findClass_of_methodNamed B.named
  have hlocks := B.notSynchronized
  have hS : va_S (ww_A 46 ad) s.heap s.heap [] := va_S.rf
  have hl := lv_entry ([.ref (ad 45), .int p0]) (n := 2) (Nat.le_of_ble_eq_true rfl)
  rw [lg_entry_eq]
  generalize (lg_sl ([.ref (ad 45), .int p0]) ++ List.replicate (2 - (lg_sl ([.ref (ad 45), .int p0])).length) Slot.unset).toArray = ls at hl ⊢
  have hl : lv_has ls 2 [(0, .ref (ad 45)), (1, .int p0)] := hl
  unfold f_X4_at at hf
  refine lv_iload_n hx hb dX4_at_0 rfl (lv_at hl 1 rfl) ?_
  rcases tb_el hf with ⟨x3, g2, hf⟩ | ⟨u1, g2, hf⟩
  · try dsimp only at hf
    obtain rfl := Sum.inl.inj (Option.some.inj hf)
    exact xt_prop (vx_runS (As := [.int p0]) (rest := []) ⟨hx, hb, hml, hown, hts⟩ (X_X4_requirePower l hst D tys nw hn hnw hj htI htR (xr := x3) g2) (cwS 1 hts (gu_S mw_239 mw_240 mw_222 mw_237) rfl rfl rfl (by decide +kernel) ⟨Nat.le_of_ble_eq_true rfl, Nat.le_of_ble_eq_true rfl⟩) (xt_pre hn hP hK hN hT hS) rfl rfl hl.1 rfl (lv_room (Nat.le_of_ble_eq_true rfl)) dX4_at_1 ⟨Nat.le_of_ble_eq_true rfl, Nat.le_of_ble_eq_true rfl⟩) hS hx0 hlocks
  try dsimp only at hf
  refine ct_call (va_runS (As := [.int p0]) (rest := []) ⟨hx, hb, hml, hown, hts⟩ (C_X4_requirePower l D tys nw hn hnw hj htI htR (res := u1) g2) (cwS 1 hts (gu_S mw_239 mw_240 mw_222 mw_237) rfl rfl rfl (by decide +kernel) ⟨Nat.le_of_ble_eq_true rfl, Nat.le_of_ble_eq_true rfl⟩) (ct_preS hn hP hK hN) rfl rfl hl.1 rfl (lv_room (Nat.le_of_ble_eq_true rfl)) dX4_at_1 ⟨Nat.zero_le _, Nat.zero_le _⟩) hS (fun H locs hP hS => ?_)
  refine lv_aload_n hx hb dX4_at_4 rfl (lv_at hl 0 rfl) ?_
  refine va_get (ci := 4) (v := .ref (ra ad (0 : Fin 20))) (C := RX4) (T := TX4) (N := 3) hx hb hts (fun w h => BW_in (in_wsX40 w h)) hown hK hP 45 cc_main rfl 0 (by decide) (hts (.fieldLink RX4 10 "NumberFieldFactors" "f" "LNumberFieldFactors$Row;") (BW_in mw_205)) (fun _ h9 => h9) rfl dX4_at_5 ?_
  refine lv_iload_n hx hb dX4_at_8 rfl (lv_at hl 1 rfl) ?_
  obtain ⟨u4, g5, hf⟩ := Option.bind_eq_some_iff.mp hf
  try dsimp only at hf
  refine ct_call (va_runV (As := [.int p0]) (rest := []) ⟨hx, hb, hml, hown, hts⟩ (C_X2_get l D tys nw hn hnw hj htI htR (res := u4) g5) (cwV 1 hts (gu_V mw_244 mw_72 mw_73 mw_50 mw_65) rfl rfl rfl (by decide +kernel) ⟨Nat.le_of_ble_eq_true rfl, Nat.le_of_ble_eq_true rfl⟩) (ct_preV hn hP hK hN (ci := 2) (k := (20 + ((0 : Fin 20)).val)) rfl (ra_lt (0 : Fin 20)) (cl_row (0 : Fin 20))) rfl rfl hl.1 rfl (lv_room (Nat.le_of_ble_eq_true rfl)) dX4_at_9 ⟨Nat.zero_le _, Nat.zero_le _⟩) hS (fun H locs hP hS => ?_)
  cases hf
set_option maxHeartbeats 4000000 in
set_option maxRecDepth 100000 in
theorem X_X4_reckon (l : Launch) (hst : l.stackTraces = false) (D : va_G) (tys : List (ClassId × FieldType)) (nw : List Cond) (hn : nw.all nw_kind = true) (hnw : ∀ w ∈ nw0, w ∈ nw) {ad : Nat → Nat} (hj : ww_inj 46 ad) {cI : ClassId} {cR : ClassId} (htI : tys[0]? = some (cI, .int)) (htR : tys[1]? = some (cR, .object RX2)) {fu : Nat} {M : Fin 20 → Nat → Int32} {E : Nat → Int32} {P : Nat → Fin 20} {C : Nat → Int32} {N : Nat → Int32} {p0 : Int32} {p1 : Int32} {p2 : Int32} {xr : String} (hf : f_X4_reckon fu E p0 p1 p2 = some (.inl xr)) :
    vx_Met l yX4_reckon usX4_reckon ({ frames := 7, cells := 1, slots := 6, locals := 111 }) (va_Pc [.ref (ad 45), .int p0, .int p1, .int p2] (ws_Bt D tys nw (ww_A 46 ad) (ww 46 ad (cellC cI cR ad M E P C N)))) (fun _ _ _ _ => False) (xt_Q D (ww 46 ad (cellC cI cR ad M E P C N)) (ww_A 46 ad) xr) 1 6 (ww_A 46 ad) := by
  refine vx_ofW (cc := cX4_reckon) (maxL := 5) (ret := (some .int)) (by decide) rfl ?_
  intro p e s m args below meth c s₁ B hml hx0 hv
  obtain ⟨rfl, ⟨hP, hK, hN⟩, hT⟩ := hv
  have hx := B.exec
  have hb := B.bytes
  have hr := B.returns
  have hts := atoms_spec (ws := usX4_reckon) B.pre
  have hown : s.vm.findClass RX4 = some m.cls := findClass_of_methodNamed B.named
  have hlocks := B.notSynchronized
  have hS : va_S (ww_A 46 ad) s.heap s.heap [] := va_S.rf
  have hl := lv_entry ([.ref (ad 45), .int p0, .int p1, .int p2]) (n := 5) (Nat.le_of_ble_eq_true rfl)
  rw [lg_entry_eq]
  generalize (lg_sl ([.ref (ad 45), .int p0, .int p1, .int p2]) ++ List.replicate (5 - (lg_sl ([.ref (ad 45), .int p0, .int p1, .int p2])).length) Slot.unset).toArray = ls at hl ⊢
  have hl : lv_has ls 5 [(0, .ref (ad 45)), (1, .int p0), (2, .int p1), (3, .int p2)] := hl
  unfold f_X4_reckon at hf
  refine lv_aload_n hx hb dX4_reckon_0 rfl (lv_at hl 0 rfl) ?_
  refine lv_iload_n hx hb dX4_reckon_1 rfl (lv_at hl 2 rfl) ?_
  rcases tb_el hf with ⟨x3, g2, hf⟩ | ⟨u1, g2, hf⟩
  · try dsimp only at hf
    obtain rfl := Sum.inl.inj (Option.some.inj hf)
    exact xt_prop (vx_runV (As := [.int p1]) (rest := []) ⟨hx, hb, hml, hown, hts⟩ (X_X4_requireElement l hst D tys nw hn hnw hj htI htR (xr := x3) g2) (cwV 1 hts (gu_V mw_241 mw_242 mw_243 mw_222 mw_238) rfl rfl rfl (by decide +kernel) ⟨Nat.le_of_ble_eq_true rfl, Nat.le_of_ble_eq_true rfl⟩) (xt_preV hn hP hK hN hT hS (ci := 4) (k := 45) rfl (by decide) rfl) rfl rfl hl.1 rfl (lv_room (Nat.le_of_ble_eq_true rfl)) dX4_reckon_2 ⟨Nat.le_of_ble_eq_true rfl, Nat.le_of_ble_eq_true rfl⟩) hS hx0 hlocks
  try dsimp only at hf
  refine ct_call (va_runV (As := [.int p1]) (rest := []) ⟨hx, hb, hml, hown, hts⟩ (C_X4_requireElement l D tys nw hn hnw hj htI htR (res := u1) g2) (cwV 1 hts (gu_V mw_241 mw_242 mw_243 mw_222 mw_238) rfl rfl rfl (by decide +kernel) ⟨Nat.le_of_ble_eq_true rfl, Nat.le_of_ble_eq_true rfl⟩) (ct_preV hn hP hK hN (ci := 4) (k := 45) rfl (by decide) rfl) rfl rfl hl.1 rfl (lv_room (Nat.le_of_ble_eq_true rfl)) dX4_reckon_2 ⟨Nat.zero_le _, Nat.zero_le _⟩) hS (fun H locs hP hS => ?_)
  refine lv_aload_n hx hb dX4_reckon_5 rfl (lv_at hl 0 rfl) ?_
  refine lv_iload_n hx hb dX4_reckon_6 rfl (lv_at hl 3 rfl) ?_
  rcases tb_el hf with ⟨x6, g5, hf⟩ | ⟨u4, g5, hf⟩
  · try dsimp only at hf
    obtain rfl := Sum.inl.inj (Option.some.inj hf)
    exact xt_prop (vx_runV (As := [.int p2]) (rest := []) ⟨hx, hb, hml, hown, hts⟩ (X_X4_requireElement l hst D tys nw hn hnw hj htI htR (xr := x6) g5) (cwV 1 hts (gu_V mw_241 mw_242 mw_243 mw_222 mw_238) rfl rfl rfl (by decide +kernel) ⟨Nat.le_of_ble_eq_true rfl, Nat.le_of_ble_eq_true rfl⟩) (xt_preV hn hP hK hN hT hS (ci := 4) (k := 45) rfl (by decide) rfl) rfl rfl hl.1 rfl (lv_room (Nat.le_of_ble_eq_true rfl)) dX4_reckon_7 ⟨Nat.le_of_ble_eq_true rfl, Nat.le_of_ble_eq_true rfl⟩) hS hx0 hlocks
  try dsimp only at hf
  refine ct_call (va_runV (As := [.int p2]) (rest := []) ⟨hx, hb, hml, hown, hts⟩ (C_X4_requireElement l D tys nw hn hnw hj htI htR (res := u4) g5) (cwV 1 hts (gu_V mw_241 mw_242 mw_243 mw_222 mw_238) rfl rfl rfl (by decide +kernel) ⟨Nat.le_of_ble_eq_true rfl, Nat.le_of_ble_eq_true rfl⟩) (ct_preV hn hP hK hN (ci := 4) (k := 45) rfl (by decide) rfl) rfl rfl hl.1 rfl (lv_room (Nat.le_of_ble_eq_true rfl)) dX4_reckon_7 ⟨Nat.zero_le _, Nat.zero_le _⟩) hS (fun H locs hP hS => ?_)
  refine lv_iload_n hx hb dX4_reckon_10 rfl (lv_at hl 1 rfl) ?_
  refine lv_if_lt (tgt := 19) hx hb dX4_reckon_11 (by decide) (fun c7 => ?_) (fun c7 => ?_)
  · rw [if_pos c7] at hf
    obtain rfl := Sum.inl.inj (Option.some.inj hf)
    obtain ⟨sa, hsa⟩ := hT.1 (80, "no such kind") (by decide)
    refine vx_throwS (own := RX4) (cls := "java/lang/IllegalArgumentException") (text := "no such kind") (names := ["java/lang/RuntimeException", "java/lang/Exception"]) (ik := 30) (is := 80) (ic := 34) (sa := sa) (A := ww_A 46 ad) hx hb hst hown (by decide) (by decide) (hts (.classLink RX4 30 "java/lang/IllegalArgumentException") (BW_in mw_218)) (hts (.initialized "java/lang/IllegalArgumentException") (BW_in mw_219)) hsa (vx_hat (B := .castable "java/lang/IllegalArgumentException" "java/lang/IllegalArgumentException" :: x4_sup.map (fun X => .declares (Bundle.initS X))) (fun w h => hts w (BW_in (in_BWx0 w h))) (by decide +kernel) (xt_ng (hT.2.1.1 "java/lang/IllegalArgumentException" (by decide)) hT.2.1.2)) (by decide +kernel) hT.2.2.1 hT.2.2.2 hS (hl.1.trans hml.symm) dX4_reckon_19 dX4_reckon_22 dX4_reckon_23 dX4_reckon_25 dX4_reckon_28 (fun x h => (hx0 x h).elim) (by decide) (by decide) (by decide) (by decide) hlocks (fun t ha hz hk => xt_thrown hP hS hz hk) hS.2.2 (by decide) (by decide)
  · rw [if_neg c7] at hf
    refine lv_iload_n hx hb dX4_reckon_14 rfl (lv_at hl 1 rfl) ?_
    refine lv_iconst (v := 3) hx hb dX4_reckon_15 (by decide) ?_
    refine lv_icmp_le (tgt := 29) hx hb dX4_reckon_16 (by decide) (fun c8 => ?_) (fun c8 => ?_)
    · rw [if_pos c8] at hf
      refine lv_iload_n hx hb dX4_reckon_29 rfl (lv_at hl 1 rfl) ?_
      refine lv_iconst (v := 3) hx hb dX4_reckon_30 (by decide) ?_
      refine lv_icmp_ne (tgt := 48) hx hb dX4_reckon_31 (by decide) (fun c9 => ?_) (fun c9 => ?_)
      · rw [if_neg c9] at hf
        refine lv_aload_n hx hb dX4_reckon_48 rfl (lv_at hl 0 rfl) ?_
        refine va_get (ci := 4) (v := .ref (ad 41)) (C := RX4) (T := TX4) (N := 3) hx hb hts (fun w h => BW_in (in_wsX40 w h)) hown hK hP 45 cc_main rfl 1 (by decide) (hts (.fieldLink RX4 19 "NumberFieldFactors" "ring" "LNumberFieldFactors$Ring;") (BW_in mw_208)) (fun _ h9 => h9) rfl dX4_reckon_49 ?_
        refine va_getN (ci := 1) (v := .ref (ad 40)) (C := RX1) (T := TX1) (N := 11) (host := "NumberFieldFactors") hx hb hts (fun w h => BW_in (in_wsX10 w h)) hown hK hP 41 cc_ring rfl 0 (by decide) (va_Nw.use rfl (hN (.fieldLinkNest RX4 37 "NumberFieldFactors$Ring" "extension" "LNumberFieldFactors$Extension;" "NumberFieldFactors") (hnw _ (by decide +kernel)))) (fun _ h9 => h9) rfl dX4_reckon_52 ?_
        refine lv_astore (lv' := [(4, .ref (ad 40)), (0, .ref (ad 45)), (1, .int p0), (2, .int p1), (3, .int p2)]) hx hb dX4_reckon_55 hl (by decide) rfl (fun ls hl => ?_)
        refine lv_iload_n hx hb dX4_reckon_57 rfl (lv_at hl 2 rfl) ?_
        by_cases c10 : p0 = 0
        · rw [if_pos c10] at hf
          refine lv_tableIn (off := 26) (tgt := 84) hx hb dX4_reckon_58 (by rw [c10]; decide) (by rw [c10]; decide) (by rw [c10]; rfl) (by decide) ?_
          refine lv_aload hx hb dX4_reckon_84 (lv_at hl 0 rfl) ?_
          refine lv_iload_n hx hb dX4_reckon_86 rfl (lv_at hl 3 rfl) ?_
          refine lv_iload_n hx hb dX4_reckon_87 rfl (lv_at hl 4 rfl) ?_
          obtain ⟨u11, g12, hf⟩ := Option.bind_eq_some_iff.mp hf
          try dsimp only at hf
          refine ct_call (va_runV (As := [.int p1, .int p2]) (rest := []) ⟨hx, hb, hml, hown, hts⟩ (C_X0_plus l D tys nw hn hnw hj htI htR (res := u11) g12) (cwV 2 hts (gu_V mw_250 mw_31 mw_32 mw_18 mw_27) rfl rfl rfl (by decide +kernel) ⟨Nat.le_of_ble_eq_true rfl, Nat.le_of_ble_eq_true rfl⟩) (ct_preV hn hP hK hN (ci := 0) (k := 40) rfl (by decide) rfl) rfl rfl hl.1 rfl (lv_room (Nat.le_of_ble_eq_true rfl)) dX4_reckon_88 ⟨Nat.zero_le _, Nat.zero_le _⟩) hS (fun H locs hP hS => ?_)
          cases hf
        rw [if_neg c10] at hf
        by_cases c13 : p0 = 1
        · rw [if_pos c13] at hf
          refine lv_tableIn (off := 34) (tgt := 92) hx hb dX4_reckon_58 (by rw [c13]; decide) (by rw [c13]; decide) (by rw [c13]; rfl) (by decide) ?_
          refine lv_aload hx hb dX4_reckon_92 (lv_at hl 0 rfl) ?_
          refine lv_iload_n hx hb dX4_reckon_94 rfl (lv_at hl 3 rfl) ?_
          refine lv_iload_n hx hb dX4_reckon_95 rfl (lv_at hl 4 rfl) ?_
          obtain ⟨u14, g15, hf⟩ := Option.bind_eq_some_iff.mp hf
          try dsimp only at hf
          refine ct_call (va_runV (As := [.int p1, .int p2]) (rest := []) ⟨hx, hb, hml, hown, hts⟩ (C_X0_minus l D tys nw hn hnw hj htI htR (res := u14) g15) (cwV 2 hts (gu_V mw_251 mw_92 mw_93 mw_18 mw_28) rfl rfl rfl (by decide +kernel) ⟨Nat.le_of_ble_eq_true rfl, Nat.le_of_ble_eq_true rfl⟩) (ct_preV hn hP hK hN (ci := 0) (k := 40) rfl (by decide) rfl) rfl rfl hl.1 rfl (lv_room (Nat.le_of_ble_eq_true rfl)) dX4_reckon_96 ⟨Nat.zero_le _, Nat.zero_le _⟩) hS (fun H locs hP hS => ?_)
          cases hf
        rw [if_neg c13] at hf
        by_cases c16 : p0 = 2
        · rw [if_pos c16] at hf
          refine lv_tableIn (off := 42) (tgt := 100) hx hb dX4_reckon_58 (by rw [c16]; decide) (by rw [c16]; decide) (by rw [c16]; rfl) (by decide) ?_
          refine lv_aload hx hb dX4_reckon_100 (lv_at hl 0 rfl) ?_
          refine lv_iload_n hx hb dX4_reckon_102 rfl (lv_at hl 3 rfl) ?_
          refine lv_iload_n hx hb dX4_reckon_103 rfl (lv_at hl 4 rfl) ?_
          obtain ⟨u17, g18, hf⟩ := Option.bind_eq_some_iff.mp hf
          try dsimp only at hf
          refine ct_call (va_runV (As := [.int p1, .int p2]) (rest := []) ⟨hx, hb, hml, hown, hts⟩ (C_X0_times l D tys nw hn hnw hj htI htR (res := u17) g18) (cwV 2 hts (gu_V mw_252 mw_16 mw_17 mw_18 mw_13) rfl rfl rfl (by decide +kernel) ⟨Nat.le_of_ble_eq_true rfl, Nat.le_of_ble_eq_true rfl⟩) (ct_preV hn hP hK hN (ci := 0) (k := 40) rfl (by decide) rfl) rfl rfl hl.1 rfl (lv_room (Nat.le_of_ble_eq_true rfl)) dX4_reckon_104 ⟨Nat.zero_le _, Nat.zero_le _⟩) hS (fun H locs hP hS => ?_)
          cases hf
        rw [if_neg c16] at hf
        refine lv_tableOut (tgt := 108) hx hb dX4_reckon_58 (by have ec10 : (p0).toInt ≠ 0 := fun h => c10 (Int32.toInt_inj.mp (h.trans (by decide))); have ec13 : (p0).toInt ≠ 1 := fun h => c13 (Int32.toInt_inj.mp (h.trans (by decide))); have ec16 : (p0).toInt ≠ 2 := fun h => c16 (Int32.toInt_inj.mp (h.trans (by decide))); omega) (by decide) ?_
        refine lv_aload hx hb dX4_reckon_108 (lv_at hl 0 rfl) ?_
        refine lv_iload_n hx hb dX4_reckon_110 rfl (lv_at hl 3 rfl) ?_
        refine lv_aload hx hb dX4_reckon_111 (lv_at hl 0 rfl) ?_
        refine lv_iload_n hx hb dX4_reckon_113 rfl (lv_at hl 4 rfl) ?_
        refine lv_aload hx hb dX4_reckon_114 (lv_at hl 0 rfl) ?_
        refine va_getN (ci := 0) (v := .int (E 1)) (C := RX0) (T := TX0) (N := 8) (host := "NumberFieldFactors") hx hb hts (fun w h => BW_in (in_wsX00 w h)) hown hK hP 40 cc_ext rfl 1 (by decide) (va_Nw.use rfl (hN (.fieldLinkNest RX4 97 "NumberFieldFactors$Extension" "size" "I" "NumberFieldFactors") (hnw _ (by decide +kernel)))) (fun _ h9 => h9) rfl dX4_reckon_116 ?_
        refine lv_iconst (v := 2) hx hb dX4_reckon_119 (by decide) ?_
        refine lv_isub hx hb dX4_reckon_120 ?_
        obtain ⟨u19, g20, hf⟩ := Option.bind_eq_some_iff.mp hf
        try dsimp only at hf
        refine ct_call (va_runV (As := [.int p2, .int ((E 1) - 2)]) (rest := [.int p1, .ref (ad 40)]) ⟨hx, hb, hml, hown, hts⟩ (C_X0_power l D tys nw hn hnw hj htI htR (res := u19) g20) (cwV 2 hts (gu_V mw_253 mw_24 mw_25 mw_18 mw_14) rfl rfl rfl (by decide +kernel) ⟨Nat.le_of_ble_eq_true rfl, Nat.le_of_ble_eq_true rfl⟩) (ct_preV hn hP hK hN (ci := 0) (k := 40) rfl (by decide) rfl) rfl rfl hl.1 rfl (lv_room (Nat.le_of_ble_eq_true rfl)) dX4_reckon_121 ⟨Nat.zero_le _, Nat.zero_le _⟩) hS (fun H locs hP hS => ?_)
        obtain ⟨u21, g22, hf⟩ := Option.bind_eq_some_iff.mp hf
        try dsimp only at hf
        refine ct_call (va_runV (As := [.int p1, .int u19]) (rest := []) ⟨hx, hb, hml, hown, hts⟩ (C_X0_times l D tys nw hn hnw hj htI htR (res := u21) g22) (cwV 2 hts (gu_V mw_252 mw_16 mw_17 mw_18 mw_13) rfl rfl rfl (by decide +kernel) ⟨Nat.le_of_ble_eq_true rfl, Nat.le_of_ble_eq_true rfl⟩) (ct_preV hn hP hK hN (ci := 0) (k := 40) rfl (by decide) rfl) rfl rfl hl.1 rfl (lv_room (Nat.le_of_ble_eq_true rfl)) dX4_reckon_124 ⟨Nat.zero_le _, Nat.zero_le _⟩) hS (fun H locs hP hS => ?_)
        cases hf
      · rw [if_pos c9] at hf
        refine lv_iload_n hx hb dX4_reckon_34 rfl (lv_at hl 3 rfl) ?_
        refine lv_if_ne (tgt := 48) hx hb dX4_reckon_35 (by decide) (fun c23 => ?_) (fun c23 => ?_)
        · rw [if_neg c23] at hf
          refine lv_aload_n hx hb dX4_reckon_48 rfl (lv_at hl 0 rfl) ?_
          refine va_get (ci := 4) (v := .ref (ad 41)) (C := RX4) (T := TX4) (N := 3) hx hb hts (fun w h => BW_in (in_wsX40 w h)) hown hK hP 45 cc_main rfl 1 (by decide) (hts (.fieldLink RX4 19 "NumberFieldFactors" "ring" "LNumberFieldFactors$Ring;") (BW_in mw_208)) (fun _ h9 => h9) rfl dX4_reckon_49 ?_
          refine va_getN (ci := 1) (v := .ref (ad 40)) (C := RX1) (T := TX1) (N := 11) (host := "NumberFieldFactors") hx hb hts (fun w h => BW_in (in_wsX10 w h)) hown hK hP 41 cc_ring rfl 0 (by decide) (va_Nw.use rfl (hN (.fieldLinkNest RX4 37 "NumberFieldFactors$Ring" "extension" "LNumberFieldFactors$Extension;" "NumberFieldFactors") (hnw _ (by decide +kernel)))) (fun _ h9 => h9) rfl dX4_reckon_52 ?_
          refine lv_astore (lv' := [(4, .ref (ad 40)), (0, .ref (ad 45)), (1, .int p0), (2, .int p1), (3, .int p2)]) hx hb dX4_reckon_55 hl (by decide) rfl (fun ls hl => ?_)
          refine lv_iload_n hx hb dX4_reckon_57 rfl (lv_at hl 2 rfl) ?_
          by_cases c24 : p0 = 0
          · rw [if_pos c24] at hf
            refine lv_tableIn (off := 26) (tgt := 84) hx hb dX4_reckon_58 (by rw [c24]; decide) (by rw [c24]; decide) (by rw [c24]; rfl) (by decide) ?_
            refine lv_aload hx hb dX4_reckon_84 (lv_at hl 0 rfl) ?_
            refine lv_iload_n hx hb dX4_reckon_86 rfl (lv_at hl 3 rfl) ?_
            refine lv_iload_n hx hb dX4_reckon_87 rfl (lv_at hl 4 rfl) ?_
            obtain ⟨u25, g26, hf⟩ := Option.bind_eq_some_iff.mp hf
            try dsimp only at hf
            refine ct_call (va_runV (As := [.int p1, .int p2]) (rest := []) ⟨hx, hb, hml, hown, hts⟩ (C_X0_plus l D tys nw hn hnw hj htI htR (res := u25) g26) (cwV 2 hts (gu_V mw_250 mw_31 mw_32 mw_18 mw_27) rfl rfl rfl (by decide +kernel) ⟨Nat.le_of_ble_eq_true rfl, Nat.le_of_ble_eq_true rfl⟩) (ct_preV hn hP hK hN (ci := 0) (k := 40) rfl (by decide) rfl) rfl rfl hl.1 rfl (lv_room (Nat.le_of_ble_eq_true rfl)) dX4_reckon_88 ⟨Nat.zero_le _, Nat.zero_le _⟩) hS (fun H locs hP hS => ?_)
            cases hf
          rw [if_neg c24] at hf
          by_cases c27 : p0 = 1
          · rw [if_pos c27] at hf
            refine lv_tableIn (off := 34) (tgt := 92) hx hb dX4_reckon_58 (by rw [c27]; decide) (by rw [c27]; decide) (by rw [c27]; rfl) (by decide) ?_
            refine lv_aload hx hb dX4_reckon_92 (lv_at hl 0 rfl) ?_
            refine lv_iload_n hx hb dX4_reckon_94 rfl (lv_at hl 3 rfl) ?_
            refine lv_iload_n hx hb dX4_reckon_95 rfl (lv_at hl 4 rfl) ?_
            obtain ⟨u28, g29, hf⟩ := Option.bind_eq_some_iff.mp hf
            try dsimp only at hf
            refine ct_call (va_runV (As := [.int p1, .int p2]) (rest := []) ⟨hx, hb, hml, hown, hts⟩ (C_X0_minus l D tys nw hn hnw hj htI htR (res := u28) g29) (cwV 2 hts (gu_V mw_251 mw_92 mw_93 mw_18 mw_28) rfl rfl rfl (by decide +kernel) ⟨Nat.le_of_ble_eq_true rfl, Nat.le_of_ble_eq_true rfl⟩) (ct_preV hn hP hK hN (ci := 0) (k := 40) rfl (by decide) rfl) rfl rfl hl.1 rfl (lv_room (Nat.le_of_ble_eq_true rfl)) dX4_reckon_96 ⟨Nat.zero_le _, Nat.zero_le _⟩) hS (fun H locs hP hS => ?_)
            cases hf
          rw [if_neg c27] at hf
          by_cases c30 : p0 = 2
          · rw [if_pos c30] at hf
            refine lv_tableIn (off := 42) (tgt := 100) hx hb dX4_reckon_58 (by rw [c30]; decide) (by rw [c30]; decide) (by rw [c30]; rfl) (by decide) ?_
            refine lv_aload hx hb dX4_reckon_100 (lv_at hl 0 rfl) ?_
            refine lv_iload_n hx hb dX4_reckon_102 rfl (lv_at hl 3 rfl) ?_
            refine lv_iload_n hx hb dX4_reckon_103 rfl (lv_at hl 4 rfl) ?_
            obtain ⟨u31, g32, hf⟩ := Option.bind_eq_some_iff.mp hf
            try dsimp only at hf
            refine ct_call (va_runV (As := [.int p1, .int p2]) (rest := []) ⟨hx, hb, hml, hown, hts⟩ (C_X0_times l D tys nw hn hnw hj htI htR (res := u31) g32) (cwV 2 hts (gu_V mw_252 mw_16 mw_17 mw_18 mw_13) rfl rfl rfl (by decide +kernel) ⟨Nat.le_of_ble_eq_true rfl, Nat.le_of_ble_eq_true rfl⟩) (ct_preV hn hP hK hN (ci := 0) (k := 40) rfl (by decide) rfl) rfl rfl hl.1 rfl (lv_room (Nat.le_of_ble_eq_true rfl)) dX4_reckon_104 ⟨Nat.zero_le _, Nat.zero_le _⟩) hS (fun H locs hP hS => ?_)
            cases hf
          rw [if_neg c30] at hf
          refine lv_tableOut (tgt := 108) hx hb dX4_reckon_58 (by have ec24 : (p0).toInt ≠ 0 := fun h => c24 (Int32.toInt_inj.mp (h.trans (by decide))); have ec27 : (p0).toInt ≠ 1 := fun h => c27 (Int32.toInt_inj.mp (h.trans (by decide))); have ec30 : (p0).toInt ≠ 2 := fun h => c30 (Int32.toInt_inj.mp (h.trans (by decide))); omega) (by decide) ?_
          refine lv_aload hx hb dX4_reckon_108 (lv_at hl 0 rfl) ?_
          refine lv_iload_n hx hb dX4_reckon_110 rfl (lv_at hl 3 rfl) ?_
          refine lv_aload hx hb dX4_reckon_111 (lv_at hl 0 rfl) ?_
          refine lv_iload_n hx hb dX4_reckon_113 rfl (lv_at hl 4 rfl) ?_
          refine lv_aload hx hb dX4_reckon_114 (lv_at hl 0 rfl) ?_
          refine va_getN (ci := 0) (v := .int (E 1)) (C := RX0) (T := TX0) (N := 8) (host := "NumberFieldFactors") hx hb hts (fun w h => BW_in (in_wsX00 w h)) hown hK hP 40 cc_ext rfl 1 (by decide) (va_Nw.use rfl (hN (.fieldLinkNest RX4 97 "NumberFieldFactors$Extension" "size" "I" "NumberFieldFactors") (hnw _ (by decide +kernel)))) (fun _ h9 => h9) rfl dX4_reckon_116 ?_
          refine lv_iconst (v := 2) hx hb dX4_reckon_119 (by decide) ?_
          refine lv_isub hx hb dX4_reckon_120 ?_
          obtain ⟨u33, g34, hf⟩ := Option.bind_eq_some_iff.mp hf
          try dsimp only at hf
          refine ct_call (va_runV (As := [.int p2, .int ((E 1) - 2)]) (rest := [.int p1, .ref (ad 40)]) ⟨hx, hb, hml, hown, hts⟩ (C_X0_power l D tys nw hn hnw hj htI htR (res := u33) g34) (cwV 2 hts (gu_V mw_253 mw_24 mw_25 mw_18 mw_14) rfl rfl rfl (by decide +kernel) ⟨Nat.le_of_ble_eq_true rfl, Nat.le_of_ble_eq_true rfl⟩) (ct_preV hn hP hK hN (ci := 0) (k := 40) rfl (by decide) rfl) rfl rfl hl.1 rfl (lv_room (Nat.le_of_ble_eq_true rfl)) dX4_reckon_121 ⟨Nat.zero_le _, Nat.zero_le _⟩) hS (fun H locs hP hS => ?_)
          obtain ⟨u35, g36, hf⟩ := Option.bind_eq_some_iff.mp hf
          try dsimp only at hf
          refine ct_call (va_runV (As := [.int p1, .int u33]) (rest := []) ⟨hx, hb, hml, hown, hts⟩ (C_X0_times l D tys nw hn hnw hj htI htR (res := u35) g36) (cwV 2 hts (gu_V mw_252 mw_16 mw_17 mw_18 mw_13) rfl rfl rfl (by decide +kernel) ⟨Nat.le_of_ble_eq_true rfl, Nat.le_of_ble_eq_true rfl⟩) (ct_preV hn hP hK hN (ci := 0) (k := 40) rfl (by decide) rfl) rfl rfl hl.1 rfl (lv_room (Nat.le_of_ble_eq_true rfl)) dX4_reckon_124 ⟨Nat.zero_le _, Nat.zero_le _⟩) hS (fun H locs hP hS => ?_)
          cases hf
        · rw [if_pos c23] at hf
          obtain rfl := Sum.inl.inj (Option.some.inj hf)
          obtain ⟨sa, hsa⟩ := hT.1 (84, "a quotient by 0") (by decide)
          refine vx_throwS (own := RX4) (cls := "java/lang/ArithmeticException") (text := "a quotient by 0") (names := ["java/lang/RuntimeException", "java/lang/Exception"]) (ik := 82) (is := 84) (ic := 86) (sa := sa) (A := ww_A 46 ad) hx hb hst hown (by decide) (by decide) (hts (.classLink RX4 82 "java/lang/ArithmeticException") (BW_in mw_248)) (hts (.initialized "java/lang/ArithmeticException") (BW_in mw_249)) hsa (vx_hat (B := .castable "java/lang/ArithmeticException" "java/lang/ArithmeticException" :: x4_sup.map (fun X => .declares (Bundle.initS X))) (fun w h => hts w (BW_in (in_BWx2 w h))) (by decide +kernel) (xt_ng (hT.2.1.1 "java/lang/ArithmeticException" (by decide)) hT.2.1.2)) (by decide +kernel) hT.2.2.1 hT.2.2.2 hS (hl.1.trans hml.symm) dX4_reckon_38 dX4_reckon_41 dX4_reckon_42 dX4_reckon_44 dX4_reckon_47 (fun x h => (hx0 x h).elim) (by decide) (by decide) (by decide) (by decide) hlocks (fun t ha hz hk => xt_thrown hP hS hz hk) hS.2.2 (by decide) (by decide)
    · rw [if_neg c8] at hf
      obtain rfl := Sum.inl.inj (Option.some.inj hf)
      obtain ⟨sa, hsa⟩ := hT.1 (80, "no such kind") (by decide)
      refine vx_throwS (own := RX4) (cls := "java/lang/IllegalArgumentException") (text := "no such kind") (names := ["java/lang/RuntimeException", "java/lang/Exception"]) (ik := 30) (is := 80) (ic := 34) (sa := sa) (A := ww_A 46 ad) hx hb hst hown (by decide) (by decide) (hts (.classLink RX4 30 "java/lang/IllegalArgumentException") (BW_in mw_218)) (hts (.initialized "java/lang/IllegalArgumentException") (BW_in mw_219)) hsa (vx_hat (B := .castable "java/lang/IllegalArgumentException" "java/lang/IllegalArgumentException" :: x4_sup.map (fun X => .declares (Bundle.initS X))) (fun w h => hts w (BW_in (in_BWx0 w h))) (by decide +kernel) (xt_ng (hT.2.1.1 "java/lang/IllegalArgumentException" (by decide)) hT.2.1.2)) (by decide +kernel) hT.2.2.1 hT.2.2.2 hS (hl.1.trans hml.symm) dX4_reckon_19 dX4_reckon_22 dX4_reckon_23 dX4_reckon_25 dX4_reckon_28 (fun x h => (hx0 x h).elim) (by decide) (by decide) (by decide) (by decide) hlocks (fun t ha hz hk => xt_thrown hP hS hz hk) hS.2.2 (by decide) (by decide)
set_option maxHeartbeats 4000000 in
set_option maxRecDepth 100000 in
theorem X_X4_known (l : Launch) (hst : l.stackTraces = false) (D : va_G) (tys : List (ClassId × FieldType)) (nw : List Cond) (hn : nw.all nw_kind = true) (hnw : ∀ w ∈ nw0, w ∈ nw) {ad : Nat → Nat} (hj : ww_inj 46 ad) {cI : ClassId} {cR : ClassId} (htI : tys[0]? = some (cI, .int)) (htR : tys[1]? = some (cR, .object RX2)) {fu : Nat} {M : Fin 20 → Nat → Int32} {E : Nat → Int32} {P : Nat → Fin 20} {C : Nat → Int32} {N : Nat → Int32} {p0 : Int32} {p1 : Int32} {xr : String} (hf : f_X4_known fu E p0 p1 = some (.inl xr)) :
    vx_Met l yX4_known usX4_known ({ frames := 7, cells := 1, slots := 6, locals := 111 }) (va_Pc [.ref (ad 45), .int p0, .int p1] (ws_Bt D tys nw (ww_A 46 ad) (ww 46 ad (cellC cI cR ad M E P C N)))) (fun _ _ _ _ => False) (xt_Q D (ww 46 ad (cellC cI cR ad M E P C N)) (ww_A 46 ad) xr) 1 6 (ww_A 46 ad) := by
  refine vx_ofW (cc := cX4_known) (maxL := 4) (ret := (some .int)) (by decide) rfl ?_
  intro p e s m args below meth c s₁ B hml hx0 hv
  obtain ⟨rfl, ⟨hP, hK, hN⟩, hT⟩ := hv
  have hx := B.exec
  have hb := B.bytes
  have hr := B.returns
  have hts := atoms_spec (ws := usX4_known) B.pre
  have hown : s.vm.findClass RX4 = some m.cls := findClass_of_methodNamed B.named
  have hlocks := B.notSynchronized
  have hS : va_S (ww_A 46 ad) s.heap s.heap [] := va_S.rf
  have hl := lv_entry ([.ref (ad 45), .int p0, .int p1]) (n := 4) (Nat.le_of_ble_eq_true rfl)
  rw [lg_entry_eq]
  generalize (lg_sl ([.ref (ad 45), .int p0, .int p1]) ++ List.replicate (4 - (lg_sl ([.ref (ad 45), .int p0, .int p1])).length) Slot.unset).toArray = ls at hl ⊢
  have hl : lv_has ls 4 [(0, .ref (ad 45)), (1, .int p0), (2, .int p1)] := hl
  unfold f_X4_known at hf
  refine lv_aload_n hx hb dX4_known_0 rfl (lv_at hl 0 rfl) ?_
  refine lv_iload_n hx hb dX4_known_1 rfl (lv_at hl 2 rfl) ?_
  rcases tb_el hf with ⟨x3, g2, hf⟩ | ⟨u1, g2, hf⟩
  · try dsimp only at hf
    obtain rfl := Sum.inl.inj (Option.some.inj hf)
    exact xt_prop (vx_runV (As := [.int p1]) (rest := []) ⟨hx, hb, hml, hown, hts⟩ (X_X4_requireElement l hst D tys nw hn hnw hj htI htR (xr := x3) g2) (cwV 1 hts (gu_V mw_241 mw_242 mw_243 mw_222 mw_238) rfl rfl rfl (by decide +kernel) ⟨Nat.le_of_ble_eq_true rfl, Nat.le_of_ble_eq_true rfl⟩) (xt_preV hn hP hK hN hT hS (ci := 4) (k := 45) rfl (by decide) rfl) rfl rfl hl.1 rfl (lv_room (Nat.le_of_ble_eq_true rfl)) dX4_known_2 ⟨Nat.le_of_ble_eq_true rfl, Nat.le_of_ble_eq_true rfl⟩) hS hx0 hlocks
  try dsimp only at hf
  refine ct_call (va_runV (As := [.int p1]) (rest := []) ⟨hx, hb, hml, hown, hts⟩ (C_X4_requireElement l D tys nw hn hnw hj htI htR (res := u1) g2) (cwV 1 hts (gu_V mw_241 mw_242 mw_243 mw_222 mw_238) rfl rfl rfl (by decide +kernel) ⟨Nat.le_of_ble_eq_true rfl, Nat.le_of_ble_eq_true rfl⟩) (ct_preV hn hP hK hN (ci := 4) (k := 45) rfl (by decide) rfl) rfl rfl hl.1 rfl (lv_room (Nat.le_of_ble_eq_true rfl)) dX4_known_2 ⟨Nat.zero_le _, Nat.zero_le _⟩) hS (fun H locs hP hS => ?_)
  refine lv_iload_n hx hb dX4_known_5 rfl (lv_at hl 1 rfl) ?_
  refine lv_if_lt (tgt := 14) hx hb dX4_known_6 (by decide) (fun c4 => ?_) (fun c4 => ?_)
  · rw [if_pos c4] at hf
    obtain rfl := Sum.inl.inj (Option.some.inj hf)
    obtain ⟨sa, hsa⟩ := hT.1 (104, "no such what") (by decide)
    refine vx_throwS (own := RX4) (cls := "java/lang/IllegalArgumentException") (text := "no such what") (names := ["java/lang/RuntimeException", "java/lang/Exception"]) (ik := 30) (is := 104) (ic := 34) (sa := sa) (A := ww_A 46 ad) hx hb hst hown (by decide) (by decide) (hts (.classLink RX4 30 "java/lang/IllegalArgumentException") (BW_in mw_218)) (hts (.initialized "java/lang/IllegalArgumentException") (BW_in mw_219)) hsa (vx_hat (B := .castable "java/lang/IllegalArgumentException" "java/lang/IllegalArgumentException" :: x4_sup.map (fun X => .declares (Bundle.initS X))) (fun w h => hts w (BW_in (in_BWx0 w h))) (by decide +kernel) (xt_ng (hT.2.1.1 "java/lang/IllegalArgumentException" (by decide)) hT.2.1.2)) (by decide +kernel) hT.2.2.1 hT.2.2.2 hS (hl.1.trans hml.symm) dX4_known_14 dX4_known_17 dX4_known_18 dX4_known_20 dX4_known_23 (fun x h => (hx0 x h).elim) (by decide) (by decide) (by decide) (by decide) hlocks (fun t ha hz hk => xt_thrown hP hS hz hk) hS.2.2 (by decide) (by decide)
  · rw [if_neg c4] at hf
    refine lv_iload_n hx hb dX4_known_9 rfl (lv_at hl 1 rfl) ?_
    refine lv_iconst (v := 4) hx hb dX4_known_10 (by decide) ?_
    refine lv_icmp_le (tgt := 24) hx hb dX4_known_11 (by decide) (fun c5 => ?_) (fun c5 => ?_)
    · rw [if_pos c5] at hf
      refine lv_aload_n hx hb dX4_known_24 rfl (lv_at hl 0 rfl) ?_
      refine va_get (ci := 4) (v := .ref (ad 41)) (C := RX4) (T := TX4) (N := 3) hx hb hts (fun w h => BW_in (in_wsX40 w h)) hown hK hP 45 cc_main rfl 1 (by decide) (hts (.fieldLink RX4 19 "NumberFieldFactors" "ring" "LNumberFieldFactors$Ring;") (BW_in mw_208)) (fun _ h9 => h9) rfl dX4_known_25 ?_
      refine va_getN (ci := 1) (v := .ref (ad 40)) (C := RX1) (T := TX1) (N := 11) (host := "NumberFieldFactors") hx hb hts (fun w h => BW_in (in_wsX10 w h)) hown hK hP 41 cc_ring rfl 0 (by decide) (va_Nw.use rfl (hN (.fieldLinkNest RX4 37 "NumberFieldFactors$Ring" "extension" "LNumberFieldFactors$Extension;" "NumberFieldFactors") (hnw _ (by decide +kernel)))) (fun _ h9 => h9) rfl dX4_known_28 ?_
      refine lv_astore_n (lv' := [(3, .ref (ad 40)), (0, .ref (ad 45)), (1, .int p0), (2, .int p1)]) hx hb dX4_known_31 rfl hl (by decide) rfl (fun ls hl => ?_)
      refine lv_iload_n hx hb dX4_known_32 rfl (lv_at hl 2 rfl) ?_
      by_cases c6 : p0 = 0
      · rw [if_pos c6] at hf
        refine lv_tableIn (off := 31) (tgt := 64) hx hb dX4_known_33 (by rw [c6]; decide) (by rw [c6]; decide) (by rw [c6]; rfl) (by decide) ?_
        refine lv_aload_n hx hb dX4_known_64 rfl (lv_at hl 0 rfl) ?_
        refine lv_iload_n hx hb dX4_known_65 rfl (lv_at hl 3 rfl) ?_
        obtain ⟨u7, g8, hf⟩ := Option.bind_eq_some_iff.mp hf
        try dsimp only at hf
        refine ct_call (va_runV (As := [.int p1]) (rest := []) ⟨hx, hb, hml, hown, hts⟩ (C_X0_isSquare l D tys nw hn hnw hj htI htR (res := u7) g8) (cwV 1 hts (gu_V mw_255 mw_256 mw_257 mw_18 mw_33) rfl rfl rfl (by decide +kernel) ⟨Nat.le_of_ble_eq_true rfl, Nat.le_of_ble_eq_true rfl⟩) (ct_preV hn hP hK hN (ci := 0) (k := 40) rfl (by decide) rfl) rfl rfl hl.1 rfl (lv_room (Nat.le_of_ble_eq_true rfl)) dX4_known_66 ⟨Nat.zero_le _, Nat.zero_le _⟩) hS (fun H locs hP hS => ?_)
        refine lv_if_eq (tgt := 76) hx hb dX4_known_69 (by decide) (fun c9 => ?_) (fun c9 => ?_)
        · rw [if_pos c9] at hf
          refine lv_iconst (v := 0) hx hb dX4_known_76 (by decide) ?_
          cases hf
        · rw [if_neg c9] at hf
          refine lv_iconst (v := 1) hx hb dX4_known_72 (by decide) ?_
          refine lv_goto (tgt := 77) hx hb dX4_known_73 (by decide) ?_
          cases hf
      rw [if_neg c6] at hf
      by_cases c10 : p0 = 1
      · rw [if_pos c10] at hf
        refine lv_tableIn (off := 45) (tgt := 78) hx hb dX4_known_33 (by rw [c10]; decide) (by rw [c10]; decide) (by rw [c10]; rfl) (by decide) ?_
        refine lv_aload_n hx hb dX4_known_78 rfl (lv_at hl 0 rfl) ?_
        refine lv_iload_n hx hb dX4_known_79 rfl (lv_at hl 3 rfl) ?_
        obtain ⟨u11, g12, hf⟩ := Option.bind_eq_some_iff.mp hf
        try dsimp only at hf
        refine ct_call (va_runV (As := [.int p1]) (rest := []) ⟨hx, hb, hml, hown, hts⟩ (C_X0_matesProduct l D tys nw hn hnw hj htI htR (res := u11) g12) (cwV 1 hts (gu_V mw_258 mw_259 mw_260 mw_18 mw_34) rfl rfl rfl (by decide +kernel) ⟨Nat.le_of_ble_eq_true rfl, Nat.le_of_ble_eq_true rfl⟩) (ct_preV hn hP hK hN (ci := 0) (k := 40) rfl (by decide) rfl) rfl rfl hl.1 rfl (lv_room (Nat.le_of_ble_eq_true rfl)) dX4_known_80 ⟨Nat.zero_le _, Nat.zero_le _⟩) hS (fun H locs hP hS => ?_)
        cases hf
      rw [if_neg c10] at hf
      by_cases c13 : p0 = 2
      · rw [if_pos c13] at hf
        refine lv_tableIn (off := 51) (tgt := 84) hx hb dX4_known_33 (by rw [c13]; decide) (by rw [c13]; decide) (by rw [c13]; rfl) (by decide) ?_
        refine lv_aload_n hx hb dX4_known_84 rfl (lv_at hl 0 rfl) ?_
        refine lv_iload_n hx hb dX4_known_85 rfl (lv_at hl 3 rfl) ?_
        obtain ⟨u14, g15, hf⟩ := Option.bind_eq_some_iff.mp hf
        try dsimp only at hf
        refine ct_call (va_runV (As := [.int p1]) (rest := []) ⟨hx, hb, hml, hown, hts⟩ (C_X0_matesSum l D tys nw hn hnw hj htI htR (res := u14) g15) (cwV 1 hts (gu_V mw_261 mw_262 mw_263 mw_18 mw_38) rfl rfl rfl (by decide +kernel) ⟨Nat.le_of_ble_eq_true rfl, Nat.le_of_ble_eq_true rfl⟩) (ct_preV hn hP hK hN (ci := 0) (k := 40) rfl (by decide) rfl) rfl rfl hl.1 rfl (lv_room (Nat.le_of_ble_eq_true rfl)) dX4_known_86 ⟨Nat.zero_le _, Nat.zero_le _⟩) hS (fun H locs hP hS => ?_)
        cases hf
      rw [if_neg c13] at hf
      by_cases c16 : p0 = 3
      · rw [if_pos c16] at hf
        refine lv_tableIn (off := 57) (tgt := 90) hx hb dX4_known_33 (by rw [c16]; decide) (by rw [c16]; decide) (by rw [c16]; rfl) (by decide) ?_
        refine lv_aload_n hx hb dX4_known_90 rfl (lv_at hl 0 rfl) ?_
        refine lv_iload_n hx hb dX4_known_91 rfl (lv_at hl 3 rfl) ?_
        obtain ⟨u17, g18, hf⟩ := Option.bind_eq_some_iff.mp hf
        try dsimp only at hf
        refine ct_call (va_runV (As := [.int p1]) (rest := []) ⟨hx, hb, hml, hown, hts⟩ (C_X0_mate l D tys nw hn hnw hj htI htR (res := u17) g18) (cwV 1 hts (gu_V mw_264 mw_36 mw_37 mw_18 mw_29) rfl rfl rfl (by decide +kernel) ⟨Nat.le_of_ble_eq_true rfl, Nat.le_of_ble_eq_true rfl⟩) (ct_preV hn hP hK hN (ci := 0) (k := 40) rfl (by decide) rfl) rfl rfl hl.1 rfl (lv_room (Nat.le_of_ble_eq_true rfl)) dX4_known_92 ⟨Nat.zero_le _, Nat.zero_le _⟩) hS (fun H locs hP hS => ?_)
        cases hf
      rw [if_neg c16] at hf
      refine lv_tableOut (tgt := 96) hx hb dX4_known_33 (by have ec6 : (p0).toInt ≠ 0 := fun h => c6 (Int32.toInt_inj.mp (h.trans (by decide))); have ec10 : (p0).toInt ≠ 1 := fun h => c10 (Int32.toInt_inj.mp (h.trans (by decide))); have ec13 : (p0).toInt ≠ 2 := fun h => c13 (Int32.toInt_inj.mp (h.trans (by decide))); have ec16 : (p0).toInt ≠ 3 := fun h => c16 (Int32.toInt_inj.mp (h.trans (by decide))); omega) (by decide) ?_
      refine lv_aload_n hx hb dX4_known_96 rfl (lv_at hl 0 rfl) ?_
      refine lv_iload_n hx hb dX4_known_97 rfl (lv_at hl 3 rfl) ?_
      obtain ⟨u19, g20, hf⟩ := Option.bind_eq_some_iff.mp hf
      try dsimp only at hf
      refine ct_call (va_runV (As := [.int p1]) (rest := []) ⟨hx, hb, hml, hown, hts⟩ (C_X0_differentMates l D tys nw hn hnw hj htI htR (res := u19) g20) (cwV 1 hts (gu_V mw_265 mw_125 mw_126 mw_18 mw_39) rfl rfl rfl (by decide +kernel) ⟨Nat.le_of_ble_eq_true rfl, Nat.le_of_ble_eq_true rfl⟩) (ct_preV hn hP hK hN (ci := 0) (k := 40) rfl (by decide) rfl) rfl rfl hl.1 rfl (lv_room (Nat.le_of_ble_eq_true rfl)) dX4_known_98 ⟨Nat.zero_le _, Nat.zero_le _⟩) hS (fun H locs hP hS => ?_)
      cases hf
    · rw [if_neg c5] at hf
      obtain rfl := Sum.inl.inj (Option.some.inj hf)
      obtain ⟨sa, hsa⟩ := hT.1 (104, "no such what") (by decide)
      refine vx_throwS (own := RX4) (cls := "java/lang/IllegalArgumentException") (text := "no such what") (names := ["java/lang/RuntimeException", "java/lang/Exception"]) (ik := 30) (is := 104) (ic := 34) (sa := sa) (A := ww_A 46 ad) hx hb hst hown (by decide) (by decide) (hts (.classLink RX4 30 "java/lang/IllegalArgumentException") (BW_in mw_218)) (hts (.initialized "java/lang/IllegalArgumentException") (BW_in mw_219)) hsa (vx_hat (B := .castable "java/lang/IllegalArgumentException" "java/lang/IllegalArgumentException" :: x4_sup.map (fun X => .declares (Bundle.initS X))) (fun w h => hts w (BW_in (in_BWx0 w h))) (by decide +kernel) (xt_ng (hT.2.1.1 "java/lang/IllegalArgumentException" (by decide)) hT.2.1.2)) (by decide +kernel) hT.2.2.1 hT.2.2.2 hS (hl.1.trans hml.symm) dX4_known_14 dX4_known_17 dX4_known_18 dX4_known_20 dX4_known_23 (fun x h => (hx0 x h).elim) (by decide) (by decide) (by decide) (by decide) hlocks (fun t ha hz hk => xt_thrown hP hS hz hk) hS.2.2 (by decide) (by decide)
set_option maxHeartbeats 4000000 in
set_option maxRecDepth 100000 in
theorem X_X4_minimal (l : Launch) (hst : l.stackTraces = false) (D : va_G) (tys : List (ClassId × FieldType)) (nw : List Cond) (hn : nw.all nw_kind = true) (hnw : ∀ w ∈ nw0, w ∈ nw) {ad : Nat → Nat} (hj : ww_inj 46 ad) {cI : ClassId} {cR : ClassId} (htI : tys[0]? = some (cI, .int)) (htR : tys[1]? = some (cR, .object RX2)) {fu : Nat} {M : Fin 20 → Nat → Int32} {E : Nat → Int32} {P : Nat → Fin 20} {C : Nat → Int32} {N : Nat → Int32} {p0 : Int32} {p1 : Int32} {xr : String × (Fin 20 → Nat → Int32)} (hf : f_X4_minimal fu M E p0 p1 = some (.inl xr)) :
    vx_Met l yX4_minimal usX4_minimal ({ frames := 7, cells := 1, slots := 6, locals := 111 }) (va_Pc [.ref (ad 45), .int p0, .int p1] (ws_Bt D tys nw (ww_A 46 ad) (ww 46 ad (cellC cI cR ad M E P C N)))) (fun _ _ _ _ => False) (xt_Q D (ww 46 ad (cellC cI cR ad xr.2 E P C N)) (ww_A 46 ad) xr.1) 1 6 (ww_A 46 ad) := by
  refine vx_ofW (cc := cX4_minimal) (maxL := 3) (ret := (some .int)) (by decide) rfl ?_
  intro p e s m args below meth c s₁ B hml hx0 hv
  obtain ⟨rfl, ⟨hP, hK, hN⟩, hT⟩ := hv
  have hx := B.exec
  have hb := B.bytes
  have hr := B.returns
  have hts := atoms_spec (ws := usX4_minimal) B.pre
  have hown : s.vm.findClass RX4 = some m.cls := findClass_of_methodNamed B.named
  have hlocks := B.notSynchronized
  have hS : va_S (ww_A 46 ad) s.heap s.heap [] := va_S.rf
  have hl := lv_entry ([.ref (ad 45), .int p0, .int p1]) (n := 3) (Nat.le_of_ble_eq_true rfl)
  rw [lg_entry_eq]
  generalize (lg_sl ([.ref (ad 45), .int p0, .int p1]) ++ List.replicate (3 - (lg_sl ([.ref (ad 45), .int p0, .int p1])).length) Slot.unset).toArray = ls at hl ⊢
  have hl : lv_has ls 3 [(0, .ref (ad 45)), (1, .int p0), (2, .int p1)] := hl
  unfold f_X4_minimal at hf
  refine lv_iload_n hx hb dX4_minimal_0 rfl (lv_at hl 2 rfl) ?_
  refine lv_if_lt (tgt := 9) hx hb dX4_minimal_1 (by decide) (fun c1 => ?_) (fun c1 => ?_)
  · rw [if_pos c1] at hf
    obtain rfl := Sum.inl.inj (Option.some.inj hf)
    obtain ⟨sa, hsa⟩ := hT.1 (122, "a least polynomial has powers 0 .. 3") (by decide)
    refine vx_throwS (own := RX4) (cls := "java/lang/IndexOutOfBoundsException") (text := "a least polynomial has powers 0 .. 3") (names := ["java/lang/RuntimeException", "java/lang/Exception"]) (ik := 57) (is := 122) (ic := 61) (sa := sa) (A := ww_A 46 ad) hx hb hst hown (by decide) (by decide) (hts (.classLink RX4 57 "java/lang/IndexOutOfBoundsException") (BW_in mw_232)) (hts (.initialized "java/lang/IndexOutOfBoundsException") (BW_in mw_233)) hsa (vx_hat (B := .castable "java/lang/IndexOutOfBoundsException" "java/lang/IndexOutOfBoundsException" :: x4_sup.map (fun X => .declares (Bundle.initS X))) (fun w h => hts w (BW_in (in_BWx1 w h))) (by decide +kernel) (xt_ng (hT.2.1.1 "java/lang/IndexOutOfBoundsException" (by decide)) hT.2.1.2)) (by decide +kernel) hT.2.2.1 hT.2.2.2 hS (hl.1.trans hml.symm) dX4_minimal_9 dX4_minimal_12 dX4_minimal_13 dX4_minimal_15 dX4_minimal_18 (fun x h => (hx0 x h).elim) (by decide) (by decide) (by decide) (by decide) hlocks (fun t ha hz hk => xt_thrown hP hS hz hk) hS.2.2 (by decide) (by decide)
  · rw [if_neg c1] at hf
    refine lv_iload_n hx hb dX4_minimal_4 rfl (lv_at hl 2 rfl) ?_
    refine lv_iconst (v := 3) hx hb dX4_minimal_5 (by decide) ?_
    refine lv_icmp_le (tgt := 19) hx hb dX4_minimal_6 (by decide) (fun c2 => ?_) (fun c2 => ?_)
    · rw [if_pos c2] at hf
      refine lv_aload_n hx hb dX4_minimal_19 rfl (lv_at hl 0 rfl) ?_
      refine lv_iload_n hx hb dX4_minimal_20 rfl (lv_at hl 1 rfl) ?_
      rcases tb_el hf with ⟨x5, g4, hf⟩ | ⟨u3, g4, hf⟩
      · try dsimp only at hf
        obtain rfl := Sum.inl.inj (Option.some.inj hf)
        exact xt_prop (vx_runV (As := [.int p0]) (rest := []) ⟨hx, hb, hml, hown, hts⟩ (X_X4_requireElement l hst D tys nw hn hnw hj htI htR (xr := x5) g4) (cwV 1 hts (gu_V mw_241 mw_242 mw_243 mw_222 mw_238) rfl rfl rfl (by decide +kernel) ⟨Nat.le_of_ble_eq_true rfl, Nat.le_of_ble_eq_true rfl⟩) (xt_preV hn hP hK hN hT hS (ci := 4) (k := 45) rfl (by decide) rfl) rfl rfl hl.1 rfl (lv_room (Nat.le_of_ble_eq_true rfl)) dX4_minimal_21 ⟨Nat.le_of_ble_eq_true rfl, Nat.le_of_ble_eq_true rfl⟩) hS hx0 hlocks
      try dsimp only at hf
      refine ct_call (va_runV (As := [.int p0]) (rest := []) ⟨hx, hb, hml, hown, hts⟩ (C_X4_requireElement l D tys nw hn hnw hj htI htR (res := u3) g4) (cwV 1 hts (gu_V mw_241 mw_242 mw_243 mw_222 mw_238) rfl rfl rfl (by decide +kernel) ⟨Nat.le_of_ble_eq_true rfl, Nat.le_of_ble_eq_true rfl⟩) (ct_preV hn hP hK hN (ci := 4) (k := 45) rfl (by decide) rfl) rfl rfl hl.1 rfl (lv_room (Nat.le_of_ble_eq_true rfl)) dX4_minimal_21 ⟨Nat.zero_le _, Nat.zero_le _⟩) hS (fun H locs hP hS => ?_)
      refine lv_aload_n hx hb dX4_minimal_24 rfl (lv_at hl 0 rfl) ?_
      refine va_get (ci := 4) (v := .ref (ad 41)) (C := RX4) (T := TX4) (N := 3) hx hb hts (fun w h => BW_in (in_wsX40 w h)) hown hK hP 45 cc_main rfl 1 (by decide) (hts (.fieldLink RX4 19 "NumberFieldFactors" "ring" "LNumberFieldFactors$Ring;") (BW_in mw_208)) (fun _ h9 => h9) rfl dX4_minimal_25 ?_
      refine lv_iload_n hx hb dX4_minimal_28 rfl (lv_at hl 1 rfl) ?_
      obtain ⟨u6, g7, hf⟩ := Option.bind_eq_some_iff.mp hf
      try dsimp only at hf
      refine ct_call (va_runV (As := [.int p0]) (rest := []) ⟨hx, hb, hml, hown, hts⟩ (C_X1_leastPolynomial l D tys nw hn hnw hj htI htR (res := u6) g7) (cwV 1 hts (gu_V mw_267 mw_268 mw_269 mw_100 mw_127) rfl rfl rfl (by decide +kernel) ⟨Nat.le_of_ble_eq_true rfl, Nat.le_of_ble_eq_true rfl⟩) (ct_preV hn hP hK hN (ci := 1) (k := 41) rfl (by decide) rfl) rfl rfl hl.1 rfl (lv_room (Nat.le_of_ble_eq_true rfl)) dX4_minimal_29 ⟨Nat.zero_le _, Nat.zero_le _⟩) hS (fun H locs hP hS => ?_)
      refine lv_iload_n hx hb dX4_minimal_32 rfl (lv_at hl 2 rfl) ?_
      obtain ⟨u8, g9, hf⟩ := Option.bind_eq_some_iff.mp hf
      try dsimp only at hf
      refine ct_call (va_runV (As := [.int p1]) (rest := []) ⟨hx, hb, hml, hown, hts⟩ (C_X2_get l D tys nw hn hnw hj htI htR (res := u8) g9) (cwV 1 hts (gu_V mw_244 mw_72 mw_73 mw_50 mw_65) rfl rfl rfl (by decide +kernel) ⟨Nat.le_of_ble_eq_true rfl, Nat.le_of_ble_eq_true rfl⟩) (ct_preV hn hP hK hN (ci := 2) (k := (20 + (u6.1).val)) rfl (ra_lt u6.1) (cl_row u6.1)) rfl rfl hl.1 rfl (lv_room (Nat.le_of_ble_eq_true rfl)) dX4_minimal_33 ⟨Nat.zero_le _, Nat.zero_le _⟩) hS (fun H locs hP hS => ?_)
      cases hf
    · rw [if_neg c2] at hf
      obtain rfl := Sum.inl.inj (Option.some.inj hf)
      obtain ⟨sa, hsa⟩ := hT.1 (122, "a least polynomial has powers 0 .. 3") (by decide)
      refine vx_throwS (own := RX4) (cls := "java/lang/IndexOutOfBoundsException") (text := "a least polynomial has powers 0 .. 3") (names := ["java/lang/RuntimeException", "java/lang/Exception"]) (ik := 57) (is := 122) (ic := 61) (sa := sa) (A := ww_A 46 ad) hx hb hst hown (by decide) (by decide) (hts (.classLink RX4 57 "java/lang/IndexOutOfBoundsException") (BW_in mw_232)) (hts (.initialized "java/lang/IndexOutOfBoundsException") (BW_in mw_233)) hsa (vx_hat (B := .castable "java/lang/IndexOutOfBoundsException" "java/lang/IndexOutOfBoundsException" :: x4_sup.map (fun X => .declares (Bundle.initS X))) (fun w h => hts w (BW_in (in_BWx1 w h))) (by decide +kernel) (xt_ng (hT.2.1.1 "java/lang/IndexOutOfBoundsException" (by decide)) hT.2.1.2)) (by decide +kernel) hT.2.2.1 hT.2.2.2 hS (hl.1.trans hml.symm) dX4_minimal_9 dX4_minimal_12 dX4_minimal_13 dX4_minimal_15 dX4_minimal_18 (fun x h => (hx0 x h).elim) (by decide) (by decide) (by decide) (by decide) hlocks (fun t ha hz hk => xt_thrown hP hS hz hk) hS.2.2 (by decide) (by decide)
set_option maxHeartbeats 4000000 in
set_option maxRecDepth 100000 in
theorem X_X4_value (l : Launch) (hst : l.stackTraces = false) (D : va_G) (tys : List (ClassId × FieldType)) (nw : List Cond) (hn : nw.all nw_kind = true) (hnw : ∀ w ∈ nw0, w ∈ nw) {ad : Nat → Nat} (hj : ww_inj 46 ad) {cI : ClassId} {cR : ClassId} (htI : tys[0]? = some (cI, .int)) (htR : tys[1]? = some (cR, .object RX2)) {fu : Nat} {M : Fin 20 → Nat → Int32} {E : Nat → Int32} {P : Nat → Fin 20} {C : Nat → Int32} {N : Nat → Int32} {p0 : Int32} {xr : String} (hf : f_X4_value fu M E p0 = some (.inl xr)) :
    vx_Met l yX4_value usX4_value ({ frames := 7, cells := 1, slots := 6, locals := 111 }) (va_Pc [.ref (ad 45), .int p0] (ws_Bt D tys nw (ww_A 46 ad) (ww 46 ad (cellC cI cR ad M E P C N)))) (fun _ _ _ _ => False) (xt_Q D (ww 46 ad (cellC cI cR ad M E P C N)) (ww_A 46 ad) xr) 1 6 (ww_A 46 ad) := by
  refine vx_ofW (cc := cX4_value) (maxL := 2) (ret := (some .int)) (by decide) rfl ?_
  intro p e s m args below meth c s₁ B hml hx0 hv
  obtain ⟨rfl, ⟨hP, hK, hN⟩, hT⟩ := hv
  have hx := B.exec
  have hb := B.bytes
  have hr := B.returns
  have hts := atoms_spec (ws := usX4_value) B.pre
  have hown : s.vm.findClass RX4 = some m.cls := findClass_of_methodNamed B.named
  have hlocks := B.notSynchronized
  have hS : va_S (ww_A 46 ad) s.heap s.heap [] := va_S.rf
  have hl := lv_entry ([.ref (ad 45), .int p0]) (n := 2) (Nat.le_of_ble_eq_true rfl)
  rw [lg_entry_eq]
  generalize (lg_sl ([.ref (ad 45), .int p0]) ++ List.replicate (2 - (lg_sl ([.ref (ad 45), .int p0])).length) Slot.unset).toArray = ls at hl ⊢
  have hl : lv_has ls 2 [(0, .ref (ad 45)), (1, .int p0)] := hl
  unfold f_X4_value at hf
  refine lv_aload_n hx hb dX4_value_0 rfl (lv_at hl 0 rfl) ?_
  refine lv_iload_n hx hb dX4_value_1 rfl (lv_at hl 1 rfl) ?_
  rcases tb_el hf with ⟨x3, g2, hf⟩ | ⟨u1, g2, hf⟩
  · try dsimp only at hf
    obtain rfl := Sum.inl.inj (Option.some.inj hf)
    exact xt_prop (vx_runV (As := [.int p0]) (rest := []) ⟨hx, hb, hml, hown, hts⟩ (X_X4_requireElement l hst D tys nw hn hnw hj htI htR (xr := x3) g2) (cwV 1 hts (gu_V mw_241 mw_242 mw_243 mw_222 mw_238) rfl rfl rfl (by decide +kernel) ⟨Nat.le_of_ble_eq_true rfl, Nat.le_of_ble_eq_true rfl⟩) (xt_preV hn hP hK hN hT hS (ci := 4) (k := 45) rfl (by decide) rfl) rfl rfl hl.1 rfl (lv_room (Nat.le_of_ble_eq_true rfl)) dX4_value_2 ⟨Nat.le_of_ble_eq_true rfl, Nat.le_of_ble_eq_true rfl⟩) hS hx0 hlocks
  try dsimp only at hf
  refine ct_call (va_runV (As := [.int p0]) (rest := []) ⟨hx, hb, hml, hown, hts⟩ (C_X4_requireElement l D tys nw hn hnw hj htI htR (res := u1) g2) (cwV 1 hts (gu_V mw_241 mw_242 mw_243 mw_222 mw_238) rfl rfl rfl (by decide +kernel) ⟨Nat.le_of_ble_eq_true rfl, Nat.le_of_ble_eq_true rfl⟩) (ct_preV hn hP hK hN (ci := 4) (k := 45) rfl (by decide) rfl) rfl rfl hl.1 rfl (lv_room (Nat.le_of_ble_eq_true rfl)) dX4_value_2 ⟨Nat.zero_le _, Nat.zero_le _⟩) hS (fun H locs hP hS => ?_)
  refine lv_aload_n hx hb dX4_value_5 rfl (lv_at hl 0 rfl) ?_
  refine va_get (ci := 4) (v := .ref (ad 41)) (C := RX4) (T := TX4) (N := 3) hx hb hts (fun w h => BW_in (in_wsX40 w h)) hown hK hP 45 cc_main rfl 1 (by decide) (hts (.fieldLink RX4 19 "NumberFieldFactors" "ring" "LNumberFieldFactors$Ring;") (BW_in mw_208)) (fun _ h9 => h9) rfl dX4_value_6 ?_
  refine lv_aload_n hx hb dX4_value_9 rfl (lv_at hl 0 rfl) ?_
  refine va_get (ci := 4) (v := .ref (ra ad (0 : Fin 20))) (C := RX4) (T := TX4) (N := 3) hx hb hts (fun w h => BW_in (in_wsX40 w h)) hown hK hP 45 cc_main rfl 0 (by decide) (hts (.fieldLink RX4 10 "NumberFieldFactors" "f" "LNumberFieldFactors$Row;") (BW_in mw_205)) (fun _ h9 => h9) rfl dX4_value_10 ?_
  refine lv_iload_n hx hb dX4_value_13 rfl (lv_at hl 1 rfl) ?_
  obtain ⟨u4, g5, hf⟩ := Option.bind_eq_some_iff.mp hf
  try dsimp only at hf
  refine ct_call (va_runV (As := [.ref (ra ad (0 : Fin 20)), .int p0]) (rest := []) ⟨hx, hb, hml, hown, hts⟩ (C_X1_valueOf l D tys nw hn hnw hj htI htR (res := u4) g5) (cwV 2 hts (gu_V mw_271 mw_272 mw_273 mw_100 mw_66) rfl rfl rfl (by decide +kernel) ⟨Nat.le_of_ble_eq_true rfl, Nat.le_of_ble_eq_true rfl⟩) (ct_preV hn hP hK hN (ci := 1) (k := 41) rfl (by decide) rfl) rfl rfl hl.1 rfl (lv_room (Nat.le_of_ble_eq_true rfl)) dX4_value_14 ⟨Nat.zero_le _, Nat.zero_le _⟩) hS (fun H locs hP hS => ?_)
  cases hf
set_option maxHeartbeats 4000000 in
set_option maxRecDepth 100000 in
theorem X_X4_shift (l : Launch) (hst : l.stackTraces = false) (D : va_G) (tys : List (ClassId × FieldType)) (nw : List Cond) (hn : nw.all nw_kind = true) (hnw : ∀ w ∈ nw0, w ∈ nw) {ad : Nat → Nat} (hj : ww_inj 46 ad) {cI : ClassId} {cR : ClassId} (htI : tys[0]? = some (cI, .int)) (htR : tys[1]? = some (cR, .object RX2)) {fu : Nat} {M : Fin 20 → Nat → Int32} {E : Nat → Int32} {P : Nat → Fin 20} {C : Nat → Int32} {N : Nat → Int32} {xr : String × (Fin 20 → Nat → Int32) × (Nat → Fin 20) × (Nat → Int32) × (Nat → Int32)} (hf : f_X4_shift fu M E P C N = some (.inl xr)) :
    vx_Met l yX4_shift usX4_shift ({ frames := 7, cells := 1, slots := 6, locals := 167 }) (va_Pc [.ref (ad 45)] (ws_Bt D tys nw (ww_A 46 ad) (ww 46 ad (cellC cI cR ad M E P C N)))) (fun _ _ _ _ => False) (xt_Q D (ww 46 ad (cellC cI cR ad xr.2.1 E xr.2.2.1 xr.2.2.2.1 xr.2.2.2.2)) (ww_A 46 ad) xr.1) 1 6 (ww_A 46 ad) := by
  refine vx_ofW (cc := cX4_shift) (maxL := 1) (ret := (some .int)) (by decide) rfl ?_
  intro p e s m args below meth c s₁ B hml hx0 hv
  obtain ⟨rfl, ⟨hP, hK, hN⟩, hT⟩ := hv
  have hx := B.exec
  have hb := B.bytes
  have hr := B.returns
  have hts := atoms_spec (ws := usX4_shift) B.pre
  have hown : s.vm.findClass RX4 = some m.cls := findClass_of_methodNamed B.named
  have hlocks := B.notSynchronized
  have hS : va_S (ww_A 46 ad) s.heap s.heap [] := va_S.rf
  have hl := lv_entry ([.ref (ad 45)]) (n := 1) (Nat.le_of_ble_eq_true rfl)
  rw [lg_entry_eq]
  generalize (lg_sl ([.ref (ad 45)]) ++ List.replicate (1 - (lg_sl ([.ref (ad 45)])).length) Slot.unset).toArray = ls at hl ⊢
  have hl : lv_has ls 1 [(0, .ref (ad 45))] := hl
  unfold f_X4_shift at hf
  refine lv_aload_n hx hb dX4_shift_0 rfl (lv_at hl 0 rfl) ?_
  rcases tb_el hf with ⟨x3, g2, hf⟩ | ⟨u1, g2, hf⟩
  · try dsimp only at hf
    obtain rfl := Sum.inl.inj (Option.some.inj hf)
    exact xt_prop (vx_runV (As := []) (rest := []) ⟨hx, hb, hml, hown, hts⟩ (X_X4_requireSome l hst D tys nw hn hnw hj htI htR (xr := x3) g2) (cwV 0 hts (gu_V mw_281 mw_282 mw_283 mw_222 mw_277) rfl rfl rfl (by decide +kernel) ⟨Nat.le_of_ble_eq_true rfl, Nat.le_of_ble_eq_true rfl⟩) (xt_preV hn hP hK hN hT hS (ci := 4) (k := 45) rfl (by decide) rfl) rfl rfl hl.1 rfl (lv_room (Nat.le_of_ble_eq_true rfl)) dX4_shift_1 ⟨Nat.le_of_ble_eq_true rfl, Nat.le_of_ble_eq_true rfl⟩) hS hx0 hlocks
  try dsimp only at hf
  refine ct_call (va_runV (As := []) (rest := []) ⟨hx, hb, hml, hown, hts⟩ (C_X4_requireSome l D tys nw hn hnw hj htI htR (res := u1) g2) (cwV 0 hts (gu_V mw_281 mw_282 mw_283 mw_222 mw_277) rfl rfl rfl (by decide +kernel) ⟨Nat.le_of_ble_eq_true rfl, Nat.le_of_ble_eq_true rfl⟩) (ct_preV hn hP hK hN (ci := 4) (k := 45) rfl (by decide) rfl) rfl rfl hl.1 rfl (lv_room (Nat.le_of_ble_eq_true rfl)) dX4_shift_1 ⟨Nat.zero_le _, Nat.zero_le _⟩) hS (fun H locs hP hS => ?_)
  refine lv_aload_n hx hb dX4_shift_4 rfl (lv_at hl 0 rfl) ?_
  refine va_get (ci := 4) (v := .ref (ad 42)) (C := RX4) (T := TX4) (N := 3) hx hb hts (fun w h => BW_in (in_wsX40 w h)) hown hK hP 45 cc_main rfl 2 (by decide) (hts (.fieldLink RX4 26 "NumberFieldFactors" "splitter" "LNumberFieldFactors$Splitter;") (BW_in mw_211)) (fun _ h9 => h9) rfl dX4_shift_5 ?_
  refine lv_aload_n hx hb dX4_shift_8 rfl (lv_at hl 0 rfl) ?_
  refine va_get (ci := 4) (v := .ref (ad 41)) (C := RX4) (T := TX4) (N := 3) hx hb hts (fun w h => BW_in (in_wsX40 w h)) hown hK hP 45 cc_main rfl 1 (by decide) (hts (.fieldLink RX4 19 "NumberFieldFactors" "ring" "LNumberFieldFactors$Ring;") (BW_in mw_208)) (fun _ h9 => h9) rfl dX4_shift_9 ?_
  refine lv_aload_n hx hb dX4_shift_12 rfl (lv_at hl 0 rfl) ?_
  refine va_get (ci := 4) (v := .ref (ra ad (0 : Fin 20))) (C := RX4) (T := TX4) (N := 3) hx hb hts (fun w h => BW_in (in_wsX40 w h)) hown hK hP 45 cc_main rfl 0 (by decide) (hts (.fieldLink RX4 10 "NumberFieldFactors" "f" "LNumberFieldFactors$Row;") (BW_in mw_205)) (fun _ h9 => h9) rfl dX4_shift_13 ?_
  obtain ⟨u4, g5, hf⟩ := Option.bind_eq_some_iff.mp hf
  try dsimp only at hf
  refine ct_call (va_runV (As := [.ref (ad 41), .ref (ra ad (0 : Fin 20))]) (rest := []) ⟨hx, hb, hml, hown, hts⟩ (C_X3_find l D tys nw hn hnw hj htI htR (res := u4) g5) (cwV 2 hts (gu_V mw_284 mw_285 mw_286 mw_158 mw_202) rfl rfl rfl (by decide +kernel) ⟨Nat.le_of_ble_eq_true rfl, Nat.le_of_ble_eq_true rfl⟩) (ct_preV hn hP hK hN (ci := 3) (k := 42) rfl (by decide) rfl) rfl rfl hl.1 rfl (lv_room (Nat.le_of_ble_eq_true rfl)) dX4_shift_16 ⟨Nat.zero_le _, Nat.zero_le _⟩) hS (fun H locs hP hS => ?_)
  refine lv_aload_n hx hb dX4_shift_19 rfl (lv_at hl 0 rfl) ?_
  refine va_get (ci := 4) (v := .ref (ad 41)) (C := RX4) (T := TX4) (N := 3) hx hb hts (fun w h => BW_in (in_wsX40 w h)) hown hK hP 45 cc_main rfl 1 (by decide) (hts (.fieldLink RX4 19 "NumberFieldFactors" "ring" "LNumberFieldFactors$Ring;") (BW_in mw_208)) (fun _ h9 => h9) rfl dX4_shift_20 ?_
  refine lv_aload_n hx hb dX4_shift_23 rfl (lv_at hl 0 rfl) ?_
  refine va_get (ci := 4) (v := .ref (ad 42)) (C := RX4) (T := TX4) (N := 3) hx hb hts (fun w h => BW_in (in_wsX40 w h)) hown hK hP 45 cc_main rfl 2 (by decide) (hts (.fieldLink RX4 26 "NumberFieldFactors" "splitter" "LNumberFieldFactors$Splitter;") (BW_in mw_211)) (fun _ h9 => h9) rfl dX4_shift_24 ?_
  refine va_getN (ci := 3) (v := .ref (ra ad (11 : Fin 20))) (C := RX3) (T := TX3) (N := 8) (host := "NumberFieldFactors") hx hb hts (fun w h => BW_in (in_wsX30 w h)) hown hK hP 42 cc_spl rfl 4 (by decide) (va_Nw.use rfl (hN (.fieldLinkNest RX4 143 "NumberFieldFactors$Splitter" "root" "LNumberFieldFactors$Row;" "NumberFieldFactors") (hnw _ (by decide +kernel)))) (fun _ h9 => h9) rfl dX4_shift_27 ?_
  obtain ⟨u6, g7, hf⟩ := Option.bind_eq_some_iff.mp hf
  try dsimp only at hf
  refine ct_call (va_runV (As := [.ref (ra ad (11 : Fin 20))]) (rest := []) ⟨hx, hb, hml, hown, hts⟩ (C_X1_leastShift l D tys nw hn hnw hj htI htR (res := u6) g7) (cwV 1 hts (gu_V mw_287 mw_288 mw_289 mw_100 mw_137) rfl rfl rfl (by decide +kernel) ⟨Nat.le_of_ble_eq_true rfl, Nat.le_of_ble_eq_true rfl⟩) (ct_preV hn hP hK hN (ci := 1) (k := 41) rfl (by decide) rfl) rfl rfl hl.1 rfl (lv_room (Nat.le_of_ble_eq_true rfl)) dX4_shift_30 ⟨Nat.zero_le _, Nat.zero_le _⟩) hS (fun H locs hP hS => ?_)
  cases hf
set_option maxHeartbeats 4000000 in
set_option maxRecDepth 100000 in
theorem X_X4_factors (l : Launch) (hst : l.stackTraces = false) (D : va_G) (tys : List (ClassId × FieldType)) (nw : List Cond) (hn : nw.all nw_kind = true) (hnw : ∀ w ∈ nw0, w ∈ nw) {ad : Nat → Nat} (hj : ww_inj 46 ad) {cI : ClassId} {cR : ClassId} (htI : tys[0]? = some (cI, .int)) (htR : tys[1]? = some (cR, .object RX2)) {fu : Nat} {M : Fin 20 → Nat → Int32} {E : Nat → Int32} {P : Nat → Fin 20} {C : Nat → Int32} {N : Nat → Int32} {xr : String × (Fin 20 → Nat → Int32) × (Nat → Fin 20) × (Nat → Int32) × (Nat → Int32)} (hf : f_X4_factors fu M E P C N = some (.inl xr)) :
    vx_Met l yX4_factors usX4_factors ({ frames := 7, cells := 1, slots := 6, locals := 167 }) (va_Pc [.ref (ad 45)] (ws_Bt D tys nw (ww_A 46 ad) (ww 46 ad (cellC cI cR ad M E P C N)))) (fun _ _ _ _ => False) (xt_Q D (ww 46 ad (cellC cI cR ad xr.2.1 E xr.2.2.1 xr.2.2.2.1 xr.2.2.2.2)) (ww_A 46 ad) xr.1) 1 6 (ww_A 46 ad) := by
  refine vx_ofW (cc := cX4_factors) (maxL := 1) (ret := (some .int)) (by decide) rfl ?_
  intro p e s m args below meth c s₁ B hml hx0 hv
  obtain ⟨rfl, ⟨hP, hK, hN⟩, hT⟩ := hv
  have hx := B.exec
  have hb := B.bytes
  have hr := B.returns
  have hts := atoms_spec (ws := usX4_factors) B.pre
  have hown : s.vm.findClass RX4 = some m.cls := findClass_of_methodNamed B.named
  have hlocks := B.notSynchronized
  have hS : va_S (ww_A 46 ad) s.heap s.heap [] := va_S.rf
  have hl := lv_entry ([.ref (ad 45)]) (n := 1) (Nat.le_of_ble_eq_true rfl)
  rw [lg_entry_eq]
  generalize (lg_sl ([.ref (ad 45)]) ++ List.replicate (1 - (lg_sl ([.ref (ad 45)])).length) Slot.unset).toArray = ls at hl ⊢
  have hl : lv_has ls 1 [(0, .ref (ad 45))] := hl
  unfold f_X4_factors at hf
  refine lv_aload_n hx hb dX4_factors_0 rfl (lv_at hl 0 rfl) ?_
  rcases tb_el hf with ⟨x3, g2, hf⟩ | ⟨u1, g2, hf⟩
  · try dsimp only at hf
    obtain rfl := Sum.inl.inj (Option.some.inj hf)
    exact xt_prop (vx_runV (As := []) (rest := []) ⟨hx, hb, hml, hown, hts⟩ (X_X4_requireSome l hst D tys nw hn hnw hj htI htR (xr := x3) g2) (cwV 0 hts (gu_V mw_281 mw_282 mw_283 mw_222 mw_277) rfl rfl rfl (by decide +kernel) ⟨Nat.le_of_ble_eq_true rfl, Nat.le_of_ble_eq_true rfl⟩) (xt_preV hn hP hK hN hT hS (ci := 4) (k := 45) rfl (by decide) rfl) rfl rfl hl.1 rfl (lv_room (Nat.le_of_ble_eq_true rfl)) dX4_factors_1 ⟨Nat.le_of_ble_eq_true rfl, Nat.le_of_ble_eq_true rfl⟩) hS hx0 hlocks
  try dsimp only at hf
  refine ct_call (va_runV (As := []) (rest := []) ⟨hx, hb, hml, hown, hts⟩ (C_X4_requireSome l D tys nw hn hnw hj htI htR (res := u1) g2) (cwV 0 hts (gu_V mw_281 mw_282 mw_283 mw_222 mw_277) rfl rfl rfl (by decide +kernel) ⟨Nat.le_of_ble_eq_true rfl, Nat.le_of_ble_eq_true rfl⟩) (ct_preV hn hP hK hN (ci := 4) (k := 45) rfl (by decide) rfl) rfl rfl hl.1 rfl (lv_room (Nat.le_of_ble_eq_true rfl)) dX4_factors_1 ⟨Nat.zero_le _, Nat.zero_le _⟩) hS (fun H locs hP hS => ?_)
  refine lv_aload_n hx hb dX4_factors_4 rfl (lv_at hl 0 rfl) ?_
  refine va_get (ci := 4) (v := .ref (ad 42)) (C := RX4) (T := TX4) (N := 3) hx hb hts (fun w h => BW_in (in_wsX40 w h)) hown hK hP 45 cc_main rfl 2 (by decide) (hts (.fieldLink RX4 26 "NumberFieldFactors" "splitter" "LNumberFieldFactors$Splitter;") (BW_in mw_211)) (fun _ h9 => h9) rfl dX4_factors_5 ?_
  refine lv_aload_n hx hb dX4_factors_8 rfl (lv_at hl 0 rfl) ?_
  refine va_get (ci := 4) (v := .ref (ad 41)) (C := RX4) (T := TX4) (N := 3) hx hb hts (fun w h => BW_in (in_wsX40 w h)) hown hK hP 45 cc_main rfl 1 (by decide) (hts (.fieldLink RX4 19 "NumberFieldFactors" "ring" "LNumberFieldFactors$Ring;") (BW_in mw_208)) (fun _ h9 => h9) rfl dX4_factors_9 ?_
  refine lv_aload_n hx hb dX4_factors_12 rfl (lv_at hl 0 rfl) ?_
  refine va_get (ci := 4) (v := .ref (ra ad (0 : Fin 20))) (C := RX4) (T := TX4) (N := 3) hx hb hts (fun w h => BW_in (in_wsX40 w h)) hown hK hP 45 cc_main rfl 0 (by decide) (hts (.fieldLink RX4 10 "NumberFieldFactors" "f" "LNumberFieldFactors$Row;") (BW_in mw_205)) (fun _ h9 => h9) rfl dX4_factors_13 ?_
  obtain ⟨u4, g5, hf⟩ := Option.bind_eq_some_iff.mp hf
  try dsimp only at hf
  refine ct_call (va_runV (As := [.ref (ad 41), .ref (ra ad (0 : Fin 20))]) (rest := []) ⟨hx, hb, hml, hown, hts⟩ (C_X3_find l D tys nw hn hnw hj htI htR (res := u4) g5) (cwV 2 hts (gu_V mw_284 mw_285 mw_286 mw_158 mw_202) rfl rfl rfl (by decide +kernel) ⟨Nat.le_of_ble_eq_true rfl, Nat.le_of_ble_eq_true rfl⟩) (ct_preV hn hP hK hN (ci := 3) (k := 42) rfl (by decide) rfl) rfl rfl hl.1 rfl (lv_room (Nat.le_of_ble_eq_true rfl)) dX4_factors_16 ⟨Nat.zero_le _, Nat.zero_le _⟩) hS (fun H locs hP hS => ?_)
  refine lv_aload_n hx hb dX4_factors_19 rfl (lv_at hl 0 rfl) ?_
  refine va_get (ci := 4) (v := .ref (ad 42)) (C := RX4) (T := TX4) (N := 3) hx hb hts (fun w h => BW_in (in_wsX40 w h)) hown hK hP 45 cc_main rfl 2 (by decide) (hts (.fieldLink RX4 26 "NumberFieldFactors" "splitter" "LNumberFieldFactors$Splitter;") (BW_in mw_211)) (fun _ h9 => h9) rfl dX4_factors_20 ?_
  refine va_getN (ci := 3) (v := .int (u4.2.2.2 0)) (C := RX3) (T := TX3) (N := 8) (host := "NumberFieldFactors") hx hb hts (fun w h => BW_in (in_wsX30 w h)) hown hK hP 42 cc_spl rfl 2 (by decide) (va_Nw.use rfl (hN (.fieldLinkNest RX4 150 "NumberFieldFactors$Splitter" "count" "I" "NumberFieldFactors") (hnw _ (by decide +kernel)))) (fun _ h9 => h9) rfl dX4_factors_23 ?_
  cases hf
set_option maxHeartbeats 4000000 in
set_option maxRecDepth 100000 in
theorem X_X4_factor (l : Launch) (hst : l.stackTraces = false) (D : va_G) (tys : List (ClassId × FieldType)) (nw : List Cond) (hn : nw.all nw_kind = true) (hnw : ∀ w ∈ nw0, w ∈ nw) {ad : Nat → Nat} (hj : ww_inj 46 ad) {cI : ClassId} {cR : ClassId} (htI : tys[0]? = some (cI, .int)) (htR : tys[1]? = some (cR, .object RX2)) {fu : Nat} {M : Fin 20 → Nat → Int32} {E : Nat → Int32} {P : Nat → Fin 20} {C : Nat → Int32} {N : Nat → Int32} {p0 : Int32} {p1 : Int32} {xr : String × (Fin 20 → Nat → Int32) × (Nat → Fin 20) × (Nat → Int32) × (Nat → Int32)} (hf : f_X4_factor fu M E P C N p0 p1 = some (.inl xr)) :
    vx_Met l yX4_factor usX4_factor ({ frames := 7, cells := 1, slots := 6, locals := 167 }) (va_Pc [.ref (ad 45), .int p0, .int p1] (ws_Bt D tys nw (ww_A 46 ad) (ww 46 ad (cellC cI cR ad M E P C N)))) (fun _ _ _ _ => False) (xt_Q D (ww 46 ad (cellC cI cR ad xr.2.1 E xr.2.2.1 xr.2.2.2.1 xr.2.2.2.2)) (ww_A 46 ad) xr.1) 1 6 (ww_A 46 ad) := by
  refine vx_ofW (cc := cX4_factor) (maxL := 3) (ret := (some .int)) (by decide) rfl ?_
  intro p e s m args below meth c s₁ B hml hx0 hv
  obtain ⟨rfl, ⟨hP, hK, hN⟩, hT⟩ := hv
  have hx := B.exec
  have hb := B.bytes
  have hr := B.returns
  have hts := atoms_spec (ws := usX4_factor) B.pre
  have hown : s.vm.findClass RX4 = some m.cls := findClass_of_methodNamed B.named
  have hlocks := B.notSynchronized
  have hS : va_S (ww_A 46 ad) s.heap s.heap [] := va_S.rf
  have hl := lv_entry ([.ref (ad 45), .int p0, .int p1]) (n := 3) (Nat.le_of_ble_eq_true rfl)
  rw [lg_entry_eq]
  generalize (lg_sl ([.ref (ad 45), .int p0, .int p1]) ++ List.replicate (3 - (lg_sl ([.ref (ad 45), .int p0, .int p1])).length) Slot.unset).toArray = ls at hl ⊢
  have hl : lv_has ls 3 [(0, .ref (ad 45)), (1, .int p0), (2, .int p1)] := hl
  unfold f_X4_factor at hf
  refine lv_aload_n hx hb dX4_factor_0 rfl (lv_at hl 0 rfl) ?_
  rcases tb_el hf with ⟨x3, g2, hf⟩ | ⟨u1, g2, hf⟩
  · try dsimp only at hf
    obtain rfl := Sum.inl.inj (Option.some.inj hf)
    exact xt_prop (vx_runV (As := []) (rest := []) ⟨hx, hb, hml, hown, hts⟩ (X_X4_requireSome l hst D tys nw hn hnw hj htI htR (xr := x3) g2) (cwV 0 hts (gu_V mw_281 mw_282 mw_283 mw_222 mw_277) rfl rfl rfl (by decide +kernel) ⟨Nat.le_of_ble_eq_true rfl, Nat.le_of_ble_eq_true rfl⟩) (xt_preV hn hP hK hN hT hS (ci := 4) (k := 45) rfl (by decide) rfl) rfl rfl hl.1 rfl (lv_room (Nat.le_of_ble_eq_true rfl)) dX4_factor_1 ⟨Nat.le_of_ble_eq_true rfl, Nat.le_of_ble_eq_true rfl⟩) hS hx0 hlocks
  try dsimp only at hf
  refine ct_call (va_runV (As := []) (rest := []) ⟨hx, hb, hml, hown, hts⟩ (C_X4_requireSome l D tys nw hn hnw hj htI htR (res := u1) g2) (cwV 0 hts (gu_V mw_281 mw_282 mw_283 mw_222 mw_277) rfl rfl rfl (by decide +kernel) ⟨Nat.le_of_ble_eq_true rfl, Nat.le_of_ble_eq_true rfl⟩) (ct_preV hn hP hK hN (ci := 4) (k := 45) rfl (by decide) rfl) rfl rfl hl.1 rfl (lv_room (Nat.le_of_ble_eq_true rfl)) dX4_factor_1 ⟨Nat.zero_le _, Nat.zero_le _⟩) hS (fun H locs hP hS => ?_)
  refine lv_iload_n hx hb dX4_factor_4 rfl (lv_at hl 2 rfl) ?_
  rcases tb_el hf with ⟨x6, g5, hf⟩ | ⟨u4, g5, hf⟩
  · try dsimp only at hf
    obtain rfl := Sum.inl.inj (Option.some.inj hf)
    exact xt_prop (vx_runS (As := [.int p1]) (rest := []) ⟨hx, hb, hml, hown, hts⟩ (X_X4_requirePower l hst D tys nw hn hnw hj htI htR (xr := x6) g5) (cwS 1 hts (gu_S mw_239 mw_240 mw_222 mw_237) rfl rfl rfl (by decide +kernel) ⟨Nat.le_of_ble_eq_true rfl, Nat.le_of_ble_eq_true rfl⟩) (xt_pre hn hP hK hN hT hS) rfl rfl hl.1 rfl (lv_room (Nat.le_of_ble_eq_true rfl)) dX4_factor_5 ⟨Nat.le_of_ble_eq_true rfl, Nat.le_of_ble_eq_true rfl⟩) hS hx0 hlocks
  try dsimp only at hf
  refine ct_call (va_runS (As := [.int p1]) (rest := []) ⟨hx, hb, hml, hown, hts⟩ (C_X4_requirePower l D tys nw hn hnw hj htI htR (res := u4) g5) (cwS 1 hts (gu_S mw_239 mw_240 mw_222 mw_237) rfl rfl rfl (by decide +kernel) ⟨Nat.le_of_ble_eq_true rfl, Nat.le_of_ble_eq_true rfl⟩) (ct_preS hn hP hK hN) rfl rfl hl.1 rfl (lv_room (Nat.le_of_ble_eq_true rfl)) dX4_factor_5 ⟨Nat.zero_le _, Nat.zero_le _⟩) hS (fun H locs hP hS => ?_)
  refine lv_aload_n hx hb dX4_factor_8 rfl (lv_at hl 0 rfl) ?_
  refine va_get (ci := 4) (v := .ref (ad 42)) (C := RX4) (T := TX4) (N := 3) hx hb hts (fun w h => BW_in (in_wsX40 w h)) hown hK hP 45 cc_main rfl 2 (by decide) (hts (.fieldLink RX4 26 "NumberFieldFactors" "splitter" "LNumberFieldFactors$Splitter;") (BW_in mw_211)) (fun _ h9 => h9) rfl dX4_factor_9 ?_
  refine lv_aload_n hx hb dX4_factor_12 rfl (lv_at hl 0 rfl) ?_
  refine va_get (ci := 4) (v := .ref (ad 41)) (C := RX4) (T := TX4) (N := 3) hx hb hts (fun w h => BW_in (in_wsX40 w h)) hown hK hP 45 cc_main rfl 1 (by decide) (hts (.fieldLink RX4 19 "NumberFieldFactors" "ring" "LNumberFieldFactors$Ring;") (BW_in mw_208)) (fun _ h9 => h9) rfl dX4_factor_13 ?_
  refine lv_aload_n hx hb dX4_factor_16 rfl (lv_at hl 0 rfl) ?_
  refine va_get (ci := 4) (v := .ref (ra ad (0 : Fin 20))) (C := RX4) (T := TX4) (N := 3) hx hb hts (fun w h => BW_in (in_wsX40 w h)) hown hK hP 45 cc_main rfl 0 (by decide) (hts (.fieldLink RX4 10 "NumberFieldFactors" "f" "LNumberFieldFactors$Row;") (BW_in mw_205)) (fun _ h9 => h9) rfl dX4_factor_17 ?_
  obtain ⟨u7, g8, hf⟩ := Option.bind_eq_some_iff.mp hf
  try dsimp only at hf
  refine ct_call (va_runV (As := [.ref (ad 41), .ref (ra ad (0 : Fin 20))]) (rest := []) ⟨hx, hb, hml, hown, hts⟩ (C_X3_find l D tys nw hn hnw hj htI htR (res := u7) g8) (cwV 2 hts (gu_V mw_284 mw_285 mw_286 mw_158 mw_202) rfl rfl rfl (by decide +kernel) ⟨Nat.le_of_ble_eq_true rfl, Nat.le_of_ble_eq_true rfl⟩) (ct_preV hn hP hK hN (ci := 3) (k := 42) rfl (by decide) rfl) rfl rfl hl.1 rfl (lv_room (Nat.le_of_ble_eq_true rfl)) dX4_factor_20 ⟨Nat.zero_le _, Nat.zero_le _⟩) hS (fun H locs hP hS => ?_)
  refine lv_aload_n hx hb dX4_factor_23 rfl (lv_at hl 0 rfl) ?_
  refine lv_iload_n hx hb dX4_factor_24 rfl (lv_at hl 1 rfl) ?_
  rcases tb_el hf with ⟨x11, g10, hf⟩ | ⟨u9, g10, hf⟩
  · try dsimp only at hf
    obtain rfl := Sum.inl.inj (Option.some.inj hf)
    exact xt_prop (vx_runV (As := [.int p0]) (rest := []) ⟨hx, hb, hml, hown, hts⟩ (X_X4_requireFactor l hst D tys nw hn hnw hj htI htR (xr := x11) g10) (cwV 1 hts (gu_V mw_293 mw_294 mw_295 mw_222 mw_292) rfl rfl rfl (by decide +kernel) ⟨Nat.le_of_ble_eq_true rfl, Nat.le_of_ble_eq_true rfl⟩) (xt_preV hn hP hK hN hT hS (ci := 4) (k := 45) rfl (by decide) rfl) rfl rfl hl.1 rfl (lv_room (Nat.le_of_ble_eq_true rfl)) dX4_factor_25 ⟨Nat.le_of_ble_eq_true rfl, Nat.le_of_ble_eq_true rfl⟩) hS hx0 hlocks
  try dsimp only at hf
  refine ct_call (va_runV (As := [.int p0]) (rest := []) ⟨hx, hb, hml, hown, hts⟩ (C_X4_requireFactor l D tys nw hn hnw hj htI htR (res := u9) g10) (cwV 1 hts (gu_V mw_293 mw_294 mw_295 mw_222 mw_292) rfl rfl rfl (by decide +kernel) ⟨Nat.le_of_ble_eq_true rfl, Nat.le_of_ble_eq_true rfl⟩) (ct_preV hn hP hK hN (ci := 4) (k := 45) rfl (by decide) rfl) rfl rfl hl.1 rfl (lv_room (Nat.le_of_ble_eq_true rfl)) dX4_factor_25 ⟨Nat.zero_le _, Nat.zero_le _⟩) hS (fun H locs hP hS => ?_)
  refine lv_aload_n hx hb dX4_factor_28 rfl (lv_at hl 0 rfl) ?_
  refine va_get (ci := 4) (v := .ref (ad 42)) (C := RX4) (T := TX4) (N := 3) hx hb hts (fun w h => BW_in (in_wsX40 w h)) hown hK hP 45 cc_main rfl 2 (by decide) (hts (.fieldLink RX4 26 "NumberFieldFactors" "splitter" "LNumberFieldFactors$Splitter;") (BW_in mw_211)) (fun _ h9 => h9) rfl dX4_factor_29 ?_
  refine lv_iload_n hx hb dX4_factor_32 rfl (lv_at hl 1 rfl) ?_
  obtain ⟨u12, g13, hf⟩ := Option.bind_eq_some_iff.mp hf
  try dsimp only at hf
  refine ct_call (va_runV (As := [.int p0]) (rest := []) ⟨hx, hb, hml, hown, hts⟩ (C_X3_part l D tys nw hn hnw hj htI htR (res := u12) g13) (cwV 1 hts (gu_V mw_296 mw_156 mw_157 mw_158 mw_152) rfl rfl rfl (by decide +kernel) ⟨Nat.le_of_ble_eq_true rfl, Nat.le_of_ble_eq_true rfl⟩) (ct_preV hn hP hK hN (ci := 3) (k := 42) rfl (by decide) rfl) rfl rfl hl.1 rfl (lv_room (Nat.le_of_ble_eq_true rfl)) dX4_factor_33 ⟨Nat.zero_le _, Nat.zero_le _⟩) hS (fun H locs hP hS => ?_)
  refine lv_iload_n hx hb dX4_factor_36 rfl (lv_at hl 2 rfl) ?_
  obtain ⟨u14, g15, hf⟩ := Option.bind_eq_some_iff.mp hf
  try dsimp only at hf
  refine ct_call (va_runV (As := [.int p1]) (rest := []) ⟨hx, hb, hml, hown, hts⟩ (C_X2_get l D tys nw hn hnw hj htI htR (res := u14) g15) (cwV 1 hts (gu_V mw_244 mw_72 mw_73 mw_50 mw_65) rfl rfl rfl (by decide +kernel) ⟨Nat.le_of_ble_eq_true rfl, Nat.le_of_ble_eq_true rfl⟩) (ct_preV hn hP hK hN (ci := 2) (k := (20 + (u12).val)) rfl (ra_lt u12) (cl_row u12)) rfl rfl hl.1 rfl (lv_room (Nat.le_of_ble_eq_true rfl)) dX4_factor_37 ⟨Nat.zero_le _, Nat.zero_le _⟩) hS (fun H locs hP hS => ?_)
  cases hf
set_option maxHeartbeats 4000000 in
set_option maxRecDepth 100000 in
theorem X_X4_often (l : Launch) (hst : l.stackTraces = false) (D : va_G) (tys : List (ClassId × FieldType)) (nw : List Cond) (hn : nw.all nw_kind = true) (hnw : ∀ w ∈ nw0, w ∈ nw) {ad : Nat → Nat} (hj : ww_inj 46 ad) {cI : ClassId} {cR : ClassId} (htI : tys[0]? = some (cI, .int)) (htR : tys[1]? = some (cR, .object RX2)) {fu : Nat} {M : Fin 20 → Nat → Int32} {E : Nat → Int32} {P : Nat → Fin 20} {C : Nat → Int32} {N : Nat → Int32} {p0 : Int32} {xr : String × (Fin 20 → Nat → Int32) × (Nat → Fin 20) × (Nat → Int32) × (Nat → Int32)} (hf : f_X4_often fu M E P C N p0 = some (.inl xr)) :
    vx_Met l yX4_often usX4_often ({ frames := 7, cells := 1, slots := 6, locals := 167 }) (va_Pc [.ref (ad 45), .int p0] (ws_Bt D tys nw (ww_A 46 ad) (ww 46 ad (cellC cI cR ad M E P C N)))) (fun _ _ _ _ => False) (xt_Q D (ww 46 ad (cellC cI cR ad xr.2.1 E xr.2.2.1 xr.2.2.2.1 xr.2.2.2.2)) (ww_A 46 ad) xr.1) 1 6 (ww_A 46 ad) := by
  refine vx_ofW (cc := cX4_often) (maxL := 2) (ret := (some .int)) (by decide) rfl ?_
  intro p e s m args below meth c s₁ B hml hx0 hv
  obtain ⟨rfl, ⟨hP, hK, hN⟩, hT⟩ := hv
  have hx := B.exec
  have hb := B.bytes
  have hr := B.returns
  have hts := atoms_spec (ws := usX4_often) B.pre
  have hown : s.vm.findClass RX4 = some m.cls := findClass_of_methodNamed B.named
  have hlocks := B.notSynchronized
  have hS : va_S (ww_A 46 ad) s.heap s.heap [] := va_S.rf
  have hl := lv_entry ([.ref (ad 45), .int p0]) (n := 2) (Nat.le_of_ble_eq_true rfl)
  rw [lg_entry_eq]
  generalize (lg_sl ([.ref (ad 45), .int p0]) ++ List.replicate (2 - (lg_sl ([.ref (ad 45), .int p0])).length) Slot.unset).toArray = ls at hl ⊢
  have hl : lv_has ls 2 [(0, .ref (ad 45)), (1, .int p0)] := hl
  unfold f_X4_often at hf
  refine lv_aload_n hx hb dX4_often_0 rfl (lv_at hl 0 rfl) ?_
  rcases tb_el hf with ⟨x3, g2, hf⟩ | ⟨u1, g2, hf⟩
  · try dsimp only at hf
    obtain rfl := Sum.inl.inj (Option.some.inj hf)
    exact xt_prop (vx_runV (As := []) (rest := []) ⟨hx, hb, hml, hown, hts⟩ (X_X4_requireSome l hst D tys nw hn hnw hj htI htR (xr := x3) g2) (cwV 0 hts (gu_V mw_281 mw_282 mw_283 mw_222 mw_277) rfl rfl rfl (by decide +kernel) ⟨Nat.le_of_ble_eq_true rfl, Nat.le_of_ble_eq_true rfl⟩) (xt_preV hn hP hK hN hT hS (ci := 4) (k := 45) rfl (by decide) rfl) rfl rfl hl.1 rfl (lv_room (Nat.le_of_ble_eq_true rfl)) dX4_often_1 ⟨Nat.le_of_ble_eq_true rfl, Nat.le_of_ble_eq_true rfl⟩) hS hx0 hlocks
  try dsimp only at hf
  refine ct_call (va_runV (As := []) (rest := []) ⟨hx, hb, hml, hown, hts⟩ (C_X4_requireSome l D tys nw hn hnw hj htI htR (res := u1) g2) (cwV 0 hts (gu_V mw_281 mw_282 mw_283 mw_222 mw_277) rfl rfl rfl (by decide +kernel) ⟨Nat.le_of_ble_eq_true rfl, Nat.le_of_ble_eq_true rfl⟩) (ct_preV hn hP hK hN (ci := 4) (k := 45) rfl (by decide) rfl) rfl rfl hl.1 rfl (lv_room (Nat.le_of_ble_eq_true rfl)) dX4_often_1 ⟨Nat.zero_le _, Nat.zero_le _⟩) hS (fun H locs hP hS => ?_)
  refine lv_aload_n hx hb dX4_often_4 rfl (lv_at hl 0 rfl) ?_
  refine va_get (ci := 4) (v := .ref (ad 42)) (C := RX4) (T := TX4) (N := 3) hx hb hts (fun w h => BW_in (in_wsX40 w h)) hown hK hP 45 cc_main rfl 2 (by decide) (hts (.fieldLink RX4 26 "NumberFieldFactors" "splitter" "LNumberFieldFactors$Splitter;") (BW_in mw_211)) (fun _ h9 => h9) rfl dX4_often_5 ?_
  refine lv_aload_n hx hb dX4_often_8 rfl (lv_at hl 0 rfl) ?_
  refine va_get (ci := 4) (v := .ref (ad 41)) (C := RX4) (T := TX4) (N := 3) hx hb hts (fun w h => BW_in (in_wsX40 w h)) hown hK hP 45 cc_main rfl 1 (by decide) (hts (.fieldLink RX4 19 "NumberFieldFactors" "ring" "LNumberFieldFactors$Ring;") (BW_in mw_208)) (fun _ h9 => h9) rfl dX4_often_9 ?_
  refine lv_aload_n hx hb dX4_often_12 rfl (lv_at hl 0 rfl) ?_
  refine va_get (ci := 4) (v := .ref (ra ad (0 : Fin 20))) (C := RX4) (T := TX4) (N := 3) hx hb hts (fun w h => BW_in (in_wsX40 w h)) hown hK hP 45 cc_main rfl 0 (by decide) (hts (.fieldLink RX4 10 "NumberFieldFactors" "f" "LNumberFieldFactors$Row;") (BW_in mw_205)) (fun _ h9 => h9) rfl dX4_often_13 ?_
  obtain ⟨u4, g5, hf⟩ := Option.bind_eq_some_iff.mp hf
  try dsimp only at hf
  refine ct_call (va_runV (As := [.ref (ad 41), .ref (ra ad (0 : Fin 20))]) (rest := []) ⟨hx, hb, hml, hown, hts⟩ (C_X3_find l D tys nw hn hnw hj htI htR (res := u4) g5) (cwV 2 hts (gu_V mw_284 mw_285 mw_286 mw_158 mw_202) rfl rfl rfl (by decide +kernel) ⟨Nat.le_of_ble_eq_true rfl, Nat.le_of_ble_eq_true rfl⟩) (ct_preV hn hP hK hN (ci := 3) (k := 42) rfl (by decide) rfl) rfl rfl hl.1 rfl (lv_room (Nat.le_of_ble_eq_true rfl)) dX4_often_16 ⟨Nat.zero_le _, Nat.zero_le _⟩) hS (fun H locs hP hS => ?_)
  refine lv_aload_n hx hb dX4_often_19 rfl (lv_at hl 0 rfl) ?_
  refine lv_iload_n hx hb dX4_often_20 rfl (lv_at hl 1 rfl) ?_
  rcases tb_el hf with ⟨x8, g7, hf⟩ | ⟨u6, g7, hf⟩
  · try dsimp only at hf
    obtain rfl := Sum.inl.inj (Option.some.inj hf)
    exact xt_prop (vx_runV (As := [.int p0]) (rest := []) ⟨hx, hb, hml, hown, hts⟩ (X_X4_requireFactor l hst D tys nw hn hnw hj htI htR (xr := x8) g7) (cwV 1 hts (gu_V mw_293 mw_294 mw_295 mw_222 mw_292) rfl rfl rfl (by decide +kernel) ⟨Nat.le_of_ble_eq_true rfl, Nat.le_of_ble_eq_true rfl⟩) (xt_preV hn hP hK hN hT hS (ci := 4) (k := 45) rfl (by decide) rfl) rfl rfl hl.1 rfl (lv_room (Nat.le_of_ble_eq_true rfl)) dX4_often_21 ⟨Nat.le_of_ble_eq_true rfl, Nat.le_of_ble_eq_true rfl⟩) hS hx0 hlocks
  try dsimp only at hf
  refine ct_call (va_runV (As := [.int p0]) (rest := []) ⟨hx, hb, hml, hown, hts⟩ (C_X4_requireFactor l D tys nw hn hnw hj htI htR (res := u6) g7) (cwV 1 hts (gu_V mw_293 mw_294 mw_295 mw_222 mw_292) rfl rfl rfl (by decide +kernel) ⟨Nat.le_of_ble_eq_true rfl, Nat.le_of_ble_eq_true rfl⟩) (ct_preV hn hP hK hN (ci := 4) (k := 45) rfl (by decide) rfl) rfl rfl hl.1 rfl (lv_room (Nat.le_of_ble_eq_true rfl)) dX4_often_21 ⟨Nat.zero_le _, Nat.zero_le _⟩) hS (fun H locs hP hS => ?_)
  refine lv_aload_n hx hb dX4_often_24 rfl (lv_at hl 0 rfl) ?_
  refine va_get (ci := 4) (v := .ref (ad 42)) (C := RX4) (T := TX4) (N := 3) hx hb hts (fun w h => BW_in (in_wsX40 w h)) hown hK hP 45 cc_main rfl 2 (by decide) (hts (.fieldLink RX4 26 "NumberFieldFactors" "splitter" "LNumberFieldFactors$Splitter;") (BW_in mw_211)) (fun _ h9 => h9) rfl dX4_often_25 ?_
  refine lv_iload_n hx hb dX4_often_28 rfl (lv_at hl 1 rfl) ?_
  obtain ⟨u9, g10, hf⟩ := Option.bind_eq_some_iff.mp hf
  try dsimp only at hf
  refine ct_call (va_runV (As := [.int p0]) (rest := []) ⟨hx, hb, hml, hown, hts⟩ (C_X3_timesOf l D tys nw hn hnw hj htI htR (res := u9) g10) (cwV 1 hts (gu_V mw_298 mw_299 mw_300 mw_158 mw_153) rfl rfl rfl (by decide +kernel) ⟨Nat.le_of_ble_eq_true rfl, Nat.le_of_ble_eq_true rfl⟩) (ct_preV hn hP hK hN (ci := 3) (k := 42) rfl (by decide) rfl) rfl rfl hl.1 rfl (lv_room (Nat.le_of_ble_eq_true rfl)) dX4_often_29 ⟨Nat.zero_le _, Nat.zero_le _⟩) hS (fun H locs hP hS => ?_)
  cases hf
set_option maxHeartbeats 4000000 in
set_option maxRecDepth 100000 in
theorem X_X4_splitting (l : Launch) (hst : l.stackTraces = false) (D : va_G) (tys : List (ClassId × FieldType)) (nw : List Cond) (hn : nw.all nw_kind = true) (hnw : ∀ w ∈ nw0, w ∈ nw) {ad : Nat → Nat} (hj : ww_inj 46 ad) {cI : ClassId} {cR : ClassId} (htI : tys[0]? = some (cI, .int)) (htR : tys[1]? = some (cR, .object RX2)) {fu : Nat} {M : Fin 20 → Nat → Int32} {E : Nat → Int32} {P : Nat → Fin 20} {C : Nat → Int32} {N : Nat → Int32} {xr : String × (Fin 20 → Nat → Int32) × (Nat → Fin 20) × (Nat → Int32) × (Nat → Int32)} (hf : f_X4_splitting fu M E P C N = some (.inl xr)) :
    vx_Met l yX4_splitting usX4_splitting ({ frames := 7, cells := 1, slots := 6, locals := 167 }) (va_Pc [.ref (ad 45)] (ws_Bt D tys nw (ww_A 46 ad) (ww 46 ad (cellC cI cR ad M E P C N)))) (fun _ _ _ _ => False) (xt_Q D (ww 46 ad (cellC cI cR ad xr.2.1 E xr.2.2.1 xr.2.2.2.1 xr.2.2.2.2)) (ww_A 46 ad) xr.1) 1 6 (ww_A 46 ad) := by
  refine vx_ofW (cc := cX4_splitting) (maxL := 1) (ret := (some .int)) (by decide) rfl ?_
  intro p e s m args below meth c s₁ B hml hx0 hv
  obtain ⟨rfl, ⟨hP, hK, hN⟩, hT⟩ := hv
  have hx := B.exec
  have hb := B.bytes
  have hr := B.returns
  have hts := atoms_spec (ws := usX4_splitting) B.pre
  have hown : s.vm.findClass RX4 = some m.cls := findClass_of_methodNamed B.named
  have hlocks := B.notSynchronized
  have hS : va_S (ww_A 46 ad) s.heap s.heap [] := va_S.rf
  have hl := lv_entry ([.ref (ad 45)]) (n := 1) (Nat.le_of_ble_eq_true rfl)
  rw [lg_entry_eq]
  generalize (lg_sl ([.ref (ad 45)]) ++ List.replicate (1 - (lg_sl ([.ref (ad 45)])).length) Slot.unset).toArray = ls at hl ⊢
  have hl : lv_has ls 1 [(0, .ref (ad 45))] := hl
  unfold f_X4_splitting at hf
  refine lv_aload_n hx hb dX4_splitting_0 rfl (lv_at hl 0 rfl) ?_
  rcases tb_el hf with ⟨x3, g2, hf⟩ | ⟨u1, g2, hf⟩
  · try dsimp only at hf
    obtain rfl := Sum.inl.inj (Option.some.inj hf)
    exact xt_prop (vx_runV (As := []) (rest := []) ⟨hx, hb, hml, hown, hts⟩ (X_X4_requireSome l hst D tys nw hn hnw hj htI htR (xr := x3) g2) (cwV 0 hts (gu_V mw_281 mw_282 mw_283 mw_222 mw_277) rfl rfl rfl (by decide +kernel) ⟨Nat.le_of_ble_eq_true rfl, Nat.le_of_ble_eq_true rfl⟩) (xt_preV hn hP hK hN hT hS (ci := 4) (k := 45) rfl (by decide) rfl) rfl rfl hl.1 rfl (lv_room (Nat.le_of_ble_eq_true rfl)) dX4_splitting_1 ⟨Nat.le_of_ble_eq_true rfl, Nat.le_of_ble_eq_true rfl⟩) hS hx0 hlocks
  try dsimp only at hf
  refine ct_call (va_runV (As := []) (rest := []) ⟨hx, hb, hml, hown, hts⟩ (C_X4_requireSome l D tys nw hn hnw hj htI htR (res := u1) g2) (cwV 0 hts (gu_V mw_281 mw_282 mw_283 mw_222 mw_277) rfl rfl rfl (by decide +kernel) ⟨Nat.le_of_ble_eq_true rfl, Nat.le_of_ble_eq_true rfl⟩) (ct_preV hn hP hK hN (ci := 4) (k := 45) rfl (by decide) rfl) rfl rfl hl.1 rfl (lv_room (Nat.le_of_ble_eq_true rfl)) dX4_splitting_1 ⟨Nat.zero_le _, Nat.zero_le _⟩) hS (fun H locs hP hS => ?_)
  refine lv_aload_n hx hb dX4_splitting_4 rfl (lv_at hl 0 rfl) ?_
  refine va_get (ci := 4) (v := .ref (ad 42)) (C := RX4) (T := TX4) (N := 3) hx hb hts (fun w h => BW_in (in_wsX40 w h)) hown hK hP 45 cc_main rfl 2 (by decide) (hts (.fieldLink RX4 26 "NumberFieldFactors" "splitter" "LNumberFieldFactors$Splitter;") (BW_in mw_211)) (fun _ h9 => h9) rfl dX4_splitting_5 ?_
  refine lv_aload_n hx hb dX4_splitting_8 rfl (lv_at hl 0 rfl) ?_
  refine va_get (ci := 4) (v := .ref (ad 41)) (C := RX4) (T := TX4) (N := 3) hx hb hts (fun w h => BW_in (in_wsX40 w h)) hown hK hP 45 cc_main rfl 1 (by decide) (hts (.fieldLink RX4 19 "NumberFieldFactors" "ring" "LNumberFieldFactors$Ring;") (BW_in mw_208)) (fun _ h9 => h9) rfl dX4_splitting_9 ?_
  refine lv_aload_n hx hb dX4_splitting_12 rfl (lv_at hl 0 rfl) ?_
  refine va_get (ci := 4) (v := .ref (ra ad (0 : Fin 20))) (C := RX4) (T := TX4) (N := 3) hx hb hts (fun w h => BW_in (in_wsX40 w h)) hown hK hP 45 cc_main rfl 0 (by decide) (hts (.fieldLink RX4 10 "NumberFieldFactors" "f" "LNumberFieldFactors$Row;") (BW_in mw_205)) (fun _ h9 => h9) rfl dX4_splitting_13 ?_
  obtain ⟨u4, g5, hf⟩ := Option.bind_eq_some_iff.mp hf
  try dsimp only at hf
  refine ct_call (va_runV (As := [.ref (ad 41), .ref (ra ad (0 : Fin 20))]) (rest := []) ⟨hx, hb, hml, hown, hts⟩ (C_X3_find l D tys nw hn hnw hj htI htR (res := u4) g5) (cwV 2 hts (gu_V mw_284 mw_285 mw_286 mw_158 mw_202) rfl rfl rfl (by decide +kernel) ⟨Nat.le_of_ble_eq_true rfl, Nat.le_of_ble_eq_true rfl⟩) (ct_preV hn hP hK hN (ci := 3) (k := 42) rfl (by decide) rfl) rfl rfl hl.1 rfl (lv_room (Nat.le_of_ble_eq_true rfl)) dX4_splitting_16 ⟨Nat.zero_le _, Nat.zero_le _⟩) hS (fun H locs hP hS => ?_)
  refine lv_aload_n hx hb dX4_splitting_19 rfl (lv_at hl 0 rfl) ?_
  refine va_get (ci := 4) (v := .ref (ad 42)) (C := RX4) (T := TX4) (N := 3) hx hb hts (fun w h => BW_in (in_wsX40 w h)) hown hK hP 45 cc_main rfl 2 (by decide) (hts (.fieldLink RX4 26 "NumberFieldFactors" "splitter" "LNumberFieldFactors$Splitter;") (BW_in mw_211)) (fun _ h9 => h9) rfl dX4_splitting_20 ?_
  obtain ⟨u6, g7, hf⟩ := Option.bind_eq_some_iff.mp hf
  try dsimp only at hf
  refine ct_call (va_runV (As := []) (rest := []) ⟨hx, hb, hml, hown, hts⟩ (C_X3_commonDegree l D tys nw hn hnw hj htI htR (res := u6) g7) (cwV 0 hts (gu_V mw_302 mw_303 mw_304 mw_158 mw_154) rfl rfl rfl (by decide +kernel) ⟨Nat.le_of_ble_eq_true rfl, Nat.le_of_ble_eq_true rfl⟩) (ct_preV hn hP hK hN (ci := 3) (k := 42) rfl (by decide) rfl) rfl rfl hl.1 rfl (lv_room (Nat.le_of_ble_eq_true rfl)) dX4_splitting_23 ⟨Nat.zero_le _, Nat.zero_le _⟩) hS (fun H locs hP hS => ?_)
  cases hf
set_option maxHeartbeats 4000000 in
set_option maxRecDepth 100000 in
theorem X_X4_move (l : Launch) (hst : l.stackTraces = false) (D : va_G) (tys : List (ClassId × FieldType)) (nw : List Cond) (hn : nw.all nw_kind = true) (hnw : ∀ w ∈ nw0, w ∈ nw) {ad : Nat → Nat} (hj : ww_inj 46 ad) {cI : ClassId} {cR : ClassId} (htI : tys[0]? = some (cI, .int)) (htR : tys[1]? = some (cR, .object RX2)) {fu : Nat} {M : Fin 20 → Nat → Int32} {E : Nat → Int32} {P : Nat → Fin 20} {C : Nat → Int32} {N : Nat → Int32} {p0 : Int32} {xr : String × (Fin 20 → Nat → Int32) × (Nat → Int32)} (hf : f_X4_move fu M E N p0 = some (.inl xr)) :
    vx_Met l yX4_move usX4_move ({ frames := 7, cells := 1, slots := 6, locals := 111 }) (va_Pc [.ref (ad 45), .int p0] (ws_Bt D tys nw (ww_A 46 ad) (ww 46 ad (cellC cI cR ad M E P C N)))) (fun _ _ _ _ => False) (xt_Q D (ww 46 ad (cellC cI cR ad xr.2.1 E P C xr.2.2)) (ww_A 46 ad) xr.1) 1 6 (ww_A 46 ad) := by
  refine vx_ofW (cc := cX4_move) (maxL := 2) (ret := none) (by decide) rfl ?_
  intro p e s m args below meth c s₁ B hml hx0 hv
  obtain ⟨rfl, ⟨hP, hK, hN⟩, hT⟩ := hv
  have hx := B.exec
  have hb := B.bytes
  have hr := B.returns
  have hts := atoms_spec (ws := usX4_move) B.pre
  have hown : s.vm.findClass RX4 = some m.cls := findClass_of_methodNamed B.named
  have hlocks := B.notSynchronized
  have hS : va_S (ww_A 46 ad) s.heap s.heap [] := va_S.rf
  have hl := lv_entry ([.ref (ad 45), .int p0]) (n := 2) (Nat.le_of_ble_eq_true rfl)
  rw [lg_entry_eq]
  generalize (lg_sl ([.ref (ad 45), .int p0]) ++ List.replicate (2 - (lg_sl ([.ref (ad 45), .int p0])).length) Slot.unset).toArray = ls at hl ⊢
  have hl : lv_has ls 2 [(0, .ref (ad 45)), (1, .int p0)] := hl
  unfold f_X4_move at hf
  refine lv_aload_n hx hb dX4_move_0 rfl (lv_at hl 0 rfl) ?_
  refine lv_iload_n hx hb dX4_move_1 rfl (lv_at hl 1 rfl) ?_
  rcases tb_el hf with ⟨x3, g2, hf⟩ | ⟨u1, g2, hf⟩
  · try dsimp only at hf
    obtain rfl := Sum.inl.inj (Option.some.inj hf)
    exact xt_prop (vx_runV (As := [.int p0]) (rest := []) ⟨hx, hb, hml, hown, hts⟩ (X_X4_requireElement l hst D tys nw hn hnw hj htI htR (xr := x3) g2) (cwV 1 hts (gu_V mw_241 mw_242 mw_243 mw_222 mw_238) rfl rfl rfl (by decide +kernel) ⟨Nat.le_of_ble_eq_true rfl, Nat.le_of_ble_eq_true rfl⟩) (xt_preV hn hP hK hN hT hS (ci := 4) (k := 45) rfl (by decide) rfl) rfl rfl hl.1 rfl (lv_room (Nat.le_of_ble_eq_true rfl)) dX4_move_2 ⟨Nat.le_of_ble_eq_true rfl, Nat.le_of_ble_eq_true rfl⟩) hS hx0 hlocks
  try dsimp only at hf
  refine ct_call (va_runV (As := [.int p0]) (rest := []) ⟨hx, hb, hml, hown, hts⟩ (C_X4_requireElement l D tys nw hn hnw hj htI htR (res := u1) g2) (cwV 1 hts (gu_V mw_241 mw_242 mw_243 mw_222 mw_238) rfl rfl rfl (by decide +kernel) ⟨Nat.le_of_ble_eq_true rfl, Nat.le_of_ble_eq_true rfl⟩) (ct_preV hn hP hK hN (ci := 4) (k := 45) rfl (by decide) rfl) rfl rfl hl.1 rfl (lv_room (Nat.le_of_ble_eq_true rfl)) dX4_move_2 ⟨Nat.zero_le _, Nat.zero_le _⟩) hS (fun H locs hP hS => ?_)
  refine lv_aload_n hx hb dX4_move_5 rfl (lv_at hl 0 rfl) ?_
  refine va_get (ci := 4) (v := .ref (ad 41)) (C := RX4) (T := TX4) (N := 3) hx hb hts (fun w h => BW_in (in_wsX40 w h)) hown hK hP 45 cc_main rfl 1 (by decide) (hts (.fieldLink RX4 19 "NumberFieldFactors" "ring" "LNumberFieldFactors$Ring;") (BW_in mw_208)) (fun _ h9 => h9) rfl dX4_move_6 ?_
  refine lv_aload_n hx hb dX4_move_9 rfl (lv_at hl 0 rfl) ?_
  refine va_get (ci := 4) (v := .ref (ra ad (0 : Fin 20))) (C := RX4) (T := TX4) (N := 3) hx hb hts (fun w h => BW_in (in_wsX40 w h)) hown hK hP 45 cc_main rfl 0 (by decide) (hts (.fieldLink RX4 10 "NumberFieldFactors" "f" "LNumberFieldFactors$Row;") (BW_in mw_205)) (fun _ h9 => h9) rfl dX4_move_10 ?_
  refine lv_iload_n hx hb dX4_move_13 rfl (lv_at hl 1 rfl) ?_
  obtain ⟨u4, g5, hf⟩ := Option.bind_eq_some_iff.mp hf
  try dsimp only at hf
  refine ct_call (va_runV (As := [.ref (ra ad (0 : Fin 20)), .int p0]) (rest := []) ⟨hx, hb, hml, hown, hts⟩ (C_X1_displace l D tys nw hn hnw hj htI htR (res := u4) g5) (cwV 2 hts (gu_V mw_306 mw_129 mw_130 mw_100 mw_79) rfl rfl rfl (by decide +kernel) ⟨Nat.le_of_ble_eq_true rfl, Nat.le_of_ble_eq_true rfl⟩) (ct_preV hn hP hK hN (ci := 1) (k := 41) rfl (by decide) rfl) rfl rfl hl.1 rfl (lv_room (Nat.le_of_ble_eq_true rfl)) dX4_move_14 ⟨Nat.zero_le _, Nat.zero_le _⟩) hS (fun H locs hP hS => ?_)
  refine lv_aload_n hx hb dX4_move_17 rfl (lv_at hl 0 rfl) ?_
  refine va_get (ci := 4) (v := .ref (ad 42)) (C := RX4) (T := TX4) (N := 3) hx hb hts (fun w h => BW_in (in_wsX40 w h)) hown hK hP 45 cc_main rfl 2 (by decide) (hts (.fieldLink RX4 26 "NumberFieldFactors" "splitter" "LNumberFieldFactors$Splitter;") (BW_in mw_211)) (fun _ h9 => h9) rfl dX4_move_18 ?_
  obtain ⟨u6, g7, hf⟩ := Option.bind_eq_some_iff.mp hf
  try dsimp only at hf
  refine ct_call (va_runV (As := []) (rest := []) ⟨hx, hb, hml, hown, hts⟩ (C_X3_forget l D tys nw hn hnw hj htI htR (res := u6) g7) (cwV 0 hts (gu_V mw_227 mw_228 mw_229 mw_158 mw_151) rfl rfl rfl (by decide +kernel) ⟨Nat.le_of_ble_eq_true rfl, Nat.le_of_ble_eq_true rfl⟩) (ct_preV hn hP hK hN (ci := 3) (k := 42) rfl (by decide) rfl) rfl rfl hl.1 rfl (lv_room (Nat.le_of_ble_eq_true rfl)) dX4_move_21 ⟨Nat.zero_le _, Nat.zero_le _⟩) hS (fun H locs hP hS => ?_)
  cases hf
set_option maxHeartbeats 4000000 in
set_option maxRecDepth 100000 in
theorem X_X4_take (l : Launch) (hst : l.stackTraces = false) (D : va_G) (tys : List (ClassId × FieldType)) (nw : List Cond) (hn : nw.all nw_kind = true) (hnw : ∀ w ∈ nw0, w ∈ nw) {ad : Nat → Nat} (hj : ww_inj 46 ad) {cI : ClassId} {cR : ClassId} (htI : tys[0]? = some (cI, .int)) (htR : tys[1]? = some (cR, .object RX2)) {fu : Nat} {M : Fin 20 → Nat → Int32} {E : Nat → Int32} {P : Nat → Fin 20} {C : Nat → Int32} {N : Nat → Int32} {p0 : Int32} {xr : String × (Fin 20 → Nat → Int32) × (Nat → Fin 20) × (Nat → Int32) × (Nat → Int32)} (hf : f_X4_take fu M E P C N p0 = some (.inl xr)) :
    vx_Met l yX4_take usX4_take ({ frames := 7, cells := 1, slots := 6, locals := 167 }) (va_Pc [.ref (ad 45), .int p0] (ws_Bt D tys nw (ww_A 46 ad) (ww 46 ad (cellC cI cR ad M E P C N)))) (fun _ _ _ _ => False) (xt_Q D (ww 46 ad (cellC cI cR ad xr.2.1 E xr.2.2.1 xr.2.2.2.1 xr.2.2.2.2)) (ww_A 46 ad) xr.1) 1 6 (ww_A 46 ad) := by
  refine vx_ofW (cc := cX4_take) (maxL := 2) (ret := none) (by decide) rfl ?_
  intro p e s m args below meth c s₁ B hml hx0 hv
  obtain ⟨rfl, ⟨hP, hK, hN⟩, hT⟩ := hv
  have hx := B.exec
  have hb := B.bytes
  have hr := B.returns
  have hts := atoms_spec (ws := usX4_take) B.pre
  have hown : s.vm.findClass RX4 = some m.cls := findClass_of_methodNamed B.named
  have hlocks := B.notSynchronized
  have hS : va_S (ww_A 46 ad) s.heap s.heap [] := va_S.rf
  have hl := lv_entry ([.ref (ad 45), .int p0]) (n := 2) (Nat.le_of_ble_eq_true rfl)
  rw [lg_entry_eq]
  generalize (lg_sl ([.ref (ad 45), .int p0]) ++ List.replicate (2 - (lg_sl ([.ref (ad 45), .int p0])).length) Slot.unset).toArray = ls at hl ⊢
  have hl : lv_has ls 2 [(0, .ref (ad 45)), (1, .int p0)] := hl
  unfold f_X4_take at hf
  refine lv_aload_n hx hb dX4_take_0 rfl (lv_at hl 0 rfl) ?_
  rcases tb_el hf with ⟨x3, g2, hf⟩ | ⟨u1, g2, hf⟩
  · try dsimp only at hf
    obtain rfl := Sum.inl.inj (Option.some.inj hf)
    exact xt_prop (vx_runV (As := []) (rest := []) ⟨hx, hb, hml, hown, hts⟩ (X_X4_requireSome l hst D tys nw hn hnw hj htI htR (xr := x3) g2) (cwV 0 hts (gu_V mw_281 mw_282 mw_283 mw_222 mw_277) rfl rfl rfl (by decide +kernel) ⟨Nat.le_of_ble_eq_true rfl, Nat.le_of_ble_eq_true rfl⟩) (xt_preV hn hP hK hN hT hS (ci := 4) (k := 45) rfl (by decide) rfl) rfl rfl hl.1 rfl (lv_room (Nat.le_of_ble_eq_true rfl)) dX4_take_1 ⟨Nat.le_of_ble_eq_true rfl, Nat.le_of_ble_eq_true rfl⟩) hS hx0 hlocks
  try dsimp only at hf
  refine ct_call (va_runV (As := []) (rest := []) ⟨hx, hb, hml, hown, hts⟩ (C_X4_requireSome l D tys nw hn hnw hj htI htR (res := u1) g2) (cwV 0 hts (gu_V mw_281 mw_282 mw_283 mw_222 mw_277) rfl rfl rfl (by decide +kernel) ⟨Nat.le_of_ble_eq_true rfl, Nat.le_of_ble_eq_true rfl⟩) (ct_preV hn hP hK hN (ci := 4) (k := 45) rfl (by decide) rfl) rfl rfl hl.1 rfl (lv_room (Nat.le_of_ble_eq_true rfl)) dX4_take_1 ⟨Nat.zero_le _, Nat.zero_le _⟩) hS (fun H locs hP hS => ?_)
  refine lv_aload_n hx hb dX4_take_4 rfl (lv_at hl 0 rfl) ?_
  refine va_get (ci := 4) (v := .ref (ad 42)) (C := RX4) (T := TX4) (N := 3) hx hb hts (fun w h => BW_in (in_wsX40 w h)) hown hK hP 45 cc_main rfl 2 (by decide) (hts (.fieldLink RX4 26 "NumberFieldFactors" "splitter" "LNumberFieldFactors$Splitter;") (BW_in mw_211)) (fun _ h9 => h9) rfl dX4_take_5 ?_
  refine lv_aload_n hx hb dX4_take_8 rfl (lv_at hl 0 rfl) ?_
  refine va_get (ci := 4) (v := .ref (ad 41)) (C := RX4) (T := TX4) (N := 3) hx hb hts (fun w h => BW_in (in_wsX40 w h)) hown hK hP 45 cc_main rfl 1 (by decide) (hts (.fieldLink RX4 19 "NumberFieldFactors" "ring" "LNumberFieldFactors$Ring;") (BW_in mw_208)) (fun _ h9 => h9) rfl dX4_take_9 ?_
  refine lv_aload_n hx hb dX4_take_12 rfl (lv_at hl 0 rfl) ?_
  refine va_get (ci := 4) (v := .ref (ra ad (0 : Fin 20))) (C := RX4) (T := TX4) (N := 3) hx hb hts (fun w h => BW_in (in_wsX40 w h)) hown hK hP 45 cc_main rfl 0 (by decide) (hts (.fieldLink RX4 10 "NumberFieldFactors" "f" "LNumberFieldFactors$Row;") (BW_in mw_205)) (fun _ h9 => h9) rfl dX4_take_13 ?_
  obtain ⟨u4, g5, hf⟩ := Option.bind_eq_some_iff.mp hf
  try dsimp only at hf
  refine ct_call (va_runV (As := [.ref (ad 41), .ref (ra ad (0 : Fin 20))]) (rest := []) ⟨hx, hb, hml, hown, hts⟩ (C_X3_find l D tys nw hn hnw hj htI htR (res := u4) g5) (cwV 2 hts (gu_V mw_284 mw_285 mw_286 mw_158 mw_202) rfl rfl rfl (by decide +kernel) ⟨Nat.le_of_ble_eq_true rfl, Nat.le_of_ble_eq_true rfl⟩) (ct_preV hn hP hK hN (ci := 3) (k := 42) rfl (by decide) rfl) rfl rfl hl.1 rfl (lv_room (Nat.le_of_ble_eq_true rfl)) dX4_take_16 ⟨Nat.zero_le _, Nat.zero_le _⟩) hS (fun H locs hP hS => ?_)
  refine lv_aload_n hx hb dX4_take_19 rfl (lv_at hl 0 rfl) ?_
  refine lv_iload_n hx hb dX4_take_20 rfl (lv_at hl 1 rfl) ?_
  rcases tb_el hf with ⟨x8, g7, hf⟩ | ⟨u6, g7, hf⟩
  · try dsimp only at hf
    obtain rfl := Sum.inl.inj (Option.some.inj hf)
    exact xt_prop (vx_runV (As := [.int p0]) (rest := []) ⟨hx, hb, hml, hown, hts⟩ (X_X4_requireFactor l hst D tys nw hn hnw hj htI htR (xr := x8) g7) (cwV 1 hts (gu_V mw_293 mw_294 mw_295 mw_222 mw_292) rfl rfl rfl (by decide +kernel) ⟨Nat.le_of_ble_eq_true rfl, Nat.le_of_ble_eq_true rfl⟩) (xt_preV hn hP hK hN hT hS (ci := 4) (k := 45) rfl (by decide) rfl) rfl rfl hl.1 rfl (lv_room (Nat.le_of_ble_eq_true rfl)) dX4_take_21 ⟨Nat.le_of_ble_eq_true rfl, Nat.le_of_ble_eq_true rfl⟩) hS hx0 hlocks
  try dsimp only at hf
  refine ct_call (va_runV (As := [.int p0]) (rest := []) ⟨hx, hb, hml, hown, hts⟩ (C_X4_requireFactor l D tys nw hn hnw hj htI htR (res := u6) g7) (cwV 1 hts (gu_V mw_293 mw_294 mw_295 mw_222 mw_292) rfl rfl rfl (by decide +kernel) ⟨Nat.le_of_ble_eq_true rfl, Nat.le_of_ble_eq_true rfl⟩) (ct_preV hn hP hK hN (ci := 4) (k := 45) rfl (by decide) rfl) rfl rfl hl.1 rfl (lv_room (Nat.le_of_ble_eq_true rfl)) dX4_take_21 ⟨Nat.zero_le _, Nat.zero_le _⟩) hS (fun H locs hP hS => ?_)
  refine lv_aload_n hx hb dX4_take_24 rfl (lv_at hl 0 rfl) ?_
  refine va_get (ci := 4) (v := .ref (ra ad (0 : Fin 20))) (C := RX4) (T := TX4) (N := 3) hx hb hts (fun w h => BW_in (in_wsX40 w h)) hown hK hP 45 cc_main rfl 0 (by decide) (hts (.fieldLink RX4 10 "NumberFieldFactors" "f" "LNumberFieldFactors$Row;") (BW_in mw_205)) (fun _ h9 => h9) rfl dX4_take_25 ?_
  refine lv_aload_n hx hb dX4_take_28 rfl (lv_at hl 0 rfl) ?_
  refine va_get (ci := 4) (v := .ref (ad 42)) (C := RX4) (T := TX4) (N := 3) hx hb hts (fun w h => BW_in (in_wsX40 w h)) hown hK hP 45 cc_main rfl 2 (by decide) (hts (.fieldLink RX4 26 "NumberFieldFactors" "splitter" "LNumberFieldFactors$Splitter;") (BW_in mw_211)) (fun _ h9 => h9) rfl dX4_take_29 ?_
  refine lv_iload_n hx hb dX4_take_32 rfl (lv_at hl 1 rfl) ?_
  obtain ⟨u9, g10, hf⟩ := Option.bind_eq_some_iff.mp hf
  try dsimp only at hf
  refine ct_call (va_runV (As := [.int p0]) (rest := [.ref (ra ad (0 : Fin 20))]) ⟨hx, hb, hml, hown, hts⟩ (C_X3_part l D tys nw hn hnw hj htI htR (res := u9) g10) (cwV 1 hts (gu_V mw_296 mw_156 mw_157 mw_158 mw_152) rfl rfl rfl (by decide +kernel) ⟨Nat.le_of_ble_eq_true rfl, Nat.le_of_ble_eq_true rfl⟩) (ct_preV hn hP hK hN (ci := 3) (k := 42) rfl (by decide) rfl) rfl rfl hl.1 rfl (lv_room (Nat.le_of_ble_eq_true rfl)) dX4_take_33 ⟨Nat.zero_le _, Nat.zero_le _⟩) hS (fun H locs hP hS => ?_)
  obtain ⟨u11, g12, hf⟩ := Option.bind_eq_some_iff.mp hf
  try dsimp only at hf
  refine ct_call (va_runV (As := [.ref (ra ad u9)]) (rest := []) ⟨hx, hb, hml, hown, hts⟩ (C_X2_copy l D tys nw hn hnw hj htI htR (res := u11) g12) (cwV 1 hts (gu_V mw_308 mw_87 mw_88 mw_50 mw_81) rfl rfl rfl (by decide +kernel) ⟨Nat.le_of_ble_eq_true rfl, Nat.le_of_ble_eq_true rfl⟩) (ct_preV hn hP hK hN (ci := 2) (k := (20 + ((0 : Fin 20)).val)) rfl (ra_lt (0 : Fin 20)) (cl_row (0 : Fin 20))) rfl rfl hl.1 rfl (lv_room (Nat.le_of_ble_eq_true rfl)) dX4_take_36 ⟨Nat.zero_le _, Nat.zero_le _⟩) hS (fun H locs hP hS => ?_)
  refine lv_aload_n hx hb dX4_take_39 rfl (lv_at hl 0 rfl) ?_
  refine va_get (ci := 4) (v := .ref (ad 42)) (C := RX4) (T := TX4) (N := 3) hx hb hts (fun w h => BW_in (in_wsX40 w h)) hown hK hP 45 cc_main rfl 2 (by decide) (hts (.fieldLink RX4 26 "NumberFieldFactors" "splitter" "LNumberFieldFactors$Splitter;") (BW_in mw_211)) (fun _ h9 => h9) rfl dX4_take_40 ?_
  obtain ⟨u13, g14, hf⟩ := Option.bind_eq_some_iff.mp hf
  try dsimp only at hf
  refine ct_call (va_runV (As := []) (rest := []) ⟨hx, hb, hml, hown, hts⟩ (C_X3_forget l D tys nw hn hnw hj htI htR (res := u13) g14) (cwV 0 hts (gu_V mw_227 mw_228 mw_229 mw_158 mw_151) rfl rfl rfl (by decide +kernel) ⟨Nat.le_of_ble_eq_true rfl, Nat.le_of_ble_eq_true rfl⟩) (ct_preV hn hP hK hN (ci := 3) (k := 42) rfl (by decide) rfl) rfl rfl hl.1 rfl (lv_room (Nat.le_of_ble_eq_true rfl)) dX4_take_43 ⟨Nat.zero_le _, Nat.zero_le _⟩) hS (fun H locs hP hS => ?_)
  cases hf
