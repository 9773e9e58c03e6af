def f_X5_thrown (th : Int32) : Option (Int32) :=
  some th
set_option maxHeartbeats 4000000 in
set_option maxRecDepth 100000 in
theorem C_X5_thrown (l : Launch) (D : va_G) (tys : List (ClassId × FieldType)) {ad : Nat → Nat} (hj : ww_inj 6 ad) {cI : ClassId} (htI : tys[0]? = some (cI, .int)) {th : Int32} {kk : Int32} {mn : Int64} {md : Nat → Int32} {rw : Nat → Int32} {dg : Nat → Int32} {kn : Int32} {fc : Int32} {oft : Nat → Int32} {res : Int32} (hf : f_X5_thrown th = some res) :
    Met l yX5_thrown usX5_thrown ({ frames := 0, cells := 0, slots := 0, locals := 0 }) (va_Pc [.ref (ad 0)] (ws_Bx D tys (fun di => ww 6 ad (cellR cI ad th kk mn md rw dg kn fc oft di)))) (ct_Qx D (fun di => ww 6 ad (cellR cI ad th kk mn md rw dg kn fc oft di)) (ww_A 6 ad) (some (.int res))) 0 0 (ww_A 6 ad) := by
  refine Met.ofW (cc := cX5_thrown) (maxL := 1) (ret := (some .int)) (by decide) rfl ?_
  intro p e s m args below meth c s₁ B hml hv
  obtain ⟨rfl, ⟨di, hP⟩, hK⟩ := hv
  have hx := B.exec
  have hb := B.bytes
  have hr := B.returns
  have hts := atoms_spec (ws := usX5_thrown) B.pre
  have hown : s.vm.findClass RX5 = some m.cls := findClass_of_methodNamed B.named
  have hlocks := B.notSynchronized
  have hS : va_S (ww_A 6 ad) s.heap s.heap [] := va_S.rf
  have hl := lv_entry ([.ref (ad 0)]) (n := 1) (Nat.le_of_ble_eq_true rfl)
  rw [lg_entry_eq]
  generalize (lg_sl ([.ref (ad 0)]) ++ List.replicate (1 - (lg_sl ([.ref (ad 0)])).length) Slot.unset).toArray = ls at hl ⊢
  have hl : lv_has ls 1 [(0, .ref (ad 0))] := hl
  unfold f_X5_thrown at hf
  refine lv_aload_n hx hb dX5_thrown_0 rfl (lv_at hl 0 rfl) ?_
  refine va_get (ci := 5) (v := .int th) (C := RX5) (T := TX5) (N := 10) hx hb hts (fun w h => BW_in (in_wsX50 w h)) hown hK hP 0 cr_mdl rfl 0 (by decide) (hts (.fieldLink RX5 35 "NumberFieldFactorsModel" "thrown" "I") (BW_in mw_321)) (fun _ h9 => h9) rfl dX5_thrown_1 ?_
  obtain rfl := Option.some.inj hf
  exact W.iret (v := th) hx hb hr (fun t ht hW => ⟨rfl, ⟨di, by rw [ht]; exact hP⟩, hS.F ht⟩) hS.2.2 dX5_thrown_4
def f_X5_fails (th : Int32) (p0 : Int32) (p1 : Int32) : Option (Int32 × (Int32)) :=
  ((
    if p0 = 0 then
      ((
        if p1 = 0 then
          some 0
        else
          some 2 : Option (Int32))).bind (fun w3 =>
      some w3)
    else
      some 1 : Option (Int32))).bind (fun w1 =>
  if w1 ≤ 0 then
    some (0, w1)
  else
    some (1, w1))
set_option maxHeartbeats 4000000 in
set_option maxRecDepth 100000 in
theorem C_X5_fails (l : Launch) (D : va_G) (tys : List (ClassId × FieldType)) {ad : Nat → Nat} (hj : ww_inj 6 ad) {cI : ClassId} (htI : tys[0]? = some (cI, .int)) {th : Int32} {kk : Int32} {mn : Int64} {md : Nat → Int32} {rw : Nat → Int32} {dg : Nat → Int32} {kn : Int32} {fc : Int32} {oft : Nat → Int32} {p0 : Int32} {p1 : Int32} {res : Int32 × (Int32)} (hf : f_X5_fails th p0 p1 = some res) :
    Met l yX5_fails usX5_fails ({ frames := 0, cells := 0, slots := 0, locals := 0 }) (va_Pc [.ref (ad 0), .int p0, .int p1] (ws_Bx D tys (fun di => ww 6 ad (cellR cI ad th kk mn md rw dg kn fc oft di)))) (ct_Qx D (fun di => ww 6 ad (cellR cI ad res.2 kk mn md rw dg kn fc oft di)) (ww_A 6 ad) (some (.int res.1))) 0 0 (ww_A 6 ad) := by
  refine Met.ofW (cc := cX5_fails) (maxL := 3) (ret := (some .boolean)) (by decide) rfl ?_
  intro p e s m args below meth c s₁ B hml hv
  obtain ⟨rfl, ⟨di, hP⟩, hK⟩ := hv
  have hx := B.exec
  have hb := B.bytes
  have hr := B.returns
  have hts := atoms_spec (ws := usX5_fails) B.pre
  have hown : s.vm.findClass RX5 = some m.cls := findClass_of_methodNamed B.named
  have hlocks := B.notSynchronized
  have hS : va_S (ww_A 6 ad) s.heap s.heap [] := va_S.rf
  have hl := lv_entry ([.ref (ad 0), .int p0, .int p1]) (n := 3) (Nat.le_of_ble_eq_true rfl)
  rw [lg_entry_eq]
  generalize (lg_sl ([.ref (ad 0), .int p0, .int p1]) ++ List.replicate (3 - (lg_sl ([.ref (ad 0), .int p0, .int p1])).length) Slot.unset).toArray = ls at hl ⊢
  have hl : lv_has ls 3 [(0, .ref (ad 0)), (1, .int p0), (2, .int p1)] := hl
  unfold f_X5_fails at hf
  refine lv_aload_n hx hb dX5_fails_0 rfl (lv_at hl 0 rfl) ?_
  refine lv_iload_n hx hb dX5_fails_1 rfl (lv_at hl 1 rfl) ?_
  obtain ⟨w1, gw1, hf⟩ := Option.bind_eq_some_iff.mp hf
  try dsimp only at hf
  have hJ18_w1 : ∀ (di : Nat → Int32) (H : Heap) (locs : List Loc) (ls : Array Slot), va_P D vwCl (ww 6 ad (cellR cI ad th kk mn md rw dg kn fc oft di)) H → va_S (ww_A 6 ad) s.heap H locs → lv_has ls 3 [(0, .ref (ad 0)), (1, .int p0), (2, .int p1)] → W p l e (headSpec usX5_fails { frames := 0, cells := 0, slots := 0, locals := 0 }).room s m [.ref (ad 0), .int p0, .int p1].toArray below meth c H locs 0 0 (MQ below (ct_Qx D (fun di => ww 6 ad (cellR cI ad res.2 kk mn md rw dg kn fc oft di)) (ww_A 6 ad) (some (.int res.1))) [.ref (ad 0), .int p0, .int p1].toArray s 0 0 (ww_A 6 ad)) (F0 m 18 ls [.int w1, .ref (ad 0)]) := by
    intro di H locs ls hP hS hl
    refine va_put (ci := 5) (v := .int w1) (ty := .int) (C := RX5) (T := TX5) (N := 10) hx hb hts (fun w h => BW_in (in_wsX50 w h)) tyX5 tyX5_ok nmX5 hown hK hP (ww_D hj) hS 0 cr_mdl rfl 0 (by decide) (hts (.fieldLink RX5 35 "NumberFieldFactorsModel" "thrown" "I") (BW_in mw_321)) (fun _ h9 => h9) rfl (by decide +kernel) rfl rfl (Nat.le_of_ble_eq_true rfl) dX5_fails_18 (fun H locs hP hD hS => ?_)
    have hP := cs_th hP
    refine lv_aload_n hx hb dX5_fails_21 rfl (lv_at hl 0 rfl) ?_
    refine va_get (ci := 5) (v := .int w1) (C := RX5) (T := TX5) (N := 10) hx hb hts (fun w h => BW_in (in_wsX50 w h)) hown hK hP 0 cr_mdl rfl 0 (by decide) (hts (.fieldLink RX5 35 "NumberFieldFactorsModel" "thrown" "I") (BW_in mw_321)) (fun _ h9 => h9) rfl dX5_fails_22 ?_
    refine lv_if_le (tgt := 32) hx hb dX5_fails_25 (by decide) (fun c5 => ?_) (fun c5 => ?_)
    · rw [if_pos c5] at hf
      refine lv_iconst (v := 0) hx hb dX5_fails_32 (by decide) ?_
      obtain rfl := Option.some.inj hf
      exact W.zret (v := 0) (ty := .boolean) hx hb hr (by decide) (fun t ht hW => ⟨rfl, ⟨di, by rw [ht]; exact hP⟩, hS.F ht⟩) hS.2.2 dX5_fails_33
    · rw [if_neg c5] at hf
      refine lv_iconst (v := 1) hx hb dX5_fails_28 (by decide) ?_
      refine lv_goto (tgt := 33) hx hb dX5_fails_29 (by decide) ?_
      obtain rfl := Option.some.inj hf
      exact W.zret (v := 1) (ty := .boolean) hx hb hr (by decide) (fun t ht hW => ⟨rfl, ⟨di, by rw [ht]; exact hP⟩, hS.F ht⟩) hS.2.2 dX5_fails_33
  refine lv_if_eq (tgt := 9) hx hb dX5_fails_2 (by decide) (fun c2 => ?_) (fun c2 => ?_)
  · rw [if_pos c2] at gw1
    refine lv_iload_n hx hb dX5_fails_9 rfl (lv_at hl 2 rfl) ?_
    obtain ⟨w3, gw3, gw1⟩ := Option.bind_eq_some_iff.mp gw1
    try dsimp only at gw1
    have hJ18_w3 : ∀ (di : Nat → Int32) (H : Heap) (locs : List Loc) (ls : Array Slot), va_P D vwCl (ww 6 ad (cellR cI ad th kk mn md rw dg kn fc oft di)) H → va_S (ww_A 6 ad) s.heap H locs → lv_has ls 3 [(0, .ref (ad 0)), (1, .int p0), (2, .int p1)] → W p l e (headSpec usX5_fails { frames := 0, cells := 0, slots := 0, locals := 0 }).room s m [.ref (ad 0), .int p0, .int p1].toArray below meth c H locs 0 0 (MQ below (ct_Qx D (fun di => ww 6 ad (cellR cI ad res.2 kk mn md rw dg kn fc oft di)) (ww_A 6 ad) (some (.int res.1))) [.ref (ad 0), .int p0, .int p1].toArray s 0 0 (ww_A 6 ad)) (F0 m 18 ls [.int w3, .ref (ad 0)]) := by
      intro di H locs ls hP hS hl
      obtain rfl := Option.some.inj gw1
      exact hJ18_w1 _ _ _ _ hP hS (lv_sub hl [0, 1, 2] rfl)
    refine lv_if_eq (tgt := 17) hx hb dX5_fails_10 (by decide) (fun c4 => ?_) (fun c4 => ?_)
    · rw [if_pos c4] at gw3
      refine lv_iconst (v := 0) hx hb dX5_fails_17 (by decide) ?_
      obtain rfl := Option.some.inj gw3
      exact hJ18_w3 _ _ _ _ hP hS (lv_sub hl [0, 1, 2] rfl)
    · rw [if_neg c4] at gw3
      refine lv_iconst (v := 2) hx hb dX5_fails_13 (by decide) ?_
      refine lv_goto (tgt := 18) hx hb dX5_fails_14 (by decide) ?_
      obtain rfl := Option.some.inj gw3
      exact hJ18_w3 _ _ _ _ hP hS (lv_sub hl [0, 1, 2] rfl)
  · rw [if_neg c2] at gw1
    refine lv_iconst (v := 1) hx hb dX5_fails_5 (by decide) ?_
    refine lv_goto (tgt := 18) hx hb dX5_fails_6 (by decide) ?_
    obtain rfl := Option.some.inj gw1
    exact hJ18_w1 _ _ _ _ hP hS (lv_sub hl [0, 1, 2] rfl)
def f_X5_isElement (mn : Int64) (p0 : Int32) : Option (Int32) :=
  if p0 < 0 then
    some 0
  else
    if 0 ≤ (lg_cmp p0.toInt64 mn) then
      some 0
    else
      some 1
set_option maxHeartbeats 4000000 in
set_option maxRecDepth 100000 in
theorem C_X5_isElement (l : Launch) (D : va_G) (tys : List (ClassId × FieldType)) {ad : Nat → Nat} (hj : ww_inj 6 ad) {cI : ClassId} (htI : tys[0]? = some (cI, .int)) {th : Int32} {kk : Int32} {mn : Int64} {md : Nat → Int32} {rw : Nat → Int32} {dg : Nat → Int32} {kn : Int32} {fc : Int32} {oft : Nat → Int32} {p0 : Int32} {res : Int32} (hf : f_X5_isElement mn p0 = some res) :
    Met l yX5_isElement usX5_isElement ({ frames := 0, cells := 0, slots := 0, locals := 0 }) (va_Pc [.ref (ad 0), .int p0] (ws_Bx D tys (fun di => ww 6 ad (cellR cI ad th kk mn md rw dg kn fc oft di)))) (ct_Qx D (fun di => ww 6 ad (cellR cI ad th kk mn md rw dg kn fc oft di)) (ww_A 6 ad) (some (.int res))) 0 0 (ww_A 6 ad) := by
  refine Met.ofW (cc := cX5_isElement) (maxL := 2) (ret := (some .boolean)) (by decide) rfl ?_
  intro p e s m args below meth c s₁ B hml hv
  obtain ⟨rfl, ⟨di, hP⟩, hK⟩ := hv
  have hx := B.exec
  have hb := B.bytes
  have hr := B.returns
  have hts := atoms_spec (ws := usX5_isElement) B.pre
  have hown : s.vm.findClass RX5 = some m.cls := findClass_of_methodNamed B.named
  have hlocks := B.notSynchronized
  have hS : va_S (ww_A 6 ad) s.heap s.heap [] := va_S.rf
  have hl := lv_entry ([.ref (ad 0), .int p0]) (n := 2) (Nat.le_of_ble_eq_true rfl)
  rw [lg_entry_eq]
  generalize (lg_sl ([.ref (ad 0), .int p0]) ++ List.replicate (2 - (lg_sl ([.ref (ad 0), .int p0])).length) Slot.unset).toArray = ls at hl ⊢
  have hl : lv_has ls 2 [(0, .ref (ad 0)), (1, .int p0)] := hl
  unfold f_X5_isElement at hf
  refine lv_iload_n hx hb dX5_isElement_0 rfl (lv_at hl 1 rfl) ?_
  refine lv_if_lt (tgt := 18) hx hb dX5_isElement_1 (by decide) (fun c1 => ?_) (fun c1 => ?_)
  · rw [if_pos c1] at hf
    refine lv_iconst (v := 0) hx hb dX5_isElement_18 (by decide) ?_
    obtain rfl := Option.some.inj hf
    exact W.zret (v := 0) (ty := .boolean) hx hb hr (by decide) (fun t ht hW => ⟨rfl, ⟨di, by rw [ht]; exact hP⟩, hS.F ht⟩) hS.2.2 dX5_isElement_19
  · rw [if_neg c1] at hf
    refine lv_iload_n hx hb dX5_isElement_4 rfl (lv_at hl 1 rfl) ?_
    refine lv_i2l hx hb dX5_isElement_5 rfl ?_
    refine lv_aload_n hx hb dX5_isElement_6 rfl (lv_at hl 0 rfl) ?_
    refine va_get (ci := 5) (v := .long mn) (C := RX5) (T := TX5) (N := 10) hx hb hts (fun w h => BW_in (in_wsX50 w h)) hown hK hP 0 cr_mdl rfl 2 (by decide) (hts (.fieldLink RX5 15 "NumberFieldFactorsModel" "many" "J") (BW_in mw_314)) (fun _ h9 => h9) rfl dX5_isElement_7 ?_
    refine W.lcmp hx hb dX5_isElement_10 ?_
    refine lv_if_ge (tgt := 18) hx hb dX5_isElement_11 (by decide) (fun c2 => ?_) (fun c2 => ?_)
    · rw [if_pos c2] at hf
      refine lv_iconst (v := 0) hx hb dX5_isElement_18 (by decide) ?_
      obtain rfl := Option.some.inj hf
      exact W.zret (v := 0) (ty := .boolean) hx hb hr (by decide) (fun t ht hW => ⟨rfl, ⟨di, by rw [ht]; exact hP⟩, hS.F ht⟩) hS.2.2 dX5_isElement_19
    · rw [if_neg c2] at hf
      refine lv_iconst (v := 1) hx hb dX5_isElement_14 (by decide) ?_
      refine lv_goto (tgt := 19) hx hb dX5_isElement_15 (by decide) ?_
      obtain rfl := Option.some.inj hf
      exact W.zret (v := 1) (ty := .boolean) hx hb hr (by decide) (fun t ht hW => ⟨rfl, ⟨di, by rw [ht]; exact hP⟩, hS.F ht⟩) hS.2.2 dX5_isElement_19
def f_X5_add (p0 : Int32) (p1 : Int32) : Option (Int32) :=
  nm (jrem ((jrem p0 101) + (jrem p1 101)) 101) (fun v1 =>
  nm (jrem ((jrem (p0 / 101) 101) + (jrem (p1 / 101) 101)) 101) (fun v2 =>
  nm (jrem ((p0 / 10201) + (p1 / 10201)) 101) (fun v3 =>
  some ((v1 + (101 * v2)) + (10201 * v3)))))
set_option maxHeartbeats 4000000 in
set_option maxRecDepth 100000 in
theorem C_X5_add (l : Launch) (D : va_G) (tys : List (ClassId × FieldType)) {ad : Nat → Nat} (hj : ww_inj 6 ad) {cI : ClassId} (htI : tys[0]? = some (cI, .int)) {th : Int32} {kk : Int32} {mn : Int64} {md : Nat → Int32} {rw : Nat → Int32} {dg : Nat → Int32} {kn : Int32} {fc : Int32} {oft : Nat → Int32} {p0 : Int32} {p1 : Int32} {res : Int32} (hf : f_X5_add p0 p1 = some res) :
    Met l yX5_add usX5_add ({ frames := 0, cells := 0, slots := 0, locals := 0 }) (va_Pc [.int p0, .int p1] (ws_Bx D tys (fun di => ww 6 ad (cellR cI ad th kk mn md rw dg kn fc oft di)))) (ct_Qx D (fun di => ww 6 ad (cellR cI ad th kk mn md rw dg kn fc oft di)) (ww_A 6 ad) (some (.int res))) 0 0 (ww_A 6 ad) := by
  refine Met.ofW (cc := cX5_add) (maxL := 5) (ret := (some .int)) (by decide) rfl ?_
  intro p e s m args below meth c s₁ B hml hv
  obtain ⟨rfl, ⟨di, hP⟩, hK⟩ := hv
  have hx := B.exec
  have hb := B.bytes
  have hr := B.returns
  have hts := atoms_spec (ws := usX5_add) B.pre
  have hown : s.vm.findClass RX5 = some m.cls := findClass_of_methodNamed B.named
  have hlocks := B.notSynchronized
  have hS : va_S (ww_A 6 ad) s.heap s.heap [] := va_S.rf
  have hl := lv_entry ([.int p0, .int p1]) (n := 5) (Nat.le_of_ble_eq_true rfl)
  rw [lg_entry_eq]
  generalize (lg_sl ([.int p0, .int p1]) ++ List.replicate (5 - (lg_sl ([.int p0, .int p1])).length) Slot.unset).toArray = ls at hl ⊢
  have hl : lv_has ls 5 [(0, .int p0), (1, .int p1)] := hl
  unfold f_X5_add at hf
  refine lv_iload_n hx hb dX5_add_0 rfl (lv_at hl 0 rfl) ?_
  refine lv_bipush (v := 101) hx hb dX5_add_1 (by decide) ?_
  refine jv_irem hx hb dX5_add_3 (by decide) ?_
  refine lv_iload_n hx hb dX5_add_4 rfl (lv_at hl 1 rfl) ?_
  refine lv_bipush (v := 101) hx hb dX5_add_5 (by decide) ?_
  refine jv_irem hx hb dX5_add_7 (by decide) ?_
  refine lv_iadd hx hb dX5_add_8 ?_
  refine lv_bipush (v := 101) hx hb dX5_add_9 (by decide) ?_
  refine jv_irem hx hb dX5_add_11 (by decide) ?_
  obtain ⟨v1, ev1, hf⟩ := nm_elim hf
  try dsimp only at hf
  refine tp_I ev1 ?_
  refine lv_istore_n (lv' := [(2, .int v1), (0, .int p0), (1, .int p1)]) hx hb dX5_add_12 rfl hl (by decide) rfl (fun ls hl => ?_)
  refine lv_iload_n hx hb dX5_add_13 rfl (lv_at hl 1 rfl) ?_
  refine lv_bipush (v := 101) hx hb dX5_add_14 (by decide) ?_
  refine lv_idiv hx hb dX5_add_16 (by decide) ?_
  refine lv_bipush (v := 101) hx hb dX5_add_17 (by decide) ?_
  refine jv_irem hx hb dX5_add_19 (by decide) ?_
  refine lv_iload_n hx hb dX5_add_20 rfl (lv_at hl 2 rfl) ?_
  refine lv_bipush (v := 101) hx hb dX5_add_21 (by decide) ?_
  refine lv_idiv hx hb dX5_add_23 (by decide) ?_
  refine lv_bipush (v := 101) hx hb dX5_add_24 (by decide) ?_
  refine jv_irem hx hb dX5_add_26 (by decide) ?_
  refine lv_iadd hx hb dX5_add_27 ?_
  refine lv_bipush (v := 101) hx hb dX5_add_28 (by decide) ?_
  refine jv_irem hx hb dX5_add_30 (by decide) ?_
  obtain ⟨v2, ev2, hf⟩ := nm_elim hf
  try dsimp only at hf
  refine tp_I ev2 ?_
  refine lv_istore_n (lv' := [(3, .int v2), (2, .int v1), (0, .int p0), (1, .int p1)]) hx hb dX5_add_31 rfl hl (by decide) rfl (fun ls hl => ?_)
  refine lv_iload_n hx hb dX5_add_32 rfl (lv_at hl 2 rfl) ?_
  refine lv_sipush (v := 10201) hx hb dX5_add_33 (by decide) ?_
  refine lv_idiv hx hb dX5_add_36 (by decide) ?_
  refine lv_iload_n hx hb dX5_add_37 rfl (lv_at hl 3 rfl) ?_
  refine lv_sipush (v := 10201) hx hb dX5_add_38 (by decide) ?_
  refine lv_idiv hx hb dX5_add_41 (by decide) ?_
  refine lv_iadd hx hb dX5_add_42 ?_
  refine lv_bipush (v := 101) hx hb dX5_add_43 (by decide) ?_
  refine jv_irem hx hb dX5_add_45 (by decide) ?_
  obtain ⟨v3, ev3, hf⟩ := nm_elim hf
  try dsimp only at hf
  refine tp_I ev3 ?_
  refine lv_istore (lv' := [(4, .int v3), (3, .int v2), (2, .int v1), (0, .int p0), (1, .int p1)]) hx hb dX5_add_46 hl (by decide) rfl (fun ls hl => ?_)
  refine lv_iload_n hx hb dX5_add_48 rfl (lv_at hl 2 rfl) ?_
  refine lv_bipush (v := 101) hx hb dX5_add_49 (by decide) ?_
  refine lv_iload_n hx hb dX5_add_51 rfl (lv_at hl 1 rfl) ?_
  refine lv_imul hx hb dX5_add_52 ?_
  refine lv_iadd hx hb dX5_add_53 ?_
  refine lv_sipush (v := 10201) hx hb dX5_add_54 (by decide) ?_
  refine lv_iload hx hb dX5_add_57 (lv_at hl 0 rfl) ?_
  refine lv_imul hx hb dX5_add_59 ?_
  refine lv_iadd hx hb dX5_add_60 ?_
  obtain rfl := Option.some.inj hf
  exact W.iret (v := (v1 + (101 * v2)) + (10201 * v3)) hx hb hr (fun t ht hW => ⟨rfl, ⟨di, by rw [ht]; exact hP⟩, hS.F ht⟩) hS.2.2 dX5_add_61
def f_X5_negative (p0 : Int32) : Option (Int32) :=
  nm (jrem (101 - (jrem p0 101)) 101) (fun v1 =>
  nm (jrem (101 - (jrem (p0 / 101) 101)) 101) (fun v2 =>
  nm (jrem (101 - (p0 / 10201)) 101) (fun v3 =>
  some ((v1 + (101 * v2)) + (10201 * v3)))))
set_option maxHeartbeats 4000000 in
set_option maxRecDepth 100000 in
theorem C_X5_negative (l : Launch) (D : va_G) (tys : List (ClassId × FieldType)) {ad : Nat → Nat} (hj : ww_inj 6 ad) {cI : ClassId} (htI : tys[0]? = some (cI, .int)) {th : Int32} {kk : Int32} {mn : Int64} {md : Nat → Int32} {rw : Nat → Int32} {dg : Nat → Int32} {kn : Int32} {fc : Int32} {oft : Nat → Int32} {p0 : Int32} {res : Int32} (hf : f_X5_negative p0 = some res) :
    Met l yX5_negative usX5_negative ({ frames := 0, cells := 0, slots := 0, locals := 0 }) (va_Pc [.int p0] (ws_Bx D tys (fun di => ww 6 ad (cellR cI ad th kk mn md rw dg kn fc oft di)))) (ct_Qx D (fun di => ww 6 ad (cellR cI ad th kk mn md rw dg kn fc oft di)) (ww_A 6 ad) (some (.int res))) 0 0 (ww_A 6 ad) := by
  refine Met.ofW (cc := cX5_negative) (maxL := 4) (ret := (some .int)) (by decide) rfl ?_
  intro p e s m args below meth c s₁ B hml hv
  obtain ⟨rfl, ⟨di, hP⟩, hK⟩ := hv
  have hx := B.exec
  have hb := B.bytes
  have hr := B.returns
  have hts := atoms_spec (ws := usX5_negative) B.pre
  have hown : s.vm.findClass RX5 = some m.cls := findClass_of_methodNamed B.named
  have hlocks := B.notSynchronized
  have hS : va_S (ww_A 6 ad) s.heap s.heap [] := va_S.rf
  have hl := lv_entry ([.int p0]) (n := 4) (Nat.le_of_ble_eq_true rfl)
  rw [lg_entry_eq]
  generalize (lg_sl ([.int p0]) ++ List.replicate (4 - (lg_sl ([.int p0])).length) Slot.unset).toArray = ls at hl ⊢
  have hl : lv_has ls 4 [(0, .int p0)] := hl
  unfold f_X5_negative at hf
  refine lv_bipush (v := 101) hx hb dX5_negative_0 (by decide) ?_
  refine lv_iload_n hx hb dX5_negative_2 rfl (lv_at hl 0 rfl) ?_
  refine lv_bipush (v := 101) hx hb dX5_negative_3 (by decide) ?_
  refine jv_irem hx hb dX5_negative_5 (by decide) ?_
  refine lv_isub hx hb dX5_negative_6 ?_
  refine lv_bipush (v := 101) hx hb dX5_negative_7 (by decide) ?_
  refine jv_irem hx hb dX5_negative_9 (by decide) ?_
  obtain ⟨v1, ev1, hf⟩ := nm_elim hf
  try dsimp only at hf
  refine tp_I ev1 ?_
  refine lv_istore_n (lv' := [(1, .int v1), (0, .int p0)]) hx hb dX5_negative_10 rfl hl (by decide) rfl (fun ls hl => ?_)
  refine lv_bipush (v := 101) hx hb dX5_negative_11 (by decide) ?_
  refine lv_iload_n hx hb dX5_negative_13 rfl (lv_at hl 1 rfl) ?_
  refine lv_bipush (v := 101) hx hb dX5_negative_14 (by decide) ?_
  refine lv_idiv hx hb dX5_negative_16 (by decide) ?_
  refine lv_bipush (v := 101) hx hb dX5_negative_17 (by decide) ?_
  refine jv_irem hx hb dX5_negative_19 (by decide) ?_
  refine lv_isub hx hb dX5_negative_20 ?_
  refine lv_bipush (v := 101) hx hb dX5_negative_21 (by decide) ?_
  refine jv_irem hx hb dX5_negative_23 (by decide) ?_
  obtain ⟨v2, ev2, hf⟩ := nm_elim hf
  try dsimp only at hf
  refine tp_I ev2 ?_
  refine lv_istore_n (lv' := [(2, .int v2), (1, .int v1), (0, .int p0)]) hx hb dX5_negative_24 rfl hl (by decide) rfl (fun ls hl => ?_)
  refine lv_bipush (v := 101) hx hb dX5_negative_25 (by decide) ?_
  refine lv_iload_n hx hb dX5_negative_27 rfl (lv_at hl 2 rfl) ?_
  refine lv_sipush (v := 10201) hx hb dX5_negative_28 (by decide) ?_
  refine lv_idiv hx hb dX5_negative_31 (by decide) ?_
  refine lv_isub hx hb dX5_negative_32 ?_
  refine lv_bipush (v := 101) hx hb dX5_negative_33 (by decide) ?_
  refine jv_irem hx hb dX5_negative_35 (by decide) ?_
  obtain ⟨v3, ev3, hf⟩ := nm_elim hf
  try dsimp only at hf
  refine tp_I ev3 ?_
  refine lv_istore_n (lv' := [(3, .int v3), (2, .int v2), (1, .int v1), (0, .int p0)]) hx hb dX5_negative_36 rfl hl (by decide) rfl (fun ls hl => ?_)
  refine lv_iload_n hx hb dX5_negative_37 rfl (lv_at hl 2 rfl) ?_
  refine lv_bipush (v := 101) hx hb dX5_negative_38 (by decide) ?_
  refine lv_iload_n hx hb dX5_negative_40 rfl (lv_at hl 1 rfl) ?_
  refine lv_imul hx hb dX5_negative_41 ?_
  refine lv_iadd hx hb dX5_negative_42 ?_
  refine lv_sipush (v := 10201) hx hb dX5_negative_43 (by decide) ?_
  refine lv_iload_n hx hb dX5_negative_46 rfl (lv_at hl 0 rfl) ?_
  refine lv_imul hx hb dX5_negative_47 ?_
  refine lv_iadd hx hb dX5_negative_48 ?_
  obtain rfl := Option.some.inj hf
  exact W.iret (v := (v1 + (101 * v2)) + (10201 * v3)) hx hb hr (fun t ht hW => ⟨rfl, ⟨di, by rw [ht]; exact hP⟩, hS.F ht⟩) hS.2.2 dX5_negative_49
def f_X5_less (p0 : Int32) (p1 : Int32) : Option (Int32) :=
  (f_X5_negative p1).bind (fun u1 =>
  (f_X5_add p0 u1).bind (fun u3 =>
  some u3))
set_option maxHeartbeats 4000000 in
set_option maxRecDepth 100000 in
theorem C_X5_less (l : Launch) (D : va_G) (tys : List (ClassId × FieldType)) {ad : Nat → Nat} (hj : ww_inj 6 ad) {cI : ClassId} (htI : tys[0]? = some (cI, .int)) {th : Int32} {kk : Int32} {mn : Int64} {md : Nat → Int32} {rw : Nat → Int32} {dg : Nat → Int32} {kn : Int32} {fc : Int32} {oft : Nat → Int32} {p0 : Int32} {p1 : Int32} {res : Int32} (hf : f_X5_less p0 p1 = some res) :
    Met l yX5_less usX5_less ({ frames := 1, cells := 0, slots := 0, locals := 24 }) (va_Pc [.int p0, .int p1] (ws_Bx D tys (fun di => ww 6 ad (cellR cI ad th kk mn md rw dg kn fc oft di)))) (ct_Qx D (fun di => ww 6 ad (cellR cI ad th kk mn md rw dg kn fc oft di)) (ww_A 6 ad) (some (.int res))) 0 0 (ww_A 6 ad) := by
  refine Met.ofW (cc := cX5_less) (maxL := 2) (ret := (some .int)) (by decide) rfl ?_
  intro p e s m args below meth c s₁ B hml hv
  obtain ⟨rfl, ⟨di, hP⟩, hK⟩ := hv
  have hx := B.exec
  have hb := B.bytes
  have hr := B.returns
  have hts := atoms_spec (ws := usX5_less) B.pre
  have hown : s.vm.findClass RX5 = some m.cls := findClass_of_methodNamed B.named
  have hlocks := B.notSynchronized
  have hS : va_S (ww_A 6 ad) s.heap s.heap [] := va_S.rf
  have hl := lv_entry ([.int p0, .int p1]) (n := 2) (Nat.le_of_ble_eq_true rfl)
  rw [lg_entry_eq]
  generalize (lg_sl ([.int p0, .int p1]) ++ List.replicate (2 - (lg_sl ([.int p0, .int p1])).length) Slot.unset).toArray = ls at hl ⊢
  have hl : lv_has ls 2 [(0, .int p0), (1, .int p1)] := hl
  unfold f_X5_less at hf
  refine lv_iload_n hx hb dX5_less_0 rfl (lv_at hl 0 rfl) ?_
  refine lv_iload_n hx hb dX5_less_1 rfl (lv_at hl 1 rfl) ?_
  obtain ⟨u1, g2, hf⟩ := Option.bind_eq_some_iff.mp hf
  try dsimp only at hf
  refine ct_callx (va_runS (As := [.int p1]) (rest := [.int p0]) ⟨hx, hb, hml, hown, hts⟩ (C_X5_negative l D tys hj htI (res := u1) g2) (cwS 1 hts (gu_S mw_328 mw_329 mw_330 mw_326) rfl rfl rfl (by decide +kernel) ⟨Nat.le_of_ble_eq_true rfl, Nat.le_of_ble_eq_true rfl⟩) (ct_preSx (w := fun di => ww 6 ad (cellR cI ad th kk mn md rw dg kn fc oft di)) hP hK) rfl rfl hl.1 rfl (lv_room (Nat.le_of_ble_eq_true rfl)) dX5_less_2 ⟨Nat.zero_le _, Nat.zero_le _⟩) hS (fun di H locs hP hS => ?_)
  obtain ⟨u3, g4, hf⟩ := Option.bind_eq_some_iff.mp hf
  try dsimp only at hf
  refine ct_callx (va_runS (As := [.int p0, .int u1]) (rest := []) ⟨hx, hb, hml, hown, hts⟩ (C_X5_add l D tys hj htI (res := u3) g4) (cwS 2 hts (gu_S mw_331 mw_332 mw_330 mw_325) rfl rfl rfl (by decide +kernel) ⟨Nat.le_of_ble_eq_true rfl, Nat.le_of_ble_eq_true rfl⟩) (ct_preSx (w := fun di => ww 6 ad (cellR cI ad th kk mn md rw dg kn fc oft di)) hP hK) rfl rfl hl.1 rfl (lv_room (Nat.le_of_ble_eq_true rfl)) dX5_less_5 ⟨Nat.zero_le _, Nat.zero_le _⟩) hS (fun di H locs hP hS => ?_)
  obtain rfl := Option.some.inj hf
  exact W.iret (v := u3) hx hb hr (fun t ht hW => ⟨rfl, ⟨di, by rw [ht]; exact hP⟩, hS.F ht⟩) hS.2.2 dX5_less_8
def f_X5_power_l9 (k9 : Int32 → Int32 → Int64 → Option (Int32)) (fu : Nat) (kk : Int32) (md : Nat → Int32) (x1 : Int32) (x2 : Int64) : Nat → Int32 → Int32 → Int64 → Option (Int32)
  | 0, _, _, _ => none
  | n + 1, x4, x5, x6 =>
    if (lg_cmp x6 0) ≤ 0 then
      k9 x4 x5 x6
    else
      ((
        if (lg_cmp (x6 &&& 1) 1) = 0 then
          (f_X5_times fu kk md x4 x5).bind (fun u4 =>
          some u4)
        else
          some x4 : Option (Int32))).bind (fun w2 =>
      (f_X5_times fu kk md x5 x5).bind (fun u6 =>
      nm (x6 >>> ((1 : Int32).toInt64 &&& 63)) (fun v8 =>
      f_X5_power_l9 k9 fu kk md x1 x2 n w2 u6 v8)))
def f_X5_power (fu : Nat) (kk : Int32) (md : Nat → Int32) (p0 : Int32) (p1 : Int64) : Option (Int32) :=
  f_X5_power_l9 (fun y9 y10 y11 =>
    some y9) fu kk md p0 p1 fu 1 p0 p1
set_option maxHeartbeats 4000000 in
set_option maxRecDepth 100000 in
theorem C_X5_power (l : Launch) (D : va_G) (tys : List (ClassId × FieldType)) {ad : Nat → Nat} (hj : ww_inj 6 ad) {cI : ClassId} (htI : tys[0]? = some (cI, .int)) {fu : Nat} {th : Int32} {kk : Int32} {mn : Int64} {md : Nat → Int32} {rw : Nat → Int32} {dg : Nat → Int32} {kn : Int32} {fc : Int32} {oft : Nat → Int32} {p0 : Int32} {p1 : Int64} {res : Int32} (hf : f_X5_power fu kk md p0 p1 = some res) :
    Met l yX5_power usX5_power ({ frames := 2, cells := 0, slots := 0, locals := 46 }) (va_Pc [.ref (ad 0), .int p0, .long p1] (ws_Bx D tys (fun di => ww 6 ad (cellR cI ad th kk mn md rw dg kn fc oft di)))) (ct_Qx D (fun di => ww 6 ad (cellR cI ad th kk mn md rw dg kn fc oft di)) (ww_A 6 ad) (some (.int res))) 0 0 (ww_A 6 ad) := by
  refine Met.ofW (cc := cX5_power) (maxL := 8) (ret := (some .int)) (by decide) rfl ?_
  intro p e s m args below meth c s₁ B hml hv
  obtain ⟨rfl, ⟨di, hP⟩, hK⟩ := hv
  have hx := B.exec
  have hb := B.bytes
  have hr := B.returns
  have hts := atoms_spec (ws := usX5_power) B.pre
  have hown : s.vm.findClass RX5 = some m.cls := findClass_of_methodNamed B.named
  have hlocks := B.notSynchronized
  have hS : va_S (ww_A 6 ad) s.heap s.heap [] := va_S.rf
  have hl := lv_entry ([.ref (ad 0), .int p0, .long p1]) (n := 8) (Nat.le_of_ble_eq_true rfl)
  rw [lg_entry_eq]
  generalize (lg_sl ([.ref (ad 0), .int p0, .long p1]) ++ List.replicate (8 - (lg_sl ([.ref (ad 0), .int p0, .long p1])).length) Slot.unset).toArray = ls at hl ⊢
  have hl : lv_has ls 8 [(0, .ref (ad 0)), (1, .int p0), (2, .long p1)] := hl
  have L9 : ∀ (x1 : Int32) (x2 : Int64) (k9 : Int32 → Int32 → Int64 → Option (Int32)), (∀ (x4 : Int32) (x5 : Int32) (x6 : Int64) (di : Nat → Int32) (H : Heap) (locs : List Loc) (ls : Array Slot), va_P D vwCl (ww 6 ad (cellR cI ad th kk mn md rw dg kn fc oft di)) H → va_S (ww_A 6 ad) s.heap H locs → lv_has ls 8 [(0, .ref (ad 0)), (1, .int x1), (2, .long x2), (4, .int x4), (5, .int x5), (6, .long x6)] →  k9 x4 x5 x6 = some res → W p l e (headSpec usX5_power { frames := 2, cells := 0, slots := 0, locals := 46 }).room s m [.ref (ad 0), .int p0, .long p1].toArray below meth c H locs 0 0 (MQ below (ct_Qx D (fun di => ww 6 ad (cellR cI ad th kk mn md rw dg kn fc oft di)) (ww_A 6 ad) (some (.int res))) [.ref (ad 0), .int p0, .long p1].toArray s 0 0 (ww_A 6 ad)) (F0 m 59 ls [])) → ∀ (n : Nat) (x4 : Int32) (x5 : Int32) (x6 : Int64) (di : Nat → Int32) (H : Heap) (locs : List Loc) (ls : Array Slot), va_P D vwCl (ww 6 ad (cellR cI ad th kk mn md rw dg kn fc oft di)) H → va_S (ww_A 6 ad) s.heap H locs → lv_has ls 8 [(0, .ref (ad 0)), (1, .int x1), (2, .long x2), (4, .int x4), (5, .int x5), (6, .long x6)] →  f_X5_power_l9 k9 fu kk md x1 x2 n x4 x5 x6 = some res → W p l e (headSpec usX5_power { frames := 2, cells := 0, slots := 0, locals := 46 }).room s m [.ref (ad 0), .int p0, .long p1].toArray below meth c H locs 0 0 (MQ below (ct_Qx D (fun di => ww 6 ad (cellR cI ad th kk mn md rw dg kn fc oft di)) (ww_A 6 ad) (some (.int res))) [.ref (ad 0), .int p0, .long p1].toArray s 0 0 (ww_A 6 ad)) (F0 m 9 ls []) := by
    intro x1 x2 k9 hk_9 n
    induction n with
    | zero => intro x4 x5 x6 di H locs ls hP hS hl hf; rw [f_X5_power_l9] at hf; cases hf
    | succ n ih =>
      intro x4 x5 x6 di H locs ls hP hS hl hf
      rw [f_X5_power_l9] at hf
      refine lv_lload hx hb dX5_power_9 (lv_at hl 5 rfl) ?_
      refine lv_lconst (v := 0) hx hb dX5_power_11 (by decide) ?_
      refine W.lcmp hx hb dX5_power_12 ?_
      refine lv_if_le (tgt := 59) hx hb dX5_power_13 (by decide) (fun c1 => ?_) (fun c1 => ?_)
      · rw [if_pos c1] at hf
        exact hk_9 x4 x5 x6 _ _ _ _ hP hS (lv_sub hl [0, 1, 2, 3, 4, 5] rfl) hf
      · rw [if_neg c1] at hf
        refine lv_lload hx hb dX5_power_16 (lv_at hl 5 rfl) ?_
        refine lv_lconst (v := 1) hx hb dX5_power_18 (by decide) ?_
        refine lv_land hx hb dX5_power_19 ?_
        refine lv_lconst (v := 1) hx hb dX5_power_20 (by decide) ?_
        refine W.lcmp hx hb dX5_power_21 ?_
        obtain ⟨w2, gw2, hf⟩ := Option.bind_eq_some_iff.mp hf
        try dsimp only at hf
        have hJ38_w2 : ∀ (di : Nat → Int32) (H : Heap) (locs : List Loc) (ls : Array Slot), va_P D vwCl (ww 6 ad (cellR cI ad th kk mn md rw dg kn fc oft di)) H → va_S (ww_A 6 ad) s.heap H locs → lv_has ls 8 [(0, .ref (ad 0)), (1, .int x1), (2, .long x2), (4, .int x4), (5, .int x5), (6, .long x6)] → W p l e (headSpec usX5_power { frames := 2, cells := 0, slots := 0, locals := 46 }).room s m [.ref (ad 0), .int p0, .long p1].toArray below meth c H locs 0 0 (MQ below (ct_Qx D (fun di => ww 6 ad (cellR cI ad th kk mn md rw dg kn fc oft di)) (ww_A 6 ad) (some (.int res))) [.ref (ad 0), .int p0, .long p1].toArray s 0 0 (ww_A 6 ad)) (F0 m 38 ls [.int w2]) := by
          intro di H locs ls hP hS hl
          refine lv_istore (lv' := [(4, .int w2), (0, .ref (ad 0)), (1, .int x1), (2, .long x2), (5, .int x5), (6, .long x6)]) hx hb dX5_power_38 hl (by decide) rfl (fun ls hl => ?_)
          refine lv_aload_n hx hb dX5_power_40 rfl (lv_at hl 1 rfl) ?_
          refine lv_iload hx hb dX5_power_41 (lv_at hl 4 rfl) ?_
          refine lv_iload hx hb dX5_power_43 (lv_at hl 4 rfl) ?_
          obtain ⟨u6, g7, hf⟩ := Option.bind_eq_some_iff.mp hf
          try dsimp only at hf
          refine ct_callx (va_runV (As := [.int x5, .int x5]) (rest := []) ⟨hx, hb, hml, hown, hts⟩ (C_X5_times l D tys hj htI (res := u6) g7) (cwV 2 hts (gu_V mw_337 mw_338 mw_339 mw_330 mw_333) rfl rfl rfl (by decide +kernel) ⟨Nat.le_of_ble_eq_true rfl, Nat.le_of_ble_eq_true rfl⟩) (ct_preVx (w := fun di => ww 6 ad (cellR cI ad th kk mn md rw dg kn fc oft di)) hP hK (ci := 5) (k := 0) rfl cr_mdl) rfl rfl hl.1 rfl (lv_room (Nat.le_of_ble_eq_true rfl)) dX5_power_45 ⟨Nat.zero_le _, Nat.zero_le _⟩) hS (fun di H locs hP hS => ?_)
          refine lv_istore (lv' := [(5, .int u6), (4, .int w2), (0, .ref (ad 0)), (1, .int x1), (2, .long x2), (6, .long x6)]) hx hb dX5_power_48 hl (by decide) rfl (fun ls hl => ?_)
          refine lv_lload hx hb dX5_power_50 (lv_at hl 5 rfl) ?_
          refine lv_iconst (v := 1) hx hb dX5_power_52 (by decide) ?_
          refine lv_lshr hx hb dX5_power_53 rfl ?_
          obtain ⟨v8, ev8, hf⟩ := nm_elim hf
          try dsimp only at hf
          refine tp_J ev8 ?_
          refine lv_lstore (lv' := [(6, .long v8), (5, .int u6), (4, .int w2), (0, .ref (ad 0)), (1, .int x1), (2, .long x2)]) hx hb dX5_power_54 hl (by decide) rfl (fun ls hl => ?_)
          refine lv_goto (tgt := 9) hx hb dX5_power_56 (by decide) ?_
          exact ih w2 u6 v8 _ _ _ _ hP hS (lv_sub hl [3, 4, 5, 2, 1, 0] rfl) hf
        refine lv_if_ne (tgt := 36) hx hb dX5_power_22 (by decide) (fun c3 => ?_) (fun c3 => ?_)
        · rw [if_neg c3] at gw2
          refine lv_iload hx hb dX5_power_36 (lv_at hl 3 rfl) ?_
          obtain rfl := Option.some.inj gw2
          exact hJ38_w2 _ _ _ _ hP hS (lv_sub hl [0, 1, 2, 3, 4, 5] rfl)
        · rw [if_pos c3] at gw2
          refine lv_aload_n hx hb dX5_power_25 rfl (lv_at hl 0 rfl) ?_
          refine lv_iload hx hb dX5_power_26 (lv_at hl 3 rfl) ?_
          refine lv_iload hx hb dX5_power_28 (lv_at hl 4 rfl) ?_
          obtain ⟨u4, g5, gw2⟩ := Option.bind_eq_some_iff.mp gw2
          try dsimp only at gw2
          refine ct_callx (va_runV (As := [.int x4, .int x5]) (rest := []) ⟨hx, hb, hml, hown, hts⟩ (C_X5_times l D tys hj htI (res := u4) g5) (cwV 2 hts (gu_V mw_337 mw_338 mw_339 mw_330 mw_333) rfl rfl rfl (by decide +kernel) ⟨Nat.le_of_ble_eq_true rfl, Nat.le_of_ble_eq_true rfl⟩) (ct_preVx (w := fun di => ww 6 ad (cellR cI ad th kk mn md rw dg kn fc oft di)) hP hK (ci := 5) (k := 0) rfl cr_mdl) rfl rfl hl.1 rfl (lv_room (Nat.le_of_ble_eq_true rfl)) dX5_power_30 ⟨Nat.zero_le _, Nat.zero_le _⟩) hS (fun di H locs hP hS => ?_)
          refine lv_goto (tgt := 38) hx hb dX5_power_33 (by decide) ?_
          obtain rfl := Option.some.inj gw2
          exact hJ38_w2 _ _ _ _ hP hS (lv_sub hl [0, 1, 2, 3, 4, 5] rfl)
  unfold f_X5_power at hf
  refine lv_iconst (v := 1) hx hb dX5_power_0 (by decide) ?_
  refine lv_istore (lv' := [(4, .int 1), (0, .ref (ad 0)), (1, .int p0), (2, .long p1)]) hx hb dX5_power_1 hl (by decide) rfl (fun ls hl => ?_)
  refine lv_iload_n hx hb dX5_power_3 rfl (lv_at hl 2 rfl) ?_
  refine lv_istore (lv' := [(5, .int p0), (4, .int 1), (0, .ref (ad 0)), (1, .int p0), (2, .long p1)]) hx hb dX5_power_4 hl (by decide) rfl (fun ls hl => ?_)
  refine lv_lload_n hx hb dX5_power_6 rfl (lv_at hl 4 rfl) ?_
  refine lv_lstore (lv' := [(6, .long p1), (5, .int p0), (4, .int 1), (0, .ref (ad 0)), (1, .int p0), (2, .long p1)]) hx hb dX5_power_7 hl (by decide) rfl (fun ls hl => ?_)
  refine L9 p0 p1 _ (fun y9 y10 y11 di H locs ls hP hS hl hf => ?_) fu 1 p0 p1 _ _ _ _ hP hS (lv_sub hl [3, 4, 5, 2, 1, 0] rfl) hf
  try dsimp only at hf
  refine lv_iload hx hb dX5_power_59 (lv_at hl 3 rfl) ?_
  obtain rfl := Option.some.inj hf
  exact W.iret (v := y9) hx hb hr (fun t ht hW => ⟨rfl, ⟨di, by rw [ht]; exact hP⟩, hS.F ht⟩) hS.2.2 dX5_power_61
def f_X5_inverse (fu : Nat) (kk : Int32) (mn : Int64) (md : Nat → Int32) (p0 : Int32) : Option (Int32) :=
  (f_X5_power fu kk md p0 (mn - 2)).bind (fun u1 =>
  some u1)
set_option maxHeartbeats 4000000 in
set_option maxRecDepth 100000 in
theorem C_X5_inverse (l : Launch) (D : va_G) (tys : List (ClassId × FieldType)) {ad : Nat → Nat} (hj : ww_inj 6 ad) {cI : ClassId} (htI : tys[0]? = some (cI, .int)) {fu : Nat} {th : Int32} {kk : Int32} {mn : Int64} {md : Nat → Int32} {rw : Nat → Int32} {dg : Nat → Int32} {kn : Int32} {fc : Int32} {oft : Nat → Int32} {p0 : Int32} {res : Int32} (hf : f_X5_inverse fu kk mn md p0 = some res) :
    Met l yX5_inverse usX5_inverse ({ frames := 3, cells := 0, slots := 0, locals := 73 }) (va_Pc [.ref (ad 0), .int p0] (ws_Bx D tys (fun di => ww 6 ad (cellR cI ad th kk mn md rw dg kn fc oft di)))) (ct_Qx D (fun di => ww 6 ad (cellR cI ad th kk mn md rw dg kn fc oft di)) (ww_A 6 ad) (some (.int res))) 0 0 (ww_A 6 ad) := by
  refine Met.ofW (cc := cX5_inverse) (maxL := 2) (ret := (some .int)) (by decide) rfl ?_
  intro p e s m args below meth c s₁ B hml hv
  obtain ⟨rfl, ⟨di, hP⟩, hK⟩ := hv
  have hx := B.exec
  have hb := B.bytes
  have hr := B.returns
  have hts := atoms_spec (ws := usX5_inverse) B.pre
  have hown : s.vm.findClass RX5 = some m.cls := findClass_of_methodNamed B.named
  have hlocks := B.notSynchronized
  have hS : va_S (ww_A 6 ad) s.heap s.heap [] := va_S.rf
  have hl := lv_entry ([.ref (ad 0), .int p0]) (n := 2) (Nat.le_of_ble_eq_true rfl)
  rw [lg_entry_eq]
  generalize (lg_sl ([.ref (ad 0), .int p0]) ++ List.replicate (2 - (lg_sl ([.ref (ad 0), .int p0])).length) Slot.unset).toArray = ls at hl ⊢
  have hl : lv_has ls 2 [(0, .ref (ad 0)), (1, .int p0)] := hl
  unfold f_X5_inverse at hf
  refine lv_aload_n hx hb dX5_inverse_0 rfl (lv_at hl 0 rfl) ?_
  refine lv_iload_n hx hb dX5_inverse_1 rfl (lv_at hl 1 rfl) ?_
  refine lv_aload_n hx hb dX5_inverse_2 rfl (lv_at hl 0 rfl) ?_
  refine va_get (ci := 5) (v := .long mn) (C := RX5) (T := TX5) (N := 10) hx hb hts (fun w h => BW_in (in_wsX50 w h)) hown hK hP 0 cr_mdl rfl 2 (by decide) (hts (.fieldLink RX5 15 "NumberFieldFactorsModel" "many" "J") (BW_in mw_314)) (fun _ h9 => h9) rfl dX5_inverse_3 ?_
  refine lv_ldc2 (v := 2) hx hb hown (hts (.constantLong RX5 52 (2)) (BW_in mw_341)) dX5_inverse_6 ?_
  refine lv_lsub hx hb dX5_inverse_9 ?_
  obtain ⟨u1, g2, hf⟩ := Option.bind_eq_some_iff.mp hf
  try dsimp only at hf
  refine ct_callx (va_runV (As := [.int p0, .long (mn - 2)]) (rest := []) ⟨hx, hb, hml, hown, hts⟩ (C_X5_power l D tys hj htI (res := u1) g2) (cwV 2 hts (gu_V mw_342 mw_343 mw_344 mw_330 mw_336) rfl rfl rfl (by decide +kernel) ⟨Nat.le_of_ble_eq_true rfl, Nat.le_of_ble_eq_true rfl⟩) (ct_preVx (w := fun di => ww 6 ad (cellR cI ad th kk mn md rw dg kn fc oft di)) hP hK (ci := 5) (k := 0) rfl cr_mdl) rfl rfl hl.1 rfl (lv_room (Nat.le_of_ble_eq_true rfl)) dX5_inverse_10 ⟨Nat.zero_le _, Nat.zero_le _⟩) hS (fun di H locs hP hS => ?_)
  obtain rfl := Option.some.inj hf
  exact W.iret (v := u1) hx hb hr (fun t ht hW => ⟨rfl, ⟨di, by rw [ht]; exact hP⟩, hS.F ht⟩) hS.2.2 dX5_inverse_13
def f_X5_mate_l5 (k5 : Int32 → Int32 → Option (Int32)) (fu : Nat) (kk : Int32) (md : Nat → Int32) (x1 : Int32) (x2 : Int32) : Nat → Int32 → Int32 → Option (Int32)
  | 0, _, _ => none
  | n + 1, x3, x4 =>
    if x2 ≤ x4 then
      k5 x3 x4
    else
      (f_X5_power fu kk md x3 101).bind (fun u2 =>
      f_X5_mate_l5 k5 fu kk md x1 x2 n u2 (x4 + 1))
def f_X5_mate (fu : Nat) (kk : Int32) (md : Nat → Int32) (p0 : Int32) (p1 : Int32) : Option (Int32) :=
  f_X5_mate_l5 (fun y4 y5 =>
    some y4) fu kk md p0 p1 fu p0 0
set_option maxHeartbeats 4000000 in
set_option maxRecDepth 100000 in
theorem C_X5_mate (l : Launch) (D : va_G) (tys : List (ClassId × FieldType)) {ad : Nat → Nat} (hj : ww_inj 6 ad) {cI : ClassId} (htI : tys[0]? = some (cI, .int)) {fu : Nat} {th : Int32} {kk : Int32} {mn : Int64} {md : Nat → Int32} {rw : Nat → Int32} {dg : Nat → Int32} {kn : Int32} {fc : Int32} {oft : Nat → Int32} {p0 : Int32} {p1 : Int32} {res : Int32} (hf : f_X5_mate fu kk md p0 p1 = some res) :
    Met l yX5_mate usX5_mate ({ frames := 3, cells := 0, slots := 0, locals := 73 }) (va_Pc [.ref (ad 0), .int p0, .int p1] (ws_Bx D tys (fun di => ww 6 ad (cellR cI ad th kk mn md rw dg kn fc oft di)))) (ct_Qx D (fun di => ww 6 ad (cellR cI ad th kk mn md rw dg kn fc oft di)) (ww_A 6 ad) (some (.int res))) 0 0 (ww_A 6 ad) := by
  refine Met.ofW (cc := cX5_mate) (maxL := 5) (ret := (some .int)) (by decide) rfl ?_
  intro p e s m args below meth c s₁ B hml hv
  obtain ⟨rfl, ⟨di, hP⟩, hK⟩ := hv
  have hx := B.exec
  have hb := B.bytes
  have hr := B.returns
  have hts := atoms_spec (ws := usX5_mate) B.pre
  have hown : s.vm.findClass RX5 = some m.cls := findClass_of_methodNamed B.named
  have hlocks := B.notSynchronized
  have hS : va_S (ww_A 6 ad) s.heap s.heap [] := va_S.rf
  have hl := lv_entry ([.ref (ad 0), .int p0, .int p1]) (n := 5) (Nat.le_of_ble_eq_true rfl)
  rw [lg_entry_eq]
  generalize (lg_sl ([.ref (ad 0), .int p0, .int p1]) ++ List.replicate (5 - (lg_sl ([.ref (ad 0), .int p0, .int p1])).length) Slot.unset).toArray = ls at hl ⊢
  have hl : lv_has ls 5 [(0, .ref (ad 0)), (1, .int p0), (2, .int p1)] := hl
  have L5 : ∀ (x1 : Int32) (x2 : Int32) (k5 : Int32 → Int32 → Option (Int32)), (∀ (x3 : Int32) (x4 : Int32) (di : Nat → Int32) (H : Heap) (locs : List Loc) (ls : Array Slot), va_P D vwCl (ww 6 ad (cellR cI ad th kk mn md rw dg kn fc oft di)) H → va_S (ww_A 6 ad) s.heap H locs → lv_has ls 5 [(0, .ref (ad 0)), (1, .int x1), (2, .int x2), (3, .int x3), (4, .int x4)] →  k5 x3 x4 = some res → W p l e (headSpec usX5_mate { frames := 3, cells := 0, slots := 0, locals := 73 }).room s m [.ref (ad 0), .int p0, .int p1].toArray below meth c H locs 0 0 (MQ below (ct_Qx D (fun di => ww 6 ad (cellR cI ad th kk mn md rw dg kn fc oft di)) (ww_A 6 ad) (some (.int res))) [.ref (ad 0), .int p0, .int p1].toArray s 0 0 (ww_A 6 ad)) (F0 m 26 ls [])) → ∀ (n : Nat) (x3 : Int32) (x4 : Int32) (di : Nat → Int32) (H : Heap) (locs : List Loc) (ls : Array Slot), va_P D vwCl (ww 6 ad (cellR cI ad th kk mn md rw dg kn fc oft di)) H → va_S (ww_A 6 ad) s.heap H locs → lv_has ls 5 [(0, .ref (ad 0)), (1, .int x1), (2, .int x2), (3, .int x3), (4, .int x4)] →  f_X5_mate_l5 k5 fu kk md x1 x2 n x3 x4 = some res → W p l e (headSpec usX5_mate { frames := 3, cells := 0, slots := 0, locals := 73 }).room s m [.ref (ad 0), .int p0, .int p1].toArray below meth c H locs 0 0 (MQ below (ct_Qx D (fun di => ww 6 ad (cellR cI ad th kk mn md rw dg kn fc oft di)) (ww_A 6 ad) (some (.int res))) [.ref (ad 0), .int p0, .int p1].toArray s 0 0 (ww_A 6 ad)) (F0 m 5 ls []) := by
    intro x1 x2 k5 hk_5 n
    induction n with
    | zero => intro x3 x4 di H locs ls hP hS hl hf; rw [f_X5_mate_l5] at hf; cases hf
    | succ n ih =>
      intro x3 x4 di H locs ls hP hS hl hf
      rw [f_X5_mate_l5] at hf
      refine lv_iload hx hb dX5_mate_5 (lv_at hl 4 rfl) ?_
      refine lv_iload_n hx hb dX5_mate_7 rfl (lv_at hl 2 rfl) ?_
      refine lv_icmp_ge (tgt := 26) hx hb dX5_mate_8 (by decide) (fun c1 => ?_) (fun c1 => ?_)
      · rw [if_pos c1] at hf
        exact hk_5 x3 x4 _ _ _ _ hP hS (lv_sub hl [0, 1, 2, 3, 4] rfl) hf
      · rw [if_neg c1] at hf
        refine lv_aload_n hx hb dX5_mate_11 rfl (lv_at hl 0 rfl) ?_
        refine lv_iload_n hx hb dX5_mate_12 rfl (lv_at hl 3 rfl) ?_
        refine lv_ldc2 (v := 101) hx hb hown (hts (.constantLong RX5 13 (101)) (BW_in mw_313)) dX5_mate_13 ?_
        obtain ⟨u2, g3, hf⟩ := Option.bind_eq_some_iff.mp hf
        try dsimp only at hf
        refine ct_callx (va_runV (As := [.int x3, .long 101]) (rest := []) ⟨hx, hb, hml, hown, hts⟩ (C_X5_power l D tys hj htI (res := u2) g3) (cwV 2 hts (gu_V mw_342 mw_343 mw_344 mw_330 mw_336) rfl rfl rfl (by decide +kernel) ⟨Nat.le_of_ble_eq_true rfl, Nat.le_of_ble_eq_true rfl⟩) (ct_preVx (w := fun di => ww 6 ad (cellR cI ad th kk mn md rw dg kn fc oft di)) hP hK (ci := 5) (k := 0) rfl cr_mdl) rfl rfl hl.1 rfl (lv_room (Nat.le_of_ble_eq_true rfl)) dX5_mate_16 ⟨Nat.zero_le _, Nat.zero_le _⟩) hS (fun di H locs hP hS => ?_)
        refine lv_istore_n (lv' := [(3, .int u2), (0, .ref (ad 0)), (1, .int x1), (2, .int x2), (4, .int x4)]) hx hb dX5_mate_19 rfl hl (by decide) rfl (fun ls hl => ?_)
        refine lv_iinc (v := x4 + 1) (lv' := [(4, .int (x4 + 1)), (3, .int u2), (0, .ref (ad 0)), (1, .int x1), (2, .int x2)]) hx hb dX5_mate_20 hl (k := 4) rfl rfl (by decide) rfl (fun ls hl => ?_)
        refine lv_goto (tgt := 5) hx hb dX5_mate_23 (by decide) ?_
        exact ih u2 (x4 + 1) _ _ _ _ hP hS (lv_sub hl [2, 3, 4, 1, 0] rfl) hf
  unfold f_X5_mate at hf
  refine lv_iload_n hx hb dX5_mate_0 rfl (lv_at hl 1 rfl) ?_
  refine lv_istore_n (lv' := [(3, .int p0), (0, .ref (ad 0)), (1, .int p0), (2, .int p1)]) hx hb dX5_mate_1 rfl hl (by decide) rfl (fun ls hl => ?_)
  refine lv_iconst (v := 0) hx hb dX5_mate_2 (by decide) ?_
  refine lv_istore (lv' := [(4, .int 0), (3, .int p0), (0, .ref (ad 0)), (1, .int p0), (2, .int p1)]) hx hb dX5_mate_3 hl (by decide) rfl (fun ls hl => ?_)
  refine L5 p0 p1 _ (fun y4 y5 di H locs ls hP hS hl hf => ?_) fu p0 0 _ _ _ _ hP hS (lv_sub hl [2, 3, 4, 1, 0] rfl) hf
  try dsimp only at hf
  refine lv_iload_n hx hb dX5_mate_26 rfl (lv_at hl 3 rfl) ?_
  obtain rfl := Option.some.inj hf
  exact W.iret (v := y4) hx hb hr (fun t ht hW => ⟨rfl, ⟨di, by rw [ht]; exact hP⟩, hS.F ht⟩) hS.2.2 dX5_mate_27
def f_X5_mates_l2 (k2 : Int32 → Option (Int32)) (fu : Nat) (kk : Int32) (md : Nat → Int32) (x1 : Int32) : Nat → Int32 → Option (Int32)
  | 0, _ => none
  | n + 1, x2 =>
    if kk ≤ x2 then
      k2 x2
    else
      (f_X5_mate fu kk md x1 x2).bind (fun u2 =>
      if u2 = x1 then
        k2 x2
      else
        f_X5_mates_l2 k2 fu kk md x1 n (x2 + 1))
def f_X5_mates (fu : Nat) (kk : Int32) (md : Nat → Int32) (p0 : Int32) : Option (Int32) :=
  f_X5_mates_l2 (fun y5 =>
    some y5) fu kk md p0 fu 1
set_option maxHeartbeats 4000000 in
set_option maxRecDepth 100000 in
theorem C_X5_mates (l : Launch) (D : va_G) (tys : List (ClassId × FieldType)) {ad : Nat → Nat} (hj : ww_inj 6 ad) {cI : ClassId} (htI : tys[0]? = some (cI, .int)) {fu : Nat} {th : Int32} {kk : Int32} {mn : Int64} {md : Nat → Int32} {rw : Nat → Int32} {dg : Nat → Int32} {kn : Int32} {fc : Int32} {oft : Nat → Int32} {p0 : Int32} {res : Int32} (hf : f_X5_mates fu kk md p0 = some res) :
    Met l yX5_mates usX5_mates ({ frames := 4, cells := 0, slots := 0, locals := 97 }) (va_Pc [.ref (ad 0), .int p0] (ws_Bx D tys (fun di => ww 6 ad (cellR cI ad th kk mn md rw dg kn fc oft di)))) (ct_Qx D (fun di => ww 6 ad (cellR cI ad th kk mn md rw dg kn fc oft di)) (ww_A 6 ad) (some (.int res))) 0 0 (ww_A 6 ad) := by
  refine Met.ofW (cc := cX5_mates) (maxL := 3) (ret := (some .int)) (by decide) rfl ?_
  intro p e s m args below meth c s₁ B hml hv
  obtain ⟨rfl, ⟨di, hP⟩, hK⟩ := hv
  have hx := B.exec
  have hb := B.bytes
  have hr := B.returns
  have hts := atoms_spec (ws := usX5_mates) B.pre
  have hown : s.vm.findClass RX5 = some m.cls := findClass_of_methodNamed B.named
  have hlocks := B.notSynchronized
  have hS : va_S (ww_A 6 ad) s.heap s.heap [] := va_S.rf
  have hl := lv_entry ([.ref (ad 0), .int p0]) (n := 3) (Nat.le_of_ble_eq_true rfl)
  rw [lg_entry_eq]
  generalize (lg_sl ([.ref (ad 0), .int p0]) ++ List.replicate (3 - (lg_sl ([.ref (ad 0), .int p0])).length) Slot.unset).toArray = ls at hl ⊢
  have hl : lv_has ls 3 [(0, .ref (ad 0)), (1, .int p0)] := hl
  have L2 : ∀ (x1 : Int32) (k2 : Int32 → Option (Int32)), (∀ (x2 : Int32) (di : Nat → Int32) (H : Heap) (locs : List Loc) (ls : Array Slot), va_P D vwCl (ww 6 ad (cellR cI ad th kk mn md rw dg kn fc oft di)) H → va_S (ww_A 6 ad) s.heap H locs → lv_has ls 3 [(0, .ref (ad 0)), (1, .int x1), (2, .int x2)] →  k2 x2 = some res → W p l e (headSpec usX5_mates { frames := 4, cells := 0, slots := 0, locals := 97 }).room s m [.ref (ad 0), .int p0].toArray below meth c H locs 0 0 (MQ below (ct_Qx D (fun di => ww 6 ad (cellR cI ad th kk mn md rw dg kn fc oft di)) (ww_A 6 ad) (some (.int res))) [.ref (ad 0), .int p0].toArray s 0 0 (ww_A 6 ad)) (F0 m 26 ls [])) → ∀ (n : Nat) (x2 : Int32) (di : Nat → Int32) (H : Heap) (locs : List Loc) (ls : Array Slot), va_P D vwCl (ww 6 ad (cellR cI ad th kk mn md rw dg kn fc oft di)) H → va_S (ww_A 6 ad) s.heap H locs → lv_has ls 3 [(0, .ref (ad 0)), (1, .int x1), (2, .int x2)] →  f_X5_mates_l2 k2 fu kk md x1 n x2 = some res → W p l e (headSpec usX5_mates { frames := 4, cells := 0, slots := 0, locals := 97 }).room s m [.ref (ad 0), .int p0].toArray below meth c H locs 0 0 (MQ below (ct_Qx D (fun di => ww 6 ad (cellR cI ad th kk mn md rw dg kn fc oft di)) (ww_A 6 ad) (some (.int res))) [.ref (ad 0), .int p0].toArray s 0 0 (ww_A 6 ad)) (F0 m 2 ls []) := by
    intro x1 k2 hk_2 n
    induction n with
    | zero => intro x2 di H locs ls hP hS hl hf; rw [f_X5_mates_l2] at hf; cases hf
    | succ n ih =>
      intro x2 di H locs ls hP hS hl hf
      rw [f_X5_mates_l2] at hf
      refine lv_iload_n hx hb dX5_mates_2 rfl (lv_at hl 2 rfl) ?_
      refine lv_aload_n hx hb dX5_mates_3 rfl (lv_at hl 0 rfl) ?_
      refine va_get (ci := 5) (v := .int kk) (C := RX5) (T := TX5) (N := 10) hx hb hts (fun w h => BW_in (in_wsX50 w h)) hown hK hP 0 cr_mdl rfl 1 (by decide) (hts (.fieldLink RX5 7 "NumberFieldFactorsModel" "k" "I") (BW_in mw_312)) (fun _ h9 => h9) rfl dX5_mates_4 ?_
      refine lv_icmp_ge (tgt := 26) hx hb dX5_mates_7 (by decide) (fun c1 => ?_) (fun c1 => ?_)
      · rw [if_pos c1] at hf
        exact hk_2 x2 _ _ _ _ hP hS (lv_sub hl [0, 1, 2] rfl) hf
      · rw [if_neg c1] at hf
        refine lv_aload_n hx hb dX5_mates_10 rfl (lv_at hl 0 rfl) ?_
        refine lv_iload_n hx hb dX5_mates_11 rfl (lv_at hl 1 rfl) ?_
        refine lv_iload_n hx hb dX5_mates_12 rfl (lv_at hl 2 rfl) ?_
        obtain ⟨u2, g3, hf⟩ := Option.bind_eq_some_iff.mp hf
        try dsimp only at hf
        refine ct_callx (va_runV (As := [.int x1, .int x2]) (rest := []) ⟨hx, hb, hml, hown, hts⟩ (C_X5_mate l D tys hj htI (res := u2) g3) (cwV 2 hts (gu_V mw_347 mw_348 mw_349 mw_330 mw_345) rfl rfl rfl (by decide +kernel) ⟨Nat.le_of_ble_eq_true rfl, Nat.le_of_ble_eq_true rfl⟩) (ct_preVx (w := fun di => ww 6 ad (cellR cI ad th kk mn md rw dg kn fc oft di)) hP hK (ci := 5) (k := 0) rfl cr_mdl) rfl rfl hl.1 rfl (lv_room (Nat.le_of_ble_eq_true rfl)) dX5_mates_13 ⟨Nat.zero_le _, Nat.zero_le _⟩) hS (fun di H locs hP hS => ?_)
        refine lv_iload_n hx hb dX5_mates_16 rfl (lv_at hl 1 rfl) ?_
        refine lv_icmp_eq (tgt := 26) hx hb dX5_mates_17 (by decide) (fun c4 => ?_) (fun c4 => ?_)
        · rw [if_pos c4] at hf
          exact hk_2 x2 _ _ _ _ hP hS (lv_sub hl [0, 1, 2] rfl) hf
        · rw [if_neg c4] at hf
          refine lv_iinc (v := x2 + 1) (lv' := [(2, .int (x2 + 1)), (0, .ref (ad 0)), (1, .int x1)]) hx hb dX5_mates_20 hl (k := 2) rfl rfl (by decide) rfl (fun ls hl => ?_)
          refine lv_goto (tgt := 2) hx hb dX5_mates_23 (by decide) ?_
          exact ih (x2 + 1) _ _ _ _ hP hS (lv_sub hl [1, 2, 0] rfl) hf
  unfold f_X5_mates at hf
  refine lv_iconst (v := 1) hx hb dX5_mates_0 (by decide) ?_
  refine lv_istore_n (lv' := [(2, .int 1), (0, .ref (ad 0)), (1, .int p0)]) hx hb dX5_mates_1 rfl hl (by decide) rfl (fun ls hl => ?_)
  refine L2 p0 _ (fun y5 di H locs ls hP hS hl hf => ?_) fu 1 _ _ _ _ hP hS (lv_sub hl [1, 2, 0] rfl) hf
  try dsimp only at hf
  refine lv_iload_n hx hb dX5_mates_26 rfl (lv_at hl 2 rfl) ?_
  obtain rfl := Option.some.inj hf
  exact W.iret (v := y5) hx hb hr (fun t ht hW => ⟨rfl, ⟨di, by rw [ht]; exact hP⟩, hS.F ht⟩) hS.2.2 dX5_mates_27
def f_X5_number (p0 : Int64) : Option (Int32) :=
  nm ((jreml p0 101).toInt32) (fun v1 =>
  if 0 ≤ v1 then
    some v1
  else
    some (v1 + 101))
set_option maxHeartbeats 4000000 in
set_option maxRecDepth 100000 in
theorem C_X5_number (l : Launch) (D : va_G) (tys : List (ClassId × FieldType)) {ad : Nat → Nat} (hj : ww_inj 6 ad) {cI : ClassId} (htI : tys[0]? = some (cI, .int)) {th : Int32} {kk : Int32} {mn : Int64} {md : Nat → Int32} {rw : Nat → Int32} {dg : Nat → Int32} {kn : Int32} {fc : Int32} {oft : Nat → Int32} {p0 : Int64} {res : Int32} (hf : f_X5_number p0 = some res) :
    Met l yX5_number usX5_number ({ frames := 0, cells := 0, slots := 0, locals := 0 }) (va_Pc [.long p0] (ws_Bx D tys (fun di => ww 6 ad (cellR cI ad th kk mn md rw dg kn fc oft di)))) (ct_Qx D (fun di => ww 6 ad (cellR cI ad th kk mn md rw dg kn fc oft di)) (ww_A 6 ad) (some (.int res))) 0 0 (ww_A 6 ad) := by
  refine Met.ofW (cc := cX5_number) (maxL := 3) (ret := (some .int)) (by decide) rfl ?_
  intro p e s m args below meth c s₁ B hml hv
  obtain ⟨rfl, ⟨di, hP⟩, hK⟩ := hv
  have hx := B.exec
  have hb := B.bytes
  have hr := B.returns
  have hts := atoms_spec (ws := usX5_number) B.pre
  have hown : s.vm.findClass RX5 = some m.cls := findClass_of_methodNamed B.named
  have hlocks := B.notSynchronized
  have hS : va_S (ww_A 6 ad) s.heap s.heap [] := va_S.rf
  have hl := lv_entry ([.long p0]) (n := 3) (Nat.le_of_ble_eq_true rfl)
  rw [lg_entry_eq]
  generalize (lg_sl ([.long p0]) ++ List.replicate (3 - (lg_sl ([.long p0])).length) Slot.unset).toArray = ls at hl ⊢
  have hl : lv_has ls 3 [(0, .long p0)] := hl
  unfold f_X5_number at hf
  refine lv_lload_n hx hb dX5_number_0 rfl (lv_at hl 0 rfl) ?_
  refine lv_ldc2 (v := 101) hx hb hown (hts (.constantLong RX5 13 (101)) (BW_in mw_313)) dX5_number_1 ?_
  refine jv_lrem hx hb dX5_number_4 (by decide) ?_
  refine lv_l2i hx hb dX5_number_5 rfl ?_
  obtain ⟨v1, ev1, hf⟩ := nm_elim hf
  try dsimp only at hf
  refine tp_I ev1 ?_
  refine lv_istore_n (lv' := [(2, .int v1), (0, .long p0)]) hx hb dX5_number_6 rfl hl (by decide) rfl (fun ls hl => ?_)
  refine lv_iload_n hx hb dX5_number_7 rfl (lv_at hl 0 rfl) ?_
  refine lv_if_ge (tgt := 18) hx hb dX5_number_8 (by decide) (fun c2 => ?_) (fun c2 => ?_)
  · rw [if_pos c2] at hf
    refine lv_iload_n hx hb dX5_number_18 rfl (lv_at hl 0 rfl) ?_
    obtain rfl := Option.some.inj hf
    exact W.iret (v := v1) hx hb hr (fun t ht hW => ⟨rfl, ⟨di, by rw [ht]; exact hP⟩, hS.F ht⟩) hS.2.2 dX5_number_19
  · rw [if_neg c2] at hf
    refine lv_iload_n hx hb dX5_number_11 rfl (lv_at hl 0 rfl) ?_
    refine lv_bipush (v := 101) hx hb dX5_number_12 (by decide) ?_
    refine lv_iadd hx hb dX5_number_14 ?_
    refine lv_goto (tgt := 19) hx hb dX5_number_15 (by decide) ?_
    obtain rfl := Option.some.inj hf
    exact W.iret (v := v1 + 101) hx hb hr (fun t ht hW => ⟨rfl, ⟨di, by rw [ht]; exact hP⟩, hS.F ht⟩) hS.2.2 dX5_number_19
def f_X5_clear_l2 (k2 : Int32 → (Nat → Int32) → Option ((Nat → Int32) × (Nat → Int32))) (fu : Nat) (dg : Nat → Int32) (x1 : Int32) : Nat → Int32 → (Nat → Int32) → Option ((Nat → Int32) × (Nat → Int32))
  | 0, _, _ => none
  | n + 1, x2, rw =>
    if 16 ≤ x2 then
      k2 x2 rw
    else
      if ((16 * x1) + x2) < 0 ∨ 400 ≤ ((16 * x1) + x2).toNatClampNeg then none else
      f_X5_clear_l2 k2 fu dg x1 n (x2 + 1) (upd rw ((16 * x1) + x2).toNatClampNeg 0)
def f_X5_clear (fu : Nat) (rw : Nat → Int32) (dg : Nat → Int32) (p0 : Int32) : Option ((Nat → Int32) × (Nat → Int32)) :=
  f_X5_clear_l2 (fun y3 rw4 =>
    if p0 < 0 ∨ 25 ≤ (p0).toNatClampNeg then none else
    some (rw4, upd dg (p0).toNatClampNeg (-1))) fu dg p0 fu 0 rw
set_option maxHeartbeats 4000000 in
set_option maxRecDepth 100000 in
theorem C_X5_clear (l : Launch) (D : va_G) (tys : List (ClassId × FieldType)) {ad : Nat → Nat} (hj : ww_inj 6 ad) {cI : ClassId} (htI : tys[0]? = some (cI, .int)) {fu : Nat} {th : Int32} {kk : Int32} {mn : Int64} {md : Nat → Int32} {rw : Nat → Int32} {dg : Nat → Int32} {kn : Int32} {fc : Int32} {oft : Nat → Int32} {p0 : Int32} {res : (Nat → Int32) × (Nat → Int32)} (hf : f_X5_clear fu rw dg p0 = some res) :
    Met l yX5_clear usX5_clear ({ frames := 0, cells := 0, slots := 0, locals := 0 }) (va_Pc [.ref (ad 0), .int p0] (ws_Bx D tys (fun di => ww 6 ad (cellR cI ad th kk mn md rw dg kn fc oft di)))) (ct_Qx D (fun di => ww 6 ad (cellR cI ad th kk mn md res.1 res.2 kn fc oft di)) (ww_A 6 ad) (none)) 0 0 (ww_A 6 ad) := by
  refine Met.ofW (cc := cX5_clear) (maxL := 3) (ret := none) (by decide) rfl ?_
  intro p e s m args below meth c s₁ B hml hv
  obtain ⟨rfl, ⟨di, hP⟩, hK⟩ := hv
  have hx := B.exec
  have hb := B.bytes
  have hr := B.returns
  have hts := atoms_spec (ws := usX5_clear) B.pre
  have hown : s.vm.findClass RX5 = some m.cls := findClass_of_methodNamed B.named
  have hlocks := B.notSynchronized
  have hS : va_S (ww_A 6 ad) s.heap s.heap [] := va_S.rf
  have hl := lv_entry ([.ref (ad 0), .int p0]) (n := 3) (Nat.le_of_ble_eq_true rfl)
  rw [lg_entry_eq]
  generalize (lg_sl ([.ref (ad 0), .int p0]) ++ List.replicate (3 - (lg_sl ([.ref (ad 0), .int p0])).length) Slot.unset).toArray = ls at hl ⊢
  have hl : lv_has ls 3 [(0, .ref (ad 0)), (1, .int p0)] := hl
  have L2 : ∀ (dg : Nat → Int32) (x1 : Int32) (k2 : Int32 → (Nat → Int32) → Option ((Nat → Int32) × (Nat → Int32))), (∀ (x2 : Int32) (rw : Nat → Int32) (di : Nat → Int32) (H : Heap) (locs : List Loc) (ls : Array Slot), va_P D vwCl (ww 6 ad (cellR cI ad th kk mn md rw dg kn fc oft di)) H → va_S (ww_A 6 ad) s.heap H locs → lv_has ls 3 [(0, .ref (ad 0)), (1, .int x1), (2, .int x2)] →  k2 x2 rw = some res → W p l e (headSpec usX5_clear { frames := 0, cells := 0, slots := 0, locals := 0 }).room s m [.ref (ad 0), .int p0].toArray below meth c H locs 0 0 (MQ below (ct_Qx D (fun di => ww 6 ad (cellR cI ad th kk mn md res.1 res.2 kn fc oft di)) (ww_A 6 ad) (none)) [.ref (ad 0), .int p0].toArray s 0 0 (ww_A 6 ad)) (F0 m 26 ls [])) → ∀ (n : Nat) (x2 : Int32) (rw : Nat → Int32) (di : Nat → Int32) (H : Heap) (locs : List Loc) (ls : Array Slot), va_P D vwCl (ww 6 ad (cellR cI ad th kk mn md rw dg kn fc oft di)) H → va_S (ww_A 6 ad) s.heap H locs → lv_has ls 3 [(0, .ref (ad 0)), (1, .int x1), (2, .int x2)] →  f_X5_clear_l2 k2 fu dg x1 n x2 rw = some res → W p l e (headSpec usX5_clear { frames := 0, cells := 0, slots := 0, locals := 0 }).room s m [.ref (ad 0), .int p0].toArray below meth c H locs 0 0 (MQ below (ct_Qx D (fun di => ww 6 ad (cellR cI ad th kk mn md res.1 res.2 kn fc oft di)) (ww_A 6 ad) (none)) [.ref (ad 0), .int p0].toArray s 0 0 (ww_A 6 ad)) (F0 m 2 ls []) := by
    intro dg x1 k2 hk_2 n
    induction n with
    | zero => intro x2 rw di H locs ls hP hS hl hf; rw [f_X5_clear_l2] at hf; cases hf
    | succ n ih =>
      intro x2 rw di H locs ls hP hS hl hf
      rw [f_X5_clear_l2] at hf
      refine lv_iload_n hx hb dX5_clear_2 rfl (lv_at hl 2 rfl) ?_
      refine lv_bipush (v := 16) hx hb dX5_clear_3 (by decide) ?_
      refine lv_icmp_ge (tgt := 26) hx hb dX5_clear_5 (by decide) (fun c1 => ?_) (fun c1 => ?_)
      · rw [if_pos c1] at hf
        exact hk_2 x2 rw _ _ _ _ hP hS (lv_sub hl [0, 1, 2] rfl) hf
      · rw [if_neg c1] at hf
        refine lv_aload_n hx hb dX5_clear_8 rfl (lv_at hl 0 rfl) ?_
        refine va_get (ci := 5) (v := .ref (ad 3)) (C := RX5) (T := TX5) (N := 10) hx hb hts (fun w h => BW_in (in_wsX50 w h)) hown hK hP 0 cr_mdl rfl 5 (by decide) (hts (.fieldLink RX5 26 "NumberFieldFactorsModel" "row" "[I") (BW_in mw_317)) (fun _ h9 => h9) rfl dX5_clear_9 ?_
        refine lv_bipush (v := 16) hx hb dX5_clear_12 (by decide) ?_
        refine lv_iload_n hx hb dX5_clear_14 rfl (lv_at hl 1 rfl) ?_
        refine lv_imul hx hb dX5_clear_15 ?_
        refine lv_iload_n hx hb dX5_clear_16 rfl (lv_at hl 2 rfl) ?_
        refine lv_iadd hx hb dX5_clear_17 ?_
        refine lv_iconst (v := 0) hx hb dX5_clear_18 (by decide) ?_
        by_cases b2 : ((16 * x1) + x2) < 0 ∨ 400 ≤ ((16 * x1) + x2).toNatClampNeg
        · rw [if_pos b2] at hf; cases hf
        rw [if_neg b2] at hf
        refine va_iast hx hb hK hP (ww_D hj) hS 3 0 cr_rw htI b2 dX5_clear_19 (fun H locs hP hD hS => ?_)
        have hP := cs_rw hP
        refine lv_iinc (v := x2 + 1) (lv' := [(2, .int (x2 + 1)), (0, .ref (ad 0)), (1, .int x1)]) hx hb dX5_clear_20 hl (k := 2) rfl rfl (by decide) rfl (fun ls hl => ?_)
        refine lv_goto (tgt := 2) hx hb dX5_clear_23 (by decide) ?_
        exact ih (x2 + 1) (upd rw ((16 * x1) + x2).toNatClampNeg 0) _ _ _ _ hP hS (lv_sub hl [1, 2, 0] rfl) hf
  unfold f_X5_clear at hf
  refine lv_iconst (v := 0) hx hb dX5_clear_0 (by decide) ?_
  refine lv_istore_n (lv' := [(2, .int 0), (0, .ref (ad 0)), (1, .int p0)]) hx hb dX5_clear_1 rfl hl (by decide) rfl (fun ls hl => ?_)
  refine L2 dg p0 _ (fun y3 rw4 di H locs ls hP hS hl hf => ?_) fu 0 rw _ _ _ _ hP hS (lv_sub hl [1, 2, 0] rfl) hf
  try dsimp only at hf
  refine lv_aload_n hx hb dX5_clear_26 rfl (lv_at hl 0 rfl) ?_
  refine va_get (ci := 5) (v := .ref (ad 4)) (C := RX5) (T := TX5) (N := 10) hx hb hts (fun w h => BW_in (in_wsX50 w h)) hown hK hP 0 cr_mdl rfl 6 (by decide) (hts (.fieldLink RX5 29 "NumberFieldFactorsModel" "degree" "[I") (BW_in mw_318)) (fun _ h9 => h9) rfl dX5_clear_27 ?_
  refine lv_iload_n hx hb dX5_clear_30 rfl (lv_at hl 1 rfl) ?_
  refine lv_iconst (v := (-1)) hx hb dX5_clear_31 (by decide) ?_
  by_cases b5 : p0 < 0 ∨ 25 ≤ (p0).toNatClampNeg
  · rw [if_pos b5] at hf; cases hf
  rw [if_neg b5] at hf
  refine va_iast hx hb hK hP (ww_D hj) hS 4 0 cr_dg htI b5 dX5_clear_32 (fun H locs hP hD hS => ?_)
  have hP := cs_dg hP
  obtain rfl := Option.some.inj hf
  exact W.vret hx hb hr (fun t ht hW => ⟨rfl, ⟨di, by rw [ht]; exact hP⟩, hS.F ht⟩) hS.2.2 dX5_clear_33
def f_X5_copy_l2 (k2 : Int32 → (Nat → Int32) → Option ((Nat → Int32) × (Nat → Int32))) (fu : Nat) (dg : Nat → Int32) (x1 : Int32) (x2 : Int32) : Nat → Int32 → (Nat → Int32) → Option ((Nat → Int32) × (Nat → Int32))
  | 0, _, _ => none
  | n + 1, x3, rw =>
    if 16 ≤ x3 then
      k2 x3 rw
    else
      if ((16 * x1) + x3) < 0 ∨ 400 ≤ ((16 * x1) + x3).toNatClampNeg then none else
      if ((16 * x2) + x3) < 0 ∨ 400 ≤ ((16 * x2) + x3).toNatClampNeg then none else
      f_X5_copy_l2 k2 fu dg x1 x2 n (x3 + 1) (upd rw ((16 * x2) + x3).toNatClampNeg (rw ((16 * x1) + x3).toNatClampNeg))
def f_X5_copy (fu : Nat) (rw : Nat → Int32) (dg : Nat → Int32) (p0 : Int32) (p1 : Int32) : Option ((Nat → Int32) × (Nat → Int32)) :=
  f_X5_copy_l2 (fun y4 rw5 =>
    if p0 < 0 ∨ 25 ≤ (p0).toNatClampNeg then none else
    if p1 < 0 ∨ 25 ≤ (p1).toNatClampNeg then none else
    some (rw5, upd dg (p1).toNatClampNeg (dg (p0).toNatClampNeg))) fu dg p0 p1 fu 0 rw
set_option maxHeartbeats 4000000 in
set_option maxRecDepth 100000 in
theorem C_X5_copy (l : Launch) (D : va_G) (tys : List (ClassId × FieldType)) {ad : Nat → Nat} (hj : ww_inj 6 ad) {cI : ClassId} (htI : tys[0]? = some (cI, .int)) {fu : Nat} {th : Int32} {kk : Int32} {mn : Int64} {md : Nat → Int32} {rw : Nat → Int32} {dg : Nat → Int32} {kn : Int32} {fc : Int32} {oft : Nat → Int32} {p0 : Int32} {p1 : Int32} {res : (Nat → Int32) × (Nat → Int32)} (hf : f_X5_copy fu rw dg p0 p1 = some res) :
    Met l yX5_copy usX5_copy ({ frames := 0, cells := 0, slots := 0, locals := 0 }) (va_Pc [.ref (ad 0), .int p0, .int p1] (ws_Bx D tys (fun di => ww 6 ad (cellR cI ad th kk mn md rw dg kn fc oft di)))) (ct_Qx D (fun di => ww 6 ad (cellR cI ad th kk mn md res.1 res.2 kn fc oft di)) (ww_A 6 ad) (none)) 0 0 (ww_A 6 ad) := by
  refine Met.ofW (cc := cX5_copy) (maxL := 4) (ret := none) (by decide) rfl ?_
  intro p e s m args below meth c s₁ B hml hv
  obtain ⟨rfl, ⟨di, hP⟩, hK⟩ := hv
  have hx := B.exec
  have hb := B.bytes
  have hr := B.returns
  have hts := atoms_spec (ws := usX5_copy) B.pre
  have hown : s.vm.findClass RX5 = some m.cls := findClass_of_methodNamed B.named
  have hlocks := B.notSynchronized
  have hS : va_S (ww_A 6 ad) s.heap s.heap [] := va_S.rf
  have hl := lv_entry ([.ref (ad 0), .int p0, .int p1]) (n := 4) (Nat.le_of_ble_eq_true rfl)
  rw [lg_entry_eq]
  generalize (lg_sl ([.ref (ad 0), .int p0, .int p1]) ++ List.replicate (4 - (lg_sl ([.ref (ad 0), .int p0, .int p1])).length) Slot.unset).toArray = ls at hl ⊢
  have hl : lv_has ls 4 [(0, .ref (ad 0)), (1, .int p0), (2, .int p1)] := hl
  have L2 : ∀ (dg : Nat → Int32) (x1 : Int32) (x2 : Int32) (k2 : Int32 → (Nat → Int32) → Option ((Nat → Int32) × (Nat → Int32))), (∀ (x3 : Int32) (rw : Nat → Int32) (di : Nat → Int32) (H : Heap) (locs : List Loc) (ls : Array Slot), va_P D vwCl (ww 6 ad (cellR cI ad th kk mn md rw dg kn fc oft di)) H → va_S (ww_A 6 ad) s.heap H locs → lv_has ls 4 [(0, .ref (ad 0)), (1, .int x1), (2, .int x2), (3, .int x3)] →  k2 x3 rw = some res → W p l e (headSpec usX5_copy { frames := 0, cells := 0, slots := 0, locals := 0 }).room s m [.ref (ad 0), .int p0, .int p1].toArray below meth c H locs 0 0 (MQ below (ct_Qx D (fun di => ww 6 ad (cellR cI ad th kk mn md res.1 res.2 kn fc oft di)) (ww_A 6 ad) (none)) [.ref (ad 0), .int p0, .int p1].toArray s 0 0 (ww_A 6 ad)) (F0 m 36 ls [])) → ∀ (n : Nat) (x3 : Int32) (rw : Nat → Int32) (di : Nat → Int32) (H : Heap) (locs : List Loc) (ls : Array Slot), va_P D vwCl (ww 6 ad (cellR cI ad th kk mn md rw dg kn fc oft di)) H → va_S (ww_A 6 ad) s.heap H locs → lv_has ls 4 [(0, .ref (ad 0)), (1, .int x1), (2, .int x2), (3, .int x3)] →  f_X5_copy_l2 k2 fu dg x1 x2 n x3 rw = some res → W p l e (headSpec usX5_copy { frames := 0, cells := 0, slots := 0, locals := 0 }).room s m [.ref (ad 0), .int p0, .int p1].toArray below meth c H locs 0 0 (MQ below (ct_Qx D (fun di => ww 6 ad (cellR cI ad th kk mn md res.1 res.2 kn fc oft di)) (ww_A 6 ad) (none)) [.ref (ad 0), .int p0, .int p1].toArray s 0 0 (ww_A 6 ad)) (F0 m 2 ls []) := by
    intro dg x1 x2 k2 hk_2 n
    induction n with
    | zero => intro x3 rw di H locs ls hP hS hl hf; rw [f_X5_copy_l2] at hf; cases hf
    | succ n ih =>
      intro x3 rw di H locs ls hP hS hl hf
      rw [f_X5_copy_l2] at hf
      refine lv_iload_n hx hb dX5_copy_2 rfl (lv_at hl 3 rfl) ?_
      refine lv_bipush (v := 16) hx hb dX5_copy_3 (by decide) ?_
      refine lv_icmp_ge (tgt := 36) hx hb dX5_copy_5 (by decide) (fun c1 => ?_) (fun c1 => ?_)
      · rw [if_pos c1] at hf
        exact hk_2 x3 rw _ _ _ _ hP hS (lv_sub hl [0, 1, 2, 3] rfl) hf
      · rw [if_neg c1] at hf
        refine lv_aload_n hx hb dX5_copy_8 rfl (lv_at hl 0 rfl) ?_
        refine va_get (ci := 5) (v := .ref (ad 3)) (C := RX5) (T := TX5) (N := 10) hx hb hts (fun w h => BW_in (in_wsX50 w h)) hown hK hP 0 cr_mdl rfl 5 (by decide) (hts (.fieldLink RX5 26 "NumberFieldFactorsModel" "row" "[I") (BW_in mw_317)) (fun _ h9 => h9) rfl dX5_copy_9 ?_
        refine lv_bipush (v := 16) hx hb dX5_copy_12 (by decide) ?_
        refine lv_iload_n hx hb dX5_copy_14 rfl (lv_at hl 2 rfl) ?_
        refine lv_imul hx hb dX5_copy_15 ?_
        refine lv_iload_n hx hb dX5_copy_16 rfl (lv_at hl 3 rfl) ?_
        refine lv_iadd hx hb dX5_copy_17 ?_
        refine lv_aload_n hx hb dX5_copy_18 rfl (lv_at hl 0 rfl) ?_
        refine va_get (ci := 5) (v := .ref (ad 3)) (C := RX5) (T := TX5) (N := 10) hx hb hts (fun w h => BW_in (in_wsX50 w h)) hown hK hP 0 cr_mdl rfl 5 (by decide) (hts (.fieldLink RX5 26 "NumberFieldFactorsModel" "row" "[I") (BW_in mw_317)) (fun _ h9 => h9) rfl dX5_copy_19 ?_
        refine lv_bipush (v := 16) hx hb dX5_copy_22 (by decide) ?_
        refine lv_iload_n hx hb dX5_copy_24 rfl (lv_at hl 1 rfl) ?_
        refine lv_imul hx hb dX5_copy_25 ?_
        refine lv_iload_n hx hb dX5_copy_26 rfl (lv_at hl 3 rfl) ?_
        refine lv_iadd hx hb dX5_copy_27 ?_
        by_cases b2 : ((16 * x1) + x3) < 0 ∨ 400 ≤ ((16 * x1) + x3).toNatClampNeg
        · rw [if_pos b2] at hf; cases hf
        rw [if_neg b2] at hf
        refine va_iald hx hb hK hP 3 0 cr_rw htI b2 dX5_copy_28 ?_
        by_cases b3 : ((16 * x2) + x3) < 0 ∨ 400 ≤ ((16 * x2) + x3).toNatClampNeg
        · rw [if_pos b3] at hf; cases hf
        rw [if_neg b3] at hf
        refine va_iast hx hb hK hP (ww_D hj) hS 3 0 cr_rw htI b3 dX5_copy_29 (fun H locs hP hD hS => ?_)
        have hP := cs_rw hP
        refine lv_iinc (v := x3 + 1) (lv' := [(3, .int (x3 + 1)), (0, .ref (ad 0)), (1, .int x1), (2, .int x2)]) hx hb dX5_copy_30 hl (k := 3) rfl rfl (by decide) rfl (fun ls hl => ?_)
        refine lv_goto (tgt := 2) hx hb dX5_copy_33 (by decide) ?_
        exact ih (x3 + 1) (upd rw ((16 * x2) + x3).toNatClampNeg (rw ((16 * x1) + x3).toNatClampNeg)) _ _ _ _ hP hS (lv_sub hl [1, 2, 3, 0] rfl) hf
  unfold f_X5_copy at hf
  refine lv_iconst (v := 0) hx hb dX5_copy_0 (by decide) ?_
  refine lv_istore_n (lv' := [(3, .int 0), (0, .ref (ad 0)), (1, .int p0), (2, .int p1)]) hx hb dX5_copy_1 rfl hl (by decide) rfl (fun ls hl => ?_)
  refine L2 dg p0 p1 _ (fun y4 rw5 di H locs ls hP hS hl hf => ?_) fu 0 rw _ _ _ _ hP hS (lv_sub hl [1, 2, 3, 0] rfl) hf
  try dsimp only at hf
  refine lv_aload_n hx hb dX5_copy_36 rfl (lv_at hl 0 rfl) ?_
  refine va_get (ci := 5) (v := .ref (ad 4)) (C := RX5) (T := TX5) (N := 10) hx hb hts (fun w h => BW_in (in_wsX50 w h)) hown hK hP 0 cr_mdl rfl 6 (by decide) (hts (.fieldLink RX5 29 "NumberFieldFactorsModel" "degree" "[I") (BW_in mw_318)) (fun _ h9 => h9) rfl dX5_copy_37 ?_
  refine lv_iload_n hx hb dX5_copy_40 rfl (lv_at hl 2 rfl) ?_
  refine lv_aload_n hx hb dX5_copy_41 rfl (lv_at hl 0 rfl) ?_
  refine va_get (ci := 5) (v := .ref (ad 4)) (C := RX5) (T := TX5) (N := 10) hx hb hts (fun w h => BW_in (in_wsX50 w h)) hown hK hP 0 cr_mdl rfl 6 (by decide) (hts (.fieldLink RX5 29 "NumberFieldFactorsModel" "degree" "[I") (BW_in mw_318)) (fun _ h9 => h9) rfl dX5_copy_42 ?_
  refine lv_iload_n hx hb dX5_copy_45 rfl (lv_at hl 1 rfl) ?_
  by_cases b6 : p0 < 0 ∨ 25 ≤ (p0).toNatClampNeg
  · rw [if_pos b6] at hf; cases hf
  rw [if_neg b6] at hf
  refine va_iald hx hb hK hP 4 0 cr_dg htI b6 dX5_copy_46 ?_
  by_cases b7 : p1 < 0 ∨ 25 ≤ (p1).toNatClampNeg
  · rw [if_pos b7] at hf; cases hf
  rw [if_neg b7] at hf
  refine va_iast hx hb hK hP (ww_D hj) hS 4 0 cr_dg htI b7 dX5_copy_47 (fun H locs hP hD hS => ?_)
  have hP := cs_dg hP
  obtain rfl := Option.some.inj hf
  exact W.vret hx hb hr (fun t ht hW => ⟨rfl, ⟨di, by rw [ht]; exact hP⟩, hS.F ht⟩) hS.2.2 dX5_copy_48
def f_X5_set_l16 (k16 : Int32 → Option ((Nat → Int32) × (Nat → Int32))) (fu : Nat) (rw : Nat → Int32) (dg : Nat → Int32) (x1 : Int32) (x2 : Int32) (x3 : Int32) : Nat → Int32 → Option ((Nat → Int32) × (Nat → Int32))
  | 0, _ => none
  | n + 1, x4 =>
    if x4 < 0 then
      k16 x4
    else
      if ((16 * x1) + x4) < 0 ∨ 400 ≤ ((16 * x1) + x4).toNatClampNeg then none else
      if (rw ((16 * x1) + x4).toNatClampNeg) = 0 then
        f_X5_set_l16 k16 fu rw dg x1 x2 x3 n (x4 + (-1))
      else
        k16 x4
def f_X5_set (fu : Nat) (rw : Nat → Int32) (dg : Nat → Int32) (p0 : Int32) (p1 : Int32) (p2 : Int32) : Option ((Nat → Int32) × (Nat → Int32)) :=
  if ((16 * p0) + p1) < 0 ∨ 400 ≤ ((16 * p0) + p1).toNatClampNeg then none else
  f_X5_set_l16 (fun y5 =>
    if p0 < 0 ∨ 25 ≤ (p0).toNatClampNeg then none else
    some (upd rw ((16 * p0) + p1).toNatClampNeg p2, upd dg (p0).toNatClampNeg y5)) fu (upd rw ((16 * p0) + p1).toNatClampNeg p2) dg p0 p1 p2 fu 15
set_option maxHeartbeats 4000000 in
set_option maxRecDepth 100000 in
theorem C_X5_set (l : Launch) (D : va_G) (tys : List (ClassId × FieldType)) {ad : Nat → Nat} (hj : ww_inj 6 ad) {cI : ClassId} (htI : tys[0]? = some (cI, .int)) {fu : Nat} {th : Int32} {kk : Int32} {mn : Int64} {md : Nat → Int32} {rw : Nat → Int32} {dg : Nat → Int32} {kn : Int32} {fc : Int32} {oft : Nat → Int32} {p0 : Int32} {p1 : Int32} {p2 : Int32} {res : (Nat → Int32) × (Nat → Int32)} (hf : f_X5_set fu rw dg p0 p1 p2 = some res) :
    Met l yX5_set usX5_set ({ frames := 0, cells := 0, slots := 0, locals := 0 }) (va_Pc [.ref (ad 0), .int p0, .int p1, .int p2] (ws_Bx D tys (fun di => ww 6 ad (cellR cI ad th kk mn md rw dg kn fc oft di)))) (ct_Qx D (fun di => ww 6 ad (cellR cI ad th kk mn md res.1 res.2 kn fc oft di)) (ww_A 6 ad) (none)) 0 0 (ww_A 6 ad) := by
  refine Met.ofW (cc := cX5_set) (maxL := 5) (ret := none) (by decide) rfl ?_
  intro p e s m args below meth c s₁ B hml hv
  obtain ⟨rfl, ⟨di, hP⟩, hK⟩ := hv
  have hx := B.exec
  have hb := B.bytes
  have hr := B.returns
  have hts := atoms_spec (ws := usX5_set) B.pre
  have hown : s.vm.findClass RX5 = some m.cls := findClass_of_methodNamed B.named
  have hlocks := B.notSynchronized
  have hS : va_S (ww_A 6 ad) s.heap s.heap [] := va_S.rf
  have hl := lv_entry ([.ref (ad 0), .int p0, .int p1, .int p2]) (n := 5) (Nat.le_of_ble_eq_true rfl)
  rw [lg_entry_eq]
  generalize (lg_sl ([.ref (ad 0), .int p0, .int p1, .int p2]) ++ List.replicate (5 - (lg_sl ([.ref (ad 0), .int p0, .int p1, .int p2])).length) Slot.unset).toArray = ls at hl ⊢
  have hl : lv_has ls 5 [(0, .ref (ad 0)), (1, .int p0), (2, .int p1), (3, .int p2)] := hl
  have L16 : ∀ (rw : Nat → Int32) (dg : Nat → Int32) (x1 : Int32) (x2 : Int32) (x3 : Int32) (k16 : Int32 → Option ((Nat → Int32) × (Nat → Int32))), (∀ (x4 : Int32) (di : Nat → Int32) (H : Heap) (locs : List Loc) (ls : Array Slot), va_P D vwCl (ww 6 ad (cellR cI ad th kk mn md rw dg kn fc oft di)) H → va_S (ww_A 6 ad) s.heap H locs → lv_has ls 5 [(0, .ref (ad 0)), (1, .int x1), (2, .int x2), (3, .int x3), (4, .int x4)] →  k16 x4 = some res → W p l e (headSpec usX5_set { frames := 0, cells := 0, slots := 0, locals := 0 }).room s m [.ref (ad 0), .int p0, .int p1, .int p2].toArray below meth c H locs 0 0 (MQ below (ct_Qx D (fun di => ww 6 ad (cellR cI ad th kk mn md res.1 res.2 kn fc oft di)) (ww_A 6 ad) (none)) [.ref (ad 0), .int p0, .int p1, .int p2].toArray s 0 0 (ww_A 6 ad)) (F0 m 42 ls [])) → ∀ (n : Nat) (x4 : Int32) (di : Nat → Int32) (H : Heap) (locs : List Loc) (ls : Array Slot), va_P D vwCl (ww 6 ad (cellR cI ad th kk mn md rw dg kn fc oft di)) H → va_S (ww_A 6 ad) s.heap H locs → lv_has ls 5 [(0, .ref (ad 0)), (1, .int x1), (2, .int x2), (3, .int x3), (4, .int x4)] →  f_X5_set_l16 k16 fu rw dg x1 x2 x3 n x4 = some res → W p l e (headSpec usX5_set { frames := 0, cells := 0, slots := 0, locals := 0 }).room s m [.ref (ad 0), .int p0, .int p1, .int p2].toArray below meth c H locs 0 0 (MQ below (ct_Qx D (fun di => ww 6 ad (cellR cI ad th kk mn md res.1 res.2 kn fc oft di)) (ww_A 6 ad) (none)) [.ref (ad 0), .int p0, .int p1, .int p2].toArray s 0 0 (ww_A 6 ad)) (F0 m 16 ls []) := by
    intro rw dg x1 x2 x3 k16 hk_16 n
    induction n with
    | zero => intro x4 di H locs ls hP hS hl hf; rw [f_X5_set_l16] at hf; cases hf
    | succ n ih =>
      intro x4 di H locs ls hP hS hl hf
      rw [f_X5_set_l16] at hf
      refine lv_iload hx hb dX5_set_16 (lv_at hl 4 rfl) ?_
      refine lv_if_lt (tgt := 42) hx hb dX5_set_18 (by decide) (fun c2 => ?_) (fun c2 => ?_)
      · rw [if_pos c2] at hf
        exact hk_16 x4 _ _ _ _ hP hS (lv_sub hl [0, 1, 2, 3, 4] rfl) hf
      · rw [if_neg c2] at hf
        refine lv_aload_n hx hb dX5_set_21 rfl (lv_at hl 0 rfl) ?_
        refine va_get (ci := 5) (v := .ref (ad 3)) (C := RX5) (T := TX5) (N := 10) hx hb hts (fun w h => BW_in (in_wsX50 w h)) hown hK hP 0 cr_mdl rfl 5 (by decide) (hts (.fieldLink RX5 26 "NumberFieldFactorsModel" "row" "[I") (BW_in mw_317)) (fun _ h9 => h9) rfl dX5_set_22 ?_
        refine lv_bipush (v := 16) hx hb dX5_set_25 (by decide) ?_
        refine lv_iload_n hx hb dX5_set_27 rfl (lv_at hl 1 rfl) ?_
        refine lv_imul hx hb dX5_set_28 ?_
        refine lv_iload hx hb dX5_set_29 (lv_at hl 4 rfl) ?_
        refine lv_iadd hx hb dX5_set_31 ?_
        by_cases b3 : ((16 * x1) + x4) < 0 ∨ 400 ≤ ((16 * x1) + x4).toNatClampNeg
        · rw [if_pos b3] at hf; cases hf
        rw [if_neg b3] at hf
        refine va_iald hx hb hK hP 3 0 cr_rw htI b3 dX5_set_32 ?_
        refine lv_if_ne (tgt := 42) hx hb dX5_set_33 (by decide) (fun c4 => ?_) (fun c4 => ?_)
        · rw [if_neg c4] at hf
          exact hk_16 x4 _ _ _ _ hP hS (lv_sub hl [0, 1, 2, 3, 4] rfl) hf
        · rw [if_pos c4] at hf
          refine lv_iinc (v := x4 + (-1)) (lv' := [(4, .int (x4 + (-1))), (0, .ref (ad 0)), (1, .int x1), (2, .int x2), (3, .int x3)]) hx hb dX5_set_36 hl (k := 4) rfl rfl (by decide) rfl (fun ls hl => ?_)
          refine lv_goto (tgt := 16) hx hb dX5_set_39 (by decide) ?_
          exact ih (x4 + (-1)) _ _ _ _ hP hS (lv_sub hl [1, 2, 3, 4, 0] rfl) hf
  unfold f_X5_set at hf
  refine lv_aload_n hx hb dX5_set_0 rfl (lv_at hl 0 rfl) ?_
  refine va_get (ci := 5) (v := .ref (ad 3)) (C := RX5) (T := TX5) (N := 10) hx hb hts (fun w h => BW_in (in_wsX50 w h)) hown hK hP 0 cr_mdl rfl 5 (by decide) (hts (.fieldLink RX5 26 "NumberFieldFactorsModel" "row" "[I") (BW_in mw_317)) (fun _ h9 => h9) rfl dX5_set_1 ?_
  refine lv_bipush (v := 16) hx hb dX5_set_4 (by decide) ?_
  refine lv_iload_n hx hb dX5_set_6 rfl (lv_at hl 1 rfl) ?_
  refine lv_imul hx hb dX5_set_7 ?_
  refine lv_iload_n hx hb dX5_set_8 rfl (lv_at hl 2 rfl) ?_
  refine lv_iadd hx hb dX5_set_9 ?_
  refine lv_iload_n hx hb dX5_set_10 rfl (lv_at hl 3 rfl) ?_
  by_cases b1 : ((16 * p0) + p1) < 0 ∨ 400 ≤ ((16 * p0) + p1).toNatClampNeg
  · rw [if_pos b1] at hf; cases hf
  rw [if_neg b1] at hf
  refine va_iast hx hb hK hP (ww_D hj) hS 3 0 cr_rw htI b1 dX5_set_11 (fun H locs hP hD hS => ?_)
  have hP := cs_rw hP
  refine lv_bipush (v := 15) hx hb dX5_set_12 (by decide) ?_
  refine lv_istore (lv' := [(4, .int 15), (0, .ref (ad 0)), (1, .int p0), (2, .int p1), (3, .int p2)]) hx hb dX5_set_14 hl (by decide) rfl (fun ls hl => ?_)
  refine L16 (upd rw ((16 * p0) + p1).toNatClampNeg p2) dg p0 p1 p2 _ (fun y5 di H locs ls hP hS hl hf => ?_) fu 15 _ _ _ _ hP hS (lv_sub hl [1, 2, 3, 4, 0] rfl) hf
  try dsimp only at hf
  refine lv_aload_n hx hb dX5_set_42 rfl (lv_at hl 0 rfl) ?_
  refine va_get (ci := 5) (v := .ref (ad 4)) (C := RX5) (T := TX5) (N := 10) hx hb hts (fun w h => BW_in (in_wsX50 w h)) hown hK hP 0 cr_mdl rfl 6 (by decide) (hts (.fieldLink RX5 29 "NumberFieldFactorsModel" "degree" "[I") (BW_in mw_318)) (fun _ h9 => h9) rfl dX5_set_43 ?_
  refine lv_iload_n hx hb dX5_set_46 rfl (lv_at hl 1 rfl) ?_
  refine lv_iload hx hb dX5_set_47 (lv_at hl 4 rfl) ?_
  by_cases b6 : p0 < 0 ∨ 25 ≤ (p0).toNatClampNeg
  · rw [if_pos b6] at hf; cases hf
  rw [if_neg b6] at hf
  refine va_iast hx hb hK hP (ww_D hj) hS 4 0 cr_dg htI b6 dX5_set_49 (fun H locs hP hD hS => ?_)
  have hP := cs_dg hP
  obtain rfl := Option.some.inj hf
  exact W.vret hx hb hr (fun t ht hW => ⟨rfl, ⟨di, by rw [ht]; exact hP⟩, hS.F ht⟩) hS.2.2 dX5_set_50
def f_X5_cell (rw : Nat → Int32) (p0 : Int32) (p1 : Int32) : Option (Int32) :=
  if ((16 * p0) + p1) < 0 ∨ 400 ≤ ((16 * p0) + p1).toNatClampNeg then none else
  some (rw ((16 * p0) + p1).toNatClampNeg)
set_option maxHeartbeats 4000000 in
set_option maxRecDepth 100000 in
theorem C_X5_cell (l : Launch) (D : va_G) (tys : List (ClassId × FieldType)) {ad : Nat → Nat} (hj : ww_inj 6 ad) {cI : ClassId} (htI : tys[0]? = some (cI, .int)) {th : Int32} {kk : Int32} {mn : Int64} {md : Nat → Int32} {rw : Nat → Int32} {dg : Nat → Int32} {kn : Int32} {fc : Int32} {oft : Nat → Int32} {p0 : Int32} {p1 : Int32} {res : Int32} (hf : f_X5_cell rw p0 p1 = some res) :
    Met l yX5_cell usX5_cell ({ frames := 0, cells := 0, slots := 0, locals := 0 }) (va_Pc [.ref (ad 0), .int p0, .int p1] (ws_Bx D tys (fun di => ww 6 ad (cellR cI ad th kk mn md rw dg kn fc oft di)))) (ct_Qx D (fun di => ww 6 ad (cellR cI ad th kk mn md rw dg kn fc oft di)) (ww_A 6 ad) (some (.int res))) 0 0 (ww_A 6 ad) := by
  refine Met.ofW (cc := cX5_cell) (maxL := 3) (ret := (some .int)) (by decide) rfl ?_
  intro p e s m args below meth c s₁ B hml hv
  obtain ⟨rfl, ⟨di, hP⟩, hK⟩ := hv
  have hx := B.exec
  have hb := B.bytes
  have hr := B.returns
  have hts := atoms_spec (ws := usX5_cell) B.pre
  have hown : s.vm.findClass RX5 = some m.cls := findClass_of_methodNamed B.named
  have hlocks := B.notSynchronized
  have hS : va_S (ww_A 6 ad) s.heap s.heap [] := va_S.rf
  have hl := lv_entry ([.ref (ad 0), .int p0, .int p1]) (n := 3) (Nat.le_of_ble_eq_true rfl)
  rw [lg_entry_eq]
  generalize (lg_sl ([.ref (ad 0), .int p0, .int p1]) ++ List.replicate (3 - (lg_sl ([.ref (ad 0), .int p0, .int p1])).length) Slot.unset).toArray = ls at hl ⊢
  have hl : lv_has ls 3 [(0, .ref (ad 0)), (1, .int p0), (2, .int p1)] := hl
  unfold f_X5_cell at hf
  refine lv_aload_n hx hb dX5_cell_0 rfl (lv_at hl 0 rfl) ?_
  refine va_get (ci := 5) (v := .ref (ad 3)) (C := RX5) (T := TX5) (N := 10) hx hb hts (fun w h => BW_in (in_wsX50 w h)) hown hK hP 0 cr_mdl rfl 5 (by decide) (hts (.fieldLink RX5 26 "NumberFieldFactorsModel" "row" "[I") (BW_in mw_317)) (fun _ h9 => h9) rfl dX5_cell_1 ?_
  refine lv_bipush (v := 16) hx hb dX5_cell_4 (by decide) ?_
  refine lv_iload_n hx hb dX5_cell_6 rfl (lv_at hl 1 rfl) ?_
  refine lv_imul hx hb dX5_cell_7 ?_
  refine lv_iload_n hx hb dX5_cell_8 rfl (lv_at hl 2 rfl) ?_
  refine lv_iadd hx hb dX5_cell_9 ?_
  by_cases b1 : ((16 * p0) + p1) < 0 ∨ 400 ≤ ((16 * p0) + p1).toNatClampNeg
  · rw [if_pos b1] at hf; cases hf
  rw [if_neg b1] at hf
  refine va_iald hx hb hK hP 3 0 cr_rw htI b1 dX5_cell_10 ?_
  obtain rfl := Option.some.inj hf
  exact W.iret (v := rw ((16 * p0) + p1).toNatClampNeg) hx hb hr (fun t ht hW => ⟨rfl, ⟨di, by rw [ht]; exact hP⟩, hS.F ht⟩) hS.2.2 dX5_cell_11
def f_X5_field_l66 (k66 : Int32 → Option (Int32 × (Int32) × (Int32) × (Int64) × (Nat → Int32) × (Nat → Int32) × (Nat → Int32) × (Int32))) (fu : Nat) (th : Int32) (kk : Int32) (mn : Int64) (md : Nat → Int32) (rw : Nat → Int32) (dg : Nat → Int32) (kn : Int32) (x1 : Int32) (x2 : Int64) (x4 : Int64) (x6 : Int64) (x8 : Int32) (x9 : Int32) (x10 : Int32) : Nat → Int32 → Option (Int32 × (Int32) × (Int32) × (Int64) × (Nat → Int32) × (Nat → Int32) × (Nat → Int32) × (Int32))
  | 0, _ => none
  | n + 1, x11 =>
    if 101 ≤ x11 then
      k66 x11
    else
      if x1 ≤ 1 then
        k66 x11
      else
        ((
          if x1 = 2 then
            some (((x11 * x11) + (x9 * x11)) + x8)
          else
            some (((((jrem (x11 * x11) 101) * x11) + (x10 * (jrem (x11 * x11) 101))) + (x9 * x11)) + x8) : Option (Int32))).bind (fun w20 =>
        if (jrem w20 101) = 0 then
          some (0, th, kk, mn, md, rw, dg, kn)
        else
          f_X5_field_l66 k66 fu th kk mn md rw dg kn x1 x2 x4 x6 x8 x9 x10 n (x11 + 1))
def f_X5_field (fu : Nat) (th : Int32) (kk : Int32) (mn : Int64) (md : Nat → Int32) (rw : Nat → Int32) (dg : Nat → Int32) (kn : Int32) (p0 : Int32) (p1 : Int64) (p2 : Int64) (p3 : Int64) : Option (Int32 × (Int32) × (Int32) × (Int64) × (Nat → Int32) × (Nat → Int32) × (Nat → Int32) × (Int32)) :=
  ((
    if p0 < 1 then
      some 1
    else
      ((
        if p0 ≤ 3 then
          some 0
        else
          some 1 : Option (Int32))).bind (fun w3 =>
      some w3) : Option (Int32))).bind (fun w1 =>
  (f_X5_fails th w1 0).bind (fun u5 =>
  if u5.1 = 0 then
    (f_X5_number p1).bind (fun u8 =>
    ((
      if p0 ≤ 1 then
        some 0
      else
        (f_X5_number p2).bind (fun u12 =>
        some u12) : Option (Int32))).bind (fun w10 =>
    ((
      if p0 ≤ 2 then
        some 0
      else
        (f_X5_number p3).bind (fun u16 =>
        some u16) : Option (Int32))).bind (fun w14 =>
    f_X5_field_l66 (fun y23 =>
      ((
        if p0 = 1 then
          some 101
        else
          ((
            if p0 = 2 then
              some 10201
            else
              some 1030301 : Option (Int64))).bind (fun w26 =>
          some w26) : Option (Int64))).bind (fun w24 =>
      if (0 : Int32) < 0 ∨ 4 ≤ (0 : Int32).toNatClampNeg then none else
      ((
        if p0 = 1 then
          some 1
        else
          some w10 : Option (Int32))).bind (fun w29 =>
      if (1 : Int32) < 0 ∨ 4 ≤ (1 : Int32).toNatClampNeg then none else
      ((
        if p0 = 2 then
          some 1
        else
          some w14 : Option (Int32))).bind (fun w32 =>
      if (2 : Int32) < 0 ∨ 4 ≤ (2 : Int32).toNatClampNeg then none else
      ((
        if p0 = 3 then
          some 1
        else
          some 0 : Option (Int32))).bind (fun w35 =>
      if (3 : Int32) < 0 ∨ 4 ≤ (3 : Int32).toNatClampNeg then none else
      (f_X5_clear fu rw dg 0).bind (fun u38 =>
      some (1, u5.2, p0, w24, upd (upd (upd (upd md (0 : Int32).toNatClampNeg u8) (1 : Int32).toNatClampNeg w29) (2 : Int32).toNatClampNeg w32) (3 : Int32).toNatClampNeg w35, u38.1, u38.2, 0))))))) fu u5.2 kk mn md rw dg kn p0 p1 p2 p3 u8 w10 w14 fu 0)))
  else
    some (0, u5.2, kk, mn, md, rw, dg, kn)))
set_option maxHeartbeats 4000000 in
set_option maxRecDepth 100000 in
theorem C_X5_field (l : Launch) (D : va_G) (tys : List (ClassId × FieldType)) {ad : Nat → Nat} (hj : ww_inj 6 ad) {cI : ClassId} (htI : tys[0]? = some (cI, .int)) {fu : Nat} {th : Int32} {kk : Int32} {mn : Int64} {md : Nat → Int32} {rw : Nat → Int32} {dg : Nat → Int32} {kn : Int32} {fc : Int32} {oft : Nat → Int32} {p0 : Int32} {p1 : Int64} {p2 : Int64} {p3 : Int64} {res : Int32 × (Int32) × (Int32) × (Int64) × (Nat → Int32) × (Nat → Int32) × (Nat → Int32) × (Int32)} (hf : f_X5_field fu th kk mn md rw dg kn p0 p1 p2 p3 = some res) :
    Met l yX5_field usX5_field ({ frames := 1, cells := 0, slots := 0, locals := 22 }) (va_Pc [.ref (ad 0), .int p0, .long p1, .long p2, .long p3] (ws_Bx D tys (fun di => ww 6 ad (cellR cI ad th kk mn md rw dg kn fc oft di)))) (ct_Qx D (fun di => ww 6 ad (cellR cI ad res.2.1 res.2.2.1 res.2.2.2.1 res.2.2.2.2.1 res.2.2.2.2.2.1 res.2.2.2.2.2.2.1 res.2.2.2.2.2.2.2 fc oft di)) (ww_A 6 ad) (some (.int res.1))) 0 0 (ww_A 6 ad) := by
  refine Met.ofW (cc := cX5_field) (maxL := 13) (ret := (some .boolean)) (by decide) rfl ?_
  intro p e s m args below meth c s₁ B hml hv
  obtain ⟨rfl, ⟨di, hP⟩, hK⟩ := hv
  have hx := B.exec
  have hb := B.bytes
  have hr := B.returns
  have hts := atoms_spec (ws := usX5_field) B.pre
  have hown : s.vm.findClass RX5 = some m.cls := findClass_of_methodNamed B.named
  have hlocks := B.notSynchronized
  have hS : va_S (ww_A 6 ad) s.heap s.heap [] := va_S.rf
  have hl := lv_entry ([.ref (ad 0), .int p0, .long p1, .long p2, .long p3]) (n := 13) (Nat.le_of_ble_eq_true rfl)
  rw [lg_entry_eq]
  generalize (lg_sl ([.ref (ad 0), .int p0, .long p1, .long p2, .long p3]) ++ List.replicate (13 - (lg_sl ([.ref (ad 0), .int p0, .long p1, .long p2, .long p3])).length) Slot.unset).toArray = ls at hl ⊢
  have hl : lv_has ls 13 [(0, .ref (ad 0)), (1, .int p0), (2, .long p1), (4, .long p2), (6, .long p3)] := hl
  have L66 : ∀ (th : Int32) (kk : Int32) (mn : Int64) (md : Nat → Int32) (rw : Nat → Int32) (dg : Nat → Int32) (kn : Int32) (x1 : Int32) (x2 : Int64) (x4 : Int64) (x6 : Int64) (x8 : Int32) (x9 : Int32) (x10 : Int32) (k66 : Int32 → Option (Int32 × (Int32) × (Int32) × (Int64) × (Nat → Int32) × (Nat → Int32) × (Nat → Int32) × (Int32))), (∀ (x11 : Int32) (di : Nat → Int32) (H : Heap) (locs : List Loc) (ls : Array Slot), va_P D vwCl (ww 6 ad (cellR cI ad th kk mn md rw dg kn fc oft di)) H → va_S (ww_A 6 ad) s.heap H locs → lv_has ls 13 [(0, .ref (ad 0)), (1, .int x1), (2, .long x2), (4, .long x4), (6, .long x6), (8, .int x8), (9, .int x9), (10, .int x10), (11, .int x11)] →  k66 x11 = some res → W p l e (headSpec usX5_field { frames := 1, cells := 0, slots := 0, locals := 22 }).room s m [.ref (ad 0), .int p0, .long p1, .long p2, .long p3].toArray below meth c H locs 0 0 (MQ below (ct_Qx D (fun di => ww 6 ad (cellR cI ad res.2.1 res.2.2.1 res.2.2.2.1 res.2.2.2.2.1 res.2.2.2.2.2.1 res.2.2.2.2.2.2.1 res.2.2.2.2.2.2.2 fc oft di)) (ww_A 6 ad) (some (.int res.1))) [.ref (ad 0), .int p0, .long p1, .long p2, .long p3].toArray s 0 0 (ww_A 6 ad)) (F0 m 150 ls [])) → ∀ (n : Nat) (x11 : Int32) (di : Nat → Int32) (H : Heap) (locs : List Loc) (ls : Array Slot), va_P D vwCl (ww 6 ad (cellR cI ad th kk mn md rw dg kn fc oft di)) H → va_S (ww_A 6 ad) s.heap H locs → lv_has ls 13 [(0, .ref (ad 0)), (1, .int x1), (2, .long x2), (4, .long x4), (6, .long x6), (8, .int x8), (9, .int x9), (10, .int x10), (11, .int x11)] →  f_X5_field_l66 k66 fu th kk mn md rw dg kn x1 x2 x4 x6 x8 x9 x10 n x11 = some res → W p l e (headSpec usX5_field { frames := 1, cells := 0, slots := 0, locals := 22 }).room s m [.ref (ad 0), .int p0, .long p1, .long p2, .long p3].toArray below meth c H locs 0 0 (MQ below (ct_Qx D (fun di => ww 6 ad (cellR cI ad res.2.1 res.2.2.1 res.2.2.2.1 res.2.2.2.2.1 res.2.2.2.2.2.1 res.2.2.2.2.2.2.1 res.2.2.2.2.2.2.2 fc oft di)) (ww_A 6 ad) (some (.int res.1))) [.ref (ad 0), .int p0, .long p1, .long p2, .long p3].toArray s 0 0 (ww_A 6 ad)) (F0 m 66 ls []) := by
    intro th kk mn md rw dg kn x1 x2 x4 x6 x8 x9 x10 k66 hk_66 n
    induction n with
    | zero => intro x11 di H locs ls hP hS hl hf; rw [f_X5_field_l66] at hf; cases hf
    | succ n ih =>
      intro x11 di H locs ls hP hS hl hf
      rw [f_X5_field_l66] at hf
      refine lv_iload hx hb dX5_field_66 (lv_at hl 8 rfl) ?_
      refine lv_bipush (v := 101) hx hb dX5_field_68 (by decide) ?_
      refine lv_icmp_ge (tgt := 150) hx hb dX5_field_70 (by decide) (fun c18 => ?_) (fun c18 => ?_)
      · rw [if_pos c18] at hf
        exact hk_66 x11 _ _ _ _ hP hS (lv_sub hl [0, 1, 2, 3, 4, 5, 6, 7, 8] rfl) hf
      · rw [if_neg c18] at hf
        refine lv_iload_n hx hb dX5_field_73 rfl (lv_at hl 1 rfl) ?_
        refine lv_iconst (v := 1) hx hb dX5_field_74 (by decide) ?_
        refine lv_icmp_le (tgt := 150) hx hb dX5_field_75 (by decide) (fun c19 => ?_) (fun c19 => ?_)
        · rw [if_pos c19] at hf
          exact hk_66 x11 _ _ _ _ hP hS (lv_sub hl [0, 1, 2, 3, 4, 5, 6, 7, 8] rfl) hf
        · rw [if_neg c19] at hf
          refine lv_iload_n hx hb dX5_field_78 rfl (lv_at hl 1 rfl) ?_
          refine lv_iconst (v := 2) hx hb dX5_field_79 (by decide) ?_
          obtain ⟨w20, gw20, hf⟩ := Option.bind_eq_some_iff.mp hf
          try dsimp only at hf
          have hJ132_w20 : ∀ (di : Nat → Int32) (H : Heap) (locs : List Loc) (ls : Array Slot), va_P D vwCl (ww 6 ad (cellR cI ad th kk mn md rw dg kn fc oft di)) H → va_S (ww_A 6 ad) s.heap H locs → lv_has ls 13 [(0, .ref (ad 0)), (1, .int x1), (2, .long x2), (4, .long x4), (6, .long x6), (8, .int x8), (9, .int x9), (10, .int x10), (11, .int x11)] → W p l e (headSpec usX5_field { frames := 1, cells := 0, slots := 0, locals := 22 }).room s m [.ref (ad 0), .int p0, .long p1, .long p2, .long p3].toArray below meth c H locs 0 0 (MQ below (ct_Qx D (fun di => ww 6 ad (cellR cI ad res.2.1 res.2.2.1 res.2.2.2.1 res.2.2.2.2.1 res.2.2.2.2.2.1 res.2.2.2.2.2.2.1 res.2.2.2.2.2.2.2 fc oft di)) (ww_A 6 ad) (some (.int res.1))) [.ref (ad 0), .int p0, .long p1, .long p2, .long p3].toArray s 0 0 (ww_A 6 ad)) (F0 m 132 ls [.int w20]) := by
            intro di H locs ls hP hS hl
            refine lv_istore (lv' := [(12, .int w20), (0, .ref (ad 0)), (1, .int x1), (2, .long x2), (4, .long x4), (6, .long x6), (8, .int x8), (9, .int x9), (10, .int x10), (11, .int x11)]) hx hb dX5_field_132 hl (by decide) rfl (fun ls hl => ?_)
            refine lv_iload hx hb dX5_field_134 (lv_at hl 0 rfl) ?_
            refine lv_bipush (v := 101) hx hb dX5_field_136 (by decide) ?_
            refine jv_irem hx hb dX5_field_138 (by decide) ?_
            refine lv_if_ne (tgt := 144) hx hb dX5_field_139 (by decide) (fun c22 => ?_) (fun c22 => ?_)
            · rw [if_neg c22] at hf
              refine lv_iinc (v := x11 + 1) (lv' := [(11, .int (x11 + 1)), (12, .int w20), (0, .ref (ad 0)), (1, .int x1), (2, .long x2), (4, .long x4), (6, .long x6), (8, .int x8), (9, .int x9), (10, .int x10)]) hx hb dX5_field_144 hl (k := 9) rfl rfl (by decide) rfl (fun ls hl => ?_)
              refine lv_goto (tgt := 66) hx hb dX5_field_147 (by decide) ?_
              exact ih (x11 + 1) _ _ _ _ hP hS (lv_sub hl [2, 3, 4, 5, 6, 7, 8, 9, 0] rfl) hf
            · rw [if_pos c22] at hf
              refine lv_iconst (v := 0) hx hb dX5_field_142 (by decide) ?_
              obtain rfl := Option.some.inj hf
              exact W.zret (v := 0) (ty := .boolean) hx hb hr (by decide) (fun t ht hW => ⟨rfl, ⟨di, by rw [ht]; exact hP⟩, hS.F ht⟩) hS.2.2 dX5_field_143
          refine lv_icmp_ne (tgt := 100) hx hb dX5_field_80 (by decide) (fun c21 => ?_) (fun c21 => ?_)
          · rw [if_neg c21] at gw20
            refine lv_iload hx hb dX5_field_100 (lv_at hl 8 rfl) ?_
            refine lv_iload hx hb dX5_field_102 (lv_at hl 8 rfl) ?_
            refine lv_imul hx hb dX5_field_104 ?_
            refine lv_bipush (v := 101) hx hb dX5_field_105 (by decide) ?_
            refine jv_irem hx hb dX5_field_107 (by decide) ?_
            refine lv_iload hx hb dX5_field_108 (lv_at hl 8 rfl) ?_
            refine lv_imul hx hb dX5_field_110 ?_
            refine lv_iload hx hb dX5_field_111 (lv_at hl 7 rfl) ?_
            refine lv_iload hx hb dX5_field_113 (lv_at hl 8 rfl) ?_
            refine lv_iload hx hb dX5_field_115 (lv_at hl 8 rfl) ?_
            refine lv_imul hx hb dX5_field_117 ?_
            refine lv_bipush (v := 101) hx hb dX5_field_118 (by decide) ?_
            refine jv_irem hx hb dX5_field_120 (by decide) ?_
            refine lv_imul hx hb dX5_field_121 ?_
            refine lv_iadd hx hb dX5_field_122 ?_
            refine lv_iload hx hb dX5_field_123 (lv_at hl 6 rfl) ?_
            refine lv_iload hx hb dX5_field_125 (lv_at hl 8 rfl) ?_
            refine lv_imul hx hb dX5_field_127 ?_
            refine lv_iadd hx hb dX5_field_128 ?_
            refine lv_iload hx hb dX5_field_129 (lv_at hl 5 rfl) ?_
            refine lv_iadd hx hb dX5_field_131 ?_
            obtain rfl := Option.some.inj gw20
            exact hJ132_w20 _ _ _ _ hP hS (lv_sub hl [0, 1, 2, 3, 4, 5, 6, 7, 8] rfl)
          · rw [if_pos c21] at gw20
            refine lv_iload hx hb dX5_field_83 (lv_at hl 8 rfl) ?_
            refine lv_iload hx hb dX5_field_85 (lv_at hl 8 rfl) ?_
            refine lv_imul hx hb dX5_field_87 ?_
            refine lv_iload hx hb dX5_field_88 (lv_at hl 6 rfl) ?_
            refine lv_iload hx hb dX5_field_90 (lv_at hl 8 rfl) ?_
            refine lv_imul hx hb dX5_field_92 ?_
            refine lv_iadd hx hb dX5_field_93 ?_
            refine lv_iload hx hb dX5_field_94 (lv_at hl 5 rfl) ?_
            refine lv_iadd hx hb dX5_field_96 ?_
            refine lv_goto (tgt := 132) hx hb dX5_field_97 (by decide) ?_
            obtain rfl := Option.some.inj gw20
            exact hJ132_w20 _ _ _ _ hP hS (lv_sub hl [0, 1, 2, 3, 4, 5, 6, 7, 8] rfl)
  unfold f_X5_field at hf
  refine lv_aload_n hx hb dX5_field_0 rfl (lv_at hl 0 rfl) ?_
  refine lv_iload_n hx hb dX5_field_1 rfl (lv_at hl 1 rfl) ?_
  refine lv_iconst (v := 1) hx hb dX5_field_2 (by decide) ?_
  obtain ⟨w1, gw1, hf⟩ := Option.bind_eq_some_iff.mp hf
  try dsimp only at hf
  have hJ16_w1 : ∀ (di : Nat → Int32) (H : Heap) (locs : List Loc) (ls : Array Slot), va_P D vwCl (ww 6 ad (cellR cI ad th kk mn md rw dg kn fc oft di)) H → va_S (ww_A 6 ad) s.heap H locs → lv_has ls 13 [(0, .ref (ad 0)), (1, .int p0), (2, .long p1), (4, .long p2), (6, .long p3)] → W p l e (headSpec usX5_field { frames := 1, cells := 0, slots := 0, locals := 22 }).room s m [.ref (ad 0), .int p0, .long p1, .long p2, .long p3].toArray below meth c H locs 0 0 (MQ below (ct_Qx D (fun di => ww 6 ad (cellR cI ad res.2.1 res.2.2.1 res.2.2.2.1 res.2.2.2.2.1 res.2.2.2.2.2.1 res.2.2.2.2.2.2.1 res.2.2.2.2.2.2.2 fc oft di)) (ww_A 6 ad) (some (.int res.1))) [.ref (ad 0), .int p0, .long p1, .long p2, .long p3].toArray s 0 0 (ww_A 6 ad)) (F0 m 16 ls [.int w1, .ref (ad 0)]) := by
    intro di H locs ls hP hS hl
    refine lv_iconst (v := 0) hx hb dX5_field_16 (by decide) ?_
    obtain ⟨u5, g6, hf⟩ := Option.bind_eq_some_iff.mp hf
    try dsimp only at hf
    refine ct_callx (va_runV (As := [.int w1, .int 0]) (rest := []) ⟨hx, hb, hml, hown, hts⟩ (C_X5_fails l D tys hj htI (res := u5) g6) (cwV 2 hts (gu_V mw_356 mw_357 mw_358 mw_330 mw_322) rfl rfl rfl (by decide +kernel) ⟨Nat.le_of_ble_eq_true rfl, Nat.le_of_ble_eq_true rfl⟩) (ct_preVx (w := fun di => ww 6 ad (cellR cI ad th kk mn md rw dg kn fc oft di)) hP hK (ci := 5) (k := 0) rfl cr_mdl) rfl rfl hl.1 rfl (lv_room (Nat.le_of_ble_eq_true rfl)) dX5_field_17 ⟨Nat.zero_le _, Nat.zero_le _⟩) hS (fun di H locs hP hS => ?_)
    refine lv_if_eq (tgt := 25) hx hb dX5_field_20 (by decide) (fun c7 => ?_) (fun c7 => ?_)
    · rw [if_pos c7] at hf
      refine lv_lload_n hx hb dX5_field_25 rfl (lv_at hl 2 rfl) ?_
      obtain ⟨u8, g9, hf⟩ := Option.bind_eq_some_iff.mp hf
      try dsimp only at hf
      refine ct_callx (va_runS (As := [.long p1]) (rest := []) ⟨hx, hb, hml, hown, hts⟩ (C_X5_number l D tys hj htI (res := u8) g9) (cwS 1 hts (gu_S mw_359 mw_360 mw_330 mw_350) rfl rfl rfl (by decide +kernel) ⟨Nat.le_of_ble_eq_true rfl, Nat.le_of_ble_eq_true rfl⟩) (ct_preSx (w := fun di => ww 6 ad (cellR cI ad u5.2 kk mn md rw dg kn fc oft di)) hP hK) rfl rfl hl.1 rfl (lv_room (Nat.le_of_ble_eq_true rfl)) dX5_field_26 ⟨Nat.zero_le _, Nat.zero_le _⟩) hS (fun di H locs hP hS => ?_)
      refine lv_istore (lv' := [(8, .int u8), (0, .ref (ad 0)), (1, .int p0), (2, .long p1), (4, .long p2), (6, .long p3)]) hx hb dX5_field_29 hl (by decide) rfl (fun ls hl => ?_)
      refine lv_iload_n hx hb dX5_field_31 rfl (lv_at hl 2 rfl) ?_
      refine lv_iconst (v := 1) hx hb dX5_field_32 (by decide) ?_
      obtain ⟨w10, gw10, hf⟩ := Option.bind_eq_some_iff.mp hf
      try dsimp only at hf
      have hJ45_w10 : ∀ (di : Nat → Int32) (H : Heap) (locs : List Loc) (ls : Array Slot), va_P D vwCl (ww 6 ad (cellR cI ad u5.2 kk mn md rw dg kn fc oft di)) H → va_S (ww_A 6 ad) s.heap H locs → lv_has ls 13 [(0, .ref (ad 0)), (1, .int p0), (2, .long p1), (4, .long p2), (6, .long p3), (8, .int u8)] → W p l e (headSpec usX5_field { frames := 1, cells := 0, slots := 0, locals := 22 }).room s m [.ref (ad 0), .int p0, .long p1, .long p2, .long p3].toArray below meth c H locs 0 0 (MQ below (ct_Qx D (fun di => ww 6 ad (cellR cI ad res.2.1 res.2.2.1 res.2.2.2.1 res.2.2.2.2.1 res.2.2.2.2.2.1 res.2.2.2.2.2.2.1 res.2.2.2.2.2.2.2 fc oft di)) (ww_A 6 ad) (some (.int res.1))) [.ref (ad 0), .int p0, .long p1, .long p2, .long p3].toArray s 0 0 (ww_A 6 ad)) (F0 m 45 ls [.int w10]) := by
        intro di H locs ls hP hS hl
        refine lv_istore (lv' := [(9, .int w10), (0, .ref (ad 0)), (1, .int p0), (2, .long p1), (4, .long p2), (6, .long p3), (8, .int u8)]) hx hb dX5_field_45 hl (by decide) rfl (fun ls hl => ?_)
        refine lv_iload_n hx hb dX5_field_47 rfl (lv_at hl 2 rfl) ?_
        refine lv_iconst (v := 2) hx hb dX5_field_48 (by decide) ?_
        obtain ⟨w14, gw14, hf⟩ := Option.bind_eq_some_iff.mp hf
        try dsimp only at hf
        have hJ61_w14 : ∀ (di : Nat → Int32) (H : Heap) (locs : List Loc) (ls : Array Slot), va_P D vwCl (ww 6 ad (cellR cI ad u5.2 kk mn md rw dg kn fc oft di)) H → va_S (ww_A 6 ad) s.heap H locs → lv_has ls 13 [(0, .ref (ad 0)), (1, .int p0), (2, .long p1), (4, .long p2), (6, .long p3), (8, .int u8), (9, .int w10)] → W p l e (headSpec usX5_field { frames := 1, cells := 0, slots := 0, locals := 22 }).room s m [.ref (ad 0), .int p0, .long p1, .long p2, .long p3].toArray below meth c H locs 0 0 (MQ below (ct_Qx D (fun di => ww 6 ad (cellR cI ad res.2.1 res.2.2.1 res.2.2.2.1 res.2.2.2.2.1 res.2.2.2.2.2.1 res.2.2.2.2.2.2.1 res.2.2.2.2.2.2.2 fc oft di)) (ww_A 6 ad) (some (.int res.1))) [.ref (ad 0), .int p0, .long p1, .long p2, .long p3].toArray s 0 0 (ww_A 6 ad)) (F0 m 61 ls [.int w14]) := by
          intro di H locs ls hP hS hl
          refine lv_istore (lv' := [(10, .int w14), (0, .ref (ad 0)), (1, .int p0), (2, .long p1), (4, .long p2), (6, .long p3), (8, .int u8), (9, .int w10)]) hx hb dX5_field_61 hl (by decide) rfl (fun ls hl => ?_)
          refine lv_iconst (v := 0) hx hb dX5_field_63 (by decide) ?_
          refine lv_istore (lv' := [(11, .int 0), (10, .int w14), (0, .ref (ad 0)), (1, .int p0), (2, .long p1), (4, .long p2), (6, .long p3), (8, .int u8), (9, .int w10)]) hx hb dX5_field_64 hl (by decide) rfl (fun ls hl => ?_)
          refine L66 u5.2 kk mn md rw dg kn p0 p1 p2 p3 u8 w10 w14 _ (fun y23 di H locs ls hP hS hl hf => ?_) fu 0 _ _ _ _ hP hS (lv_sub hl [2, 3, 4, 5, 6, 7, 8, 1, 0] rfl) hf
          try dsimp only at hf
          refine lv_aload_n hx hb dX5_field_150 rfl (lv_at hl 0 rfl) ?_
          refine lv_iload_n hx hb dX5_field_151 rfl (lv_at hl 1 rfl) ?_
          refine va_put (ci := 5) (v := .int p0) (ty := .int) (C := RX5) (T := TX5) (N := 10) hx hb hts (fun w h => BW_in (in_wsX50 w h)) tyX5 tyX5_ok nmX5 hown hK hP (ww_D hj) hS 0 cr_mdl rfl 1 (by decide) (hts (.fieldLink RX5 7 "NumberFieldFactorsModel" "k" "I") (BW_in mw_312)) (fun _ h9 => h9) rfl (by decide +kernel) rfl rfl (Nat.le_of_ble_eq_true rfl) dX5_field_152 (fun H locs hP hD hS => ?_)
          have hP := cs_kk hP
          refine lv_aload_n hx hb dX5_field_155 rfl (lv_at hl 0 rfl) ?_
          refine lv_iload_n hx hb dX5_field_156 rfl (lv_at hl 1 rfl) ?_
          refine lv_iconst (v := 1) hx hb dX5_field_157 (by decide) ?_
          obtain ⟨w24, gw24, hf⟩ := Option.bind_eq_some_iff.mp hf
          try dsimp only at hf
          have hJ181_w24 : ∀ (di : Nat → Int32) (H : Heap) (locs : List Loc) (ls : Array Slot), va_P D vwCl (ww 6 ad (cellR cI ad u5.2 p0 mn md rw dg kn fc oft di)) H → va_S (ww_A 6 ad) s.heap H locs → lv_has ls 13 [(0, .ref (ad 0)), (1, .int p0), (2, .long p1), (4, .long p2), (6, .long p3), (8, .int u8), (9, .int w10), (10, .int w14), (11, .int y23)] → W p l e (headSpec usX5_field { frames := 1, cells := 0, slots := 0, locals := 22 }).room s m [.ref (ad 0), .int p0, .long p1, .long p2, .long p3].toArray below meth c H locs 0 0 (MQ below (ct_Qx D (fun di => ww 6 ad (cellR cI ad res.2.1 res.2.2.1 res.2.2.2.1 res.2.2.2.2.1 res.2.2.2.2.2.1 res.2.2.2.2.2.2.1 res.2.2.2.2.2.2.2 fc oft di)) (ww_A 6 ad) (some (.int res.1))) [.ref (ad 0), .int p0, .long p1, .long p2, .long p3].toArray s 0 0 (ww_A 6 ad)) (F0 m 181 ls [.long w24, .ref (ad 0)]) := by
            intro di H locs ls hP hS hl
            refine va_put (ci := 5) (v := .long w24) (ty := .long) (C := RX5) (T := TX5) (N := 10) hx hb hts (fun w h => BW_in (in_wsX50 w h)) tyX5 tyX5_ok nmX5 hown hK hP (ww_D hj) hS 0 cr_mdl rfl 2 (by decide) (hts (.fieldLink RX5 15 "NumberFieldFactorsModel" "many" "J") (BW_in mw_314)) (fun _ h9 => h9) rfl (by decide +kernel) rfl rfl (Nat.le_of_ble_eq_true rfl) dX5_field_181 (fun H locs hP hD hS => ?_)
            have hP := cs_mn hP
            refine lv_aload_n hx hb dX5_field_184 rfl (lv_at hl 0 rfl) ?_
            refine va_get (ci := 5) (v := .ref (ad 1)) (C := RX5) (T := TX5) (N := 10) hx hb hts (fun w h => BW_in (in_wsX50 w h)) hown hK hP 0 cr_mdl rfl 3 (by decide) (hts (.fieldLink RX5 19 "NumberFieldFactorsModel" "modulus" "[I") (BW_in mw_315)) (fun _ h9 => h9) rfl dX5_field_185 ?_
            refine lv_iconst (v := 0) hx hb dX5_field_188 (by decide) ?_
            refine lv_iload hx hb dX5_field_189 (lv_at hl 5 rfl) ?_
            by_cases b28 : (0 : Int32) < 0 ∨ 4 ≤ (0 : Int32).toNatClampNeg
            · rw [if_pos b28] at hf; cases hf
            rw [if_neg b28] at hf
            refine va_iast hx hb hK hP (ww_D hj) hS 1 0 cr_md htI b28 dX5_field_191 (fun H locs hP hD hS => ?_)
            have hP := cs_md hP
            refine lv_aload_n hx hb dX5_field_192 rfl (lv_at hl 0 rfl) ?_
            refine va_get (ci := 5) (v := .ref (ad 1)) (C := RX5) (T := TX5) (N := 10) hx hb hts (fun w h => BW_in (in_wsX50 w h)) hown hK hP 0 cr_mdl rfl 3 (by decide) (hts (.fieldLink RX5 19 "NumberFieldFactorsModel" "modulus" "[I") (BW_in mw_315)) (fun _ h9 => h9) rfl dX5_field_193 ?_
            refine lv_iconst (v := 1) hx hb dX5_field_196 (by decide) ?_
            refine lv_iload_n hx hb dX5_field_197 rfl (lv_at hl 1 rfl) ?_
            refine lv_iconst (v := 1) hx hb dX5_field_198 (by decide) ?_
            obtain ⟨w29, gw29, hf⟩ := Option.bind_eq_some_iff.mp hf
            try dsimp only at hf
            have hJ208_w29 : ∀ (di : Nat → Int32) (H : Heap) (locs : List Loc) (ls : Array Slot), va_P D vwCl (ww 6 ad (cellR cI ad u5.2 p0 w24 (upd md (0 : Int32).toNatClampNeg u8) rw dg kn fc oft di)) H → va_S (ww_A 6 ad) s.heap H locs → lv_has ls 13 [(0, .ref (ad 0)), (1, .int p0), (2, .long p1), (4, .long p2), (6, .long p3), (8, .int u8), (9, .int w10), (10, .int w14), (11, .int y23)] → W p l e (headSpec usX5_field { frames := 1, cells := 0, slots := 0, locals := 22 }).room s m [.ref (ad 0), .int p0, .long p1, .long p2, .long p3].toArray below meth c H locs 0 0 (MQ below (ct_Qx D (fun di => ww 6 ad (cellR cI ad res.2.1 res.2.2.1 res.2.2.2.1 res.2.2.2.2.1 res.2.2.2.2.2.1 res.2.2.2.2.2.2.1 res.2.2.2.2.2.2.2 fc oft di)) (ww_A 6 ad) (some (.int res.1))) [.ref (ad 0), .int p0, .long p1, .long p2, .long p3].toArray s 0 0 (ww_A 6 ad)) (F0 m 208 ls [.int w29, .int 1, .ref (ad 1)]) := by
              intro di H locs ls hP hS hl
              by_cases b31 : (1 : Int32) < 0 ∨ 4 ≤ (1 : Int32).toNatClampNeg
              · rw [if_pos b31] at hf; cases hf
              rw [if_neg b31] at hf
              refine va_iast hx hb hK hP (ww_D hj) hS 1 0 cr_md htI b31 dX5_field_208 (fun H locs hP hD hS => ?_)
              have hP := cs_md hP
              refine lv_aload_n hx hb dX5_field_209 rfl (lv_at hl 0 rfl) ?_
              refine va_get (ci := 5) (v := .ref (ad 1)) (C := RX5) (T := TX5) (N := 10) hx hb hts (fun w h => BW_in (in_wsX50 w h)) hown hK hP 0 cr_mdl rfl 3 (by decide) (hts (.fieldLink RX5 19 "NumberFieldFactorsModel" "modulus" "[I") (BW_in mw_315)) (fun _ h9 => h9) rfl dX5_field_210 ?_
              refine lv_iconst (v := 2) hx hb dX5_field_213 (by decide) ?_
              refine lv_iload_n hx hb dX5_field_214 rfl (lv_at hl 1 rfl) ?_
              refine lv_iconst (v := 2) hx hb dX5_field_215 (by decide) ?_
              obtain ⟨w32, gw32, hf⟩ := Option.bind_eq_some_iff.mp hf
              try dsimp only at hf
              have hJ225_w32 : ∀ (di : Nat → Int32) (H : Heap) (locs : List Loc) (ls : Array Slot), va_P D vwCl (ww 6 ad (cellR cI ad u5.2 p0 w24 (upd (upd md (0 : Int32).toNatClampNeg u8) (1 : Int32).toNatClampNeg w29) rw dg kn fc oft di)) H → va_S (ww_A 6 ad) s.heap H locs → lv_has ls 13 [(0, .ref (ad 0)), (1, .int p0), (2, .long p1), (4, .long p2), (6, .long p3), (8, .int u8), (9, .int w10), (10, .int w14), (11, .int y23)] → W p l e (headSpec usX5_field { frames := 1, cells := 0, slots := 0, locals := 22 }).room s m [.ref (ad 0), .int p0, .long p1, .long p2, .long p3].toArray below meth c H locs 0 0 (MQ below (ct_Qx D (fun di => ww 6 ad (cellR cI ad res.2.1 res.2.2.1 res.2.2.2.1 res.2.2.2.2.1 res.2.2.2.2.2.1 res.2.2.2.2.2.2.1 res.2.2.2.2.2.2.2 fc oft di)) (ww_A 6 ad) (some (.int res.1))) [.ref (ad 0), .int p0, .long p1, .long p2, .long p3].toArray s 0 0 (ww_A 6 ad)) (F0 m 225 ls [.int w32, .int 2, .ref (ad 1)]) := by
                intro di H locs ls hP hS hl
                by_cases b34 : (2 : Int32) < 0 ∨ 4 ≤ (2 : Int32).toNatClampNeg
                · rw [if_pos b34] at hf; cases hf
                rw [if_neg b34] at hf
                refine va_iast hx hb hK hP (ww_D hj) hS 1 0 cr_md htI b34 dX5_field_225 (fun H locs hP hD hS => ?_)
                have hP := cs_md hP
                refine lv_aload_n hx hb dX5_field_226 rfl (lv_at hl 0 rfl) ?_
                refine va_get (ci := 5) (v := .ref (ad 1)) (C := RX5) (T := TX5) (N := 10) hx hb hts (fun w h => BW_in (in_wsX50 w h)) hown hK hP 0 cr_mdl rfl 3 (by decide) (hts (.fieldLink RX5 19 "NumberFieldFactorsModel" "modulus" "[I") (BW_in mw_315)) (fun _ h9 => h9) rfl dX5_field_227 ?_
                refine lv_iconst (v := 3) hx hb dX5_field_230 (by decide) ?_
                refine lv_iload_n hx hb dX5_field_231 rfl (lv_at hl 1 rfl) ?_
                refine lv_iconst (v := 3) hx hb dX5_field_232 (by decide) ?_
                obtain ⟨w35, gw35, hf⟩ := Option.bind_eq_some_iff.mp hf
                try dsimp only at hf
                have hJ241_w35 : ∀ (di : Nat → Int32) (H : Heap) (locs : List Loc) (ls : Array Slot), va_P D vwCl (ww 6 ad (cellR cI ad u5.2 p0 w24 (upd (upd (upd md (0 : Int32).toNatClampNeg u8) (1 : Int32).toNatClampNeg w29) (2 : Int32).toNatClampNeg w32) rw dg kn fc oft di)) H → va_S (ww_A 6 ad) s.heap H locs → lv_has ls 13 [(0, .ref (ad 0)), (1, .int p0), (2, .long p1), (4, .long p2), (6, .long p3), (8, .int u8), (9, .int w10), (10, .int w14), (11, .int y23)] → W p l e (headSpec usX5_field { frames := 1, cells := 0, slots := 0, locals := 22 }).room s m [.ref (ad 0), .int p0, .long p1, .long p2, .long p3].toArray below meth c H locs 0 0 (MQ below (ct_Qx D (fun di => ww 6 ad (cellR cI ad res.2.1 res.2.2.1 res.2.2.2.1 res.2.2.2.2.1 res.2.2.2.2.2.1 res.2.2.2.2.2.2.1 res.2.2.2.2.2.2.2 fc oft di)) (ww_A 6 ad) (some (.int res.1))) [.ref (ad 0), .int p0, .long p1, .long p2, .long p3].toArray s 0 0 (ww_A 6 ad)) (F0 m 241 ls [.int w35, .int 3, .ref (ad 1)]) := by
                  intro di H locs ls hP hS hl
                  by_cases b37 : (3 : Int32) < 0 ∨ 4 ≤ (3 : Int32).toNatClampNeg
                  · rw [if_pos b37] at hf; cases hf
                  rw [if_neg b37] at hf
                  refine va_iast hx hb hK hP (ww_D hj) hS 1 0 cr_md htI b37 dX5_field_241 (fun H locs hP hD hS => ?_)
                  have hP := cs_md hP
                  refine lv_aload_n hx hb dX5_field_242 rfl (lv_at hl 0 rfl) ?_
                  refine lv_iconst (v := 0) hx hb dX5_field_243 (by decide) ?_
                  obtain ⟨u38, g39, hf⟩ := Option.bind_eq_some_iff.mp hf
                  try dsimp only at hf
                  refine ct_callx (va_runV (As := [.int 0]) (rest := []) ⟨hx, hb, hml, hown, hts⟩ (C_X5_clear l D tys hj htI (res := u38) g39) (cwV 1 hts (gu_V mw_361 mw_362 mw_363 mw_330 mw_351) rfl rfl rfl (by decide +kernel) ⟨Nat.le_of_ble_eq_true rfl, Nat.le_of_ble_eq_true rfl⟩) (ct_preVx (w := fun di => ww 6 ad (cellR cI ad u5.2 p0 w24 (upd (upd (upd (upd md (0 : Int32).toNatClampNeg u8) (1 : Int32).toNatClampNeg w29) (2 : Int32).toNatClampNeg w32) (3 : Int32).toNatClampNeg w35) rw dg kn fc oft di)) hP hK (ci := 5) (k := 0) rfl cr_mdl) rfl rfl hl.1 rfl (lv_room (Nat.le_of_ble_eq_true rfl)) dX5_field_244 ⟨Nat.zero_le _, Nat.zero_le _⟩) hS (fun di H locs hP hS => ?_)
                  refine lv_aload_n hx hb dX5_field_247 rfl (lv_at hl 0 rfl) ?_
                  refine lv_iconst (v := 0) hx hb dX5_field_248 (by decide) ?_
                  refine va_put (ci := 5) (v := .int 0) (ty := .boolean) (C := RX5) (T := TX5) (N := 10) hx hb hts (fun w h => BW_in (in_wsX50 w h)) tyX5 tyX5_ok nmX5 hown hK hP (ww_D hj) hS 0 cr_mdl rfl 7 (by decide) (hts (.fieldLink RX5 77 "NumberFieldFactorsModel" "known" "Z") (BW_in mw_355)) (fun _ h9 => h9) rfl (by decide +kernel) (by decide) rfl (Nat.le_of_ble_eq_true rfl) dX5_field_249 (fun H locs hP hD hS => ?_)
                  have hP := cs_kn hP
                  refine lv_iconst (v := 1) hx hb dX5_field_252 (by decide) ?_
                  obtain rfl := Option.some.inj hf
                  exact W.zret (v := 1) (ty := .boolean) hx hb hr (by decide) (fun t ht hW => ⟨rfl, ⟨di, by rw [ht]; exact hP⟩, hS.F ht⟩) hS.2.2 dX5_field_253
                refine lv_icmp_ne (tgt := 240) hx hb dX5_field_233 (by decide) (fun c36 => ?_) (fun c36 => ?_)
                · rw [if_neg c36] at gw35
                  refine lv_iconst (v := 0) hx hb dX5_field_240 (by decide) ?_
                  obtain rfl := Option.some.inj gw35
                  exact hJ241_w35 _ _ _ _ hP hS (lv_sub hl [0, 1, 2, 3, 4, 5, 6, 7, 8] rfl)
                · rw [if_pos c36] at gw35
                  refine lv_iconst (v := 1) hx hb dX5_field_236 (by decide) ?_
                  refine lv_goto (tgt := 241) hx hb dX5_field_237 (by decide) ?_
                  obtain rfl := Option.some.inj gw35
                  exact hJ241_w35 _ _ _ _ hP hS (lv_sub hl [0, 1, 2, 3, 4, 5, 6, 7, 8] rfl)
              refine lv_icmp_ne (tgt := 223) hx hb dX5_field_216 (by decide) (fun c33 => ?_) (fun c33 => ?_)
              · rw [if_neg c33] at gw32
                refine lv_iload hx hb dX5_field_223 (lv_at hl 7 rfl) ?_
                obtain rfl := Option.some.inj gw32
                exact hJ225_w32 _ _ _ _ hP hS (lv_sub hl [0, 1, 2, 3, 4, 5, 6, 7, 8] rfl)
              · rw [if_pos c33] at gw32
                refine lv_iconst (v := 1) hx hb dX5_field_219 (by decide) ?_
                refine lv_goto (tgt := 225) hx hb dX5_field_220 (by decide) ?_
                obtain rfl := Option.some.inj gw32
                exact hJ225_w32 _ _ _ _ hP hS (lv_sub hl [0, 1, 2, 3, 4, 5, 6, 7, 8] rfl)
            refine lv_icmp_ne (tgt := 206) hx hb dX5_field_199 (by decide) (fun c30 => ?_) (fun c30 => ?_)
            · rw [if_neg c30] at gw29
              refine lv_iload hx hb dX5_field_206 (lv_at hl 6 rfl) ?_
              obtain rfl := Option.some.inj gw29
              exact hJ208_w29 _ _ _ _ hP hS (lv_sub hl [0, 1, 2, 3, 4, 5, 6, 7, 8] rfl)
            · rw [if_pos c30] at gw29
              refine lv_iconst (v := 1) hx hb dX5_field_202 (by decide) ?_
              refine lv_goto (tgt := 208) hx hb dX5_field_203 (by decide) ?_
              obtain rfl := Option.some.inj gw29
              exact hJ208_w29 _ _ _ _ hP hS (lv_sub hl [0, 1, 2, 3, 4, 5, 6, 7, 8] rfl)
          refine lv_icmp_ne (tgt := 167) hx hb dX5_field_158 (by decide) (fun c25 => ?_) (fun c25 => ?_)
          · rw [if_neg c25] at gw24
            refine lv_iload_n hx hb dX5_field_167 rfl (lv_at hl 1 rfl) ?_
            refine lv_iconst (v := 2) hx hb dX5_field_168 (by decide) ?_
            obtain ⟨w26, gw26, gw24⟩ := Option.bind_eq_some_iff.mp gw24
            try dsimp only at gw24
            have hJ181_w26 : ∀ (di : Nat → Int32) (H : Heap) (locs : List Loc) (ls : Array Slot), va_P D vwCl (ww 6 ad (cellR cI ad u5.2 p0 mn md rw dg kn fc oft di)) H → va_S (ww_A 6 ad) s.heap H locs → lv_has ls 13 [(0, .ref (ad 0)), (1, .int p0), (2, .long p1), (4, .long p2), (6, .long p3), (8, .int u8), (9, .int w10), (10, .int w14), (11, .int y23)] → W p l e (headSpec usX5_field { frames := 1, cells := 0, slots := 0, locals := 22 }).room s m [.ref (ad 0), .int p0, .long p1, .long p2, .long p3].toArray below meth c H locs 0 0 (MQ below (ct_Qx D (fun di => ww 6 ad (cellR cI ad res.2.1 res.2.2.1 res.2.2.2.1 res.2.2.2.2.1 res.2.2.2.2.2.1 res.2.2.2.2.2.2.1 res.2.2.2.2.2.2.2 fc oft di)) (ww_A 6 ad) (some (.int res.1))) [.ref (ad 0), .int p0, .long p1, .long p2, .long p3].toArray s 0 0 (ww_A 6 ad)) (F0 m 181 ls [.long w26, .ref (ad 0)]) := by
              intro di H locs ls hP hS hl
              obtain rfl := Option.some.inj gw24
              exact hJ181_w24 _ _ _ _ hP hS (lv_sub hl [0, 1, 2, 3, 4, 5, 6, 7, 8] rfl)
            refine lv_icmp_ne (tgt := 178) hx hb dX5_field_169 (by decide) (fun c27 => ?_) (fun c27 => ?_)
            · rw [if_neg c27] at gw26
              refine lv_ldc2 (v := 1030301) hx hb hown (hts (.constantLong RX5 71 (1030301)) (BW_in mw_354)) dX5_field_178 ?_
              obtain rfl := Option.some.inj gw26
              exact hJ181_w26 _ _ _ _ hP hS (lv_sub hl [0, 1, 2, 3, 4, 5, 6, 7, 8] rfl)
            · rw [if_pos c27] at gw26
              refine lv_ldc2 (v := 10201) hx hb hown (hts (.constantLong RX5 69 (10201)) (BW_in mw_353)) dX5_field_172 ?_
              refine lv_goto (tgt := 181) hx hb dX5_field_175 (by decide) ?_
              obtain rfl := Option.some.inj gw26
              exact hJ181_w26 _ _ _ _ hP hS (lv_sub hl [0, 1, 2, 3, 4, 5, 6, 7, 8] rfl)
          · rw [if_pos c25] at gw24
            refine lv_ldc2 (v := 101) hx hb hown (hts (.constantLong RX5 13 (101)) (BW_in mw_313)) dX5_field_161 ?_
            refine lv_goto (tgt := 181) hx hb dX5_field_164 (by decide) ?_
            obtain rfl := Option.some.inj gw24
            exact hJ181_w24 _ _ _ _ hP hS (lv_sub hl [0, 1, 2, 3, 4, 5, 6, 7, 8] rfl)
        refine lv_icmp_le (tgt := 60) hx hb dX5_field_49 (by decide) (fun c15 => ?_) (fun c15 => ?_)
        · rw [if_pos c15] at gw14
          refine lv_iconst (v := 0) hx hb dX5_field_60 (by decide) ?_
          obtain rfl := Option.some.inj gw14
          exact hJ61_w14 _ _ _ _ hP hS (lv_sub hl [1, 2, 3, 4, 5, 6, 0] rfl)
        · rw [if_neg c15] at gw14
          refine lv_lload hx hb dX5_field_52 (lv_at hl 5 rfl) ?_
          obtain ⟨u16, g17, gw14⟩ := Option.bind_eq_some_iff.mp gw14
          try dsimp only at gw14
          refine ct_callx (va_runS (As := [.long p3]) (rest := []) ⟨hx, hb, hml, hown, hts⟩ (C_X5_number l D tys hj htI (res := u16) g17) (cwS 1 hts (gu_S mw_359 mw_360 mw_330 mw_350) rfl rfl rfl (by decide +kernel) ⟨Nat.le_of_ble_eq_true rfl, Nat.le_of_ble_eq_true rfl⟩) (ct_preSx (w := fun di => ww 6 ad (cellR cI ad u5.2 kk mn md rw dg kn fc oft di)) hP hK) rfl rfl hl.1 rfl (lv_room (Nat.le_of_ble_eq_true rfl)) dX5_field_54 ⟨Nat.zero_le _, Nat.zero_le _⟩) hS (fun di H locs hP hS => ?_)
          refine lv_goto (tgt := 61) hx hb dX5_field_57 (by decide) ?_
          obtain rfl := Option.some.inj gw14
          exact hJ61_w14 _ _ _ _ hP hS (lv_sub hl [1, 2, 3, 4, 5, 6, 0] rfl)
      refine lv_icmp_le (tgt := 44) hx hb dX5_field_33 (by decide) (fun c11 => ?_) (fun c11 => ?_)
      · rw [if_pos c11] at gw10
        refine lv_iconst (v := 0) hx hb dX5_field_44 (by decide) ?_
        obtain rfl := Option.some.inj gw10
        exact hJ45_w10 _ _ _ _ hP hS (lv_sub hl [1, 2, 3, 4, 5, 0] rfl)
      · rw [if_neg c11] at gw10
        refine lv_lload hx hb dX5_field_36 (lv_at hl 4 rfl) ?_
        obtain ⟨u12, g13, gw10⟩ := Option.bind_eq_some_iff.mp gw10
        try dsimp only at gw10
        refine ct_callx (va_runS (As := [.long p2]) (rest := []) ⟨hx, hb, hml, hown, hts⟩ (C_X5_number l D tys hj htI (res := u12) g13) (cwS 1 hts (gu_S mw_359 mw_360 mw_330 mw_350) rfl rfl rfl (by decide +kernel) ⟨Nat.le_of_ble_eq_true rfl, Nat.le_of_ble_eq_true rfl⟩) (ct_preSx (w := fun di => ww 6 ad (cellR cI ad u5.2 kk mn md rw dg kn fc oft di)) hP hK) rfl rfl hl.1 rfl (lv_room (Nat.le_of_ble_eq_true rfl)) dX5_field_38 ⟨Nat.zero_le _, Nat.zero_le _⟩) hS (fun di H locs hP hS => ?_)
        refine lv_goto (tgt := 45) hx hb dX5_field_41 (by decide) ?_
        obtain rfl := Option.some.inj gw10
        exact hJ45_w10 _ _ _ _ hP hS (lv_sub hl [1, 2, 3, 4, 5, 0] rfl)
    · rw [if_neg c7] at hf
      refine lv_iconst (v := 0) hx hb dX5_field_23 (by decide) ?_
      obtain rfl := Option.some.inj hf
      exact W.zret (v := 0) (ty := .boolean) hx hb hr (by decide) (fun t ht hW => ⟨rfl, ⟨di, by rw [ht]; exact hP⟩, hS.F ht⟩) hS.2.2 dX5_field_24
  refine lv_icmp_lt (tgt := 11) hx hb dX5_field_3 (by decide) (fun c2 => ?_) (fun c2 => ?_)
  · rw [if_pos c2] at gw1
    refine lv_iconst (v := 1) hx hb dX5_field_11 (by decide) ?_
    refine lv_goto (tgt := 16) hx hb dX5_field_12 (by decide) ?_
    obtain rfl := Option.some.inj gw1
    exact hJ16_w1 _ _ _ _ hP hS (lv_sub hl [0, 1, 2, 3, 4] rfl)
  · rw [if_neg c2] at gw1
    refine lv_iload_n hx hb dX5_field_6 rfl (lv_at hl 1 rfl) ?_
    refine lv_iconst (v := 3) hx hb dX5_field_7 (by decide) ?_
    obtain ⟨w3, gw3, gw1⟩ := Option.bind_eq_some_iff.mp gw1
    try dsimp only at gw1
    have hJ16_w3 : ∀ (di : Nat → Int32) (H : Heap) (locs : List Loc) (ls : Array Slot), va_P D vwCl (ww 6 ad (cellR cI ad th kk mn md rw dg kn fc oft di)) H → va_S (ww_A 6 ad) s.heap H locs → lv_has ls 13 [(0, .ref (ad 0)), (1, .int p0), (2, .long p1), (4, .long p2), (6, .long p3)] → W p l e (headSpec usX5_field { frames := 1, cells := 0, slots := 0, locals := 22 }).room s m [.ref (ad 0), .int p0, .long p1, .long p2, .long p3].toArray below meth c H locs 0 0 (MQ below (ct_Qx D (fun di => ww 6 ad (cellR cI ad res.2.1 res.2.2.1 res.2.2.2.1 res.2.2.2.2.1 res.2.2.2.2.2.1 res.2.2.2.2.2.2.1 res.2.2.2.2.2.2.2 fc oft di)) (ww_A 6 ad) (some (.int res.1))) [.ref (ad 0), .int p0, .long p1, .long p2, .long p3].toArray s 0 0 (ww_A 6 ad)) (F0 m 16 ls [.int w3, .ref (ad 0)]) := by
      intro di H locs ls hP hS hl
      obtain rfl := Option.some.inj gw1
      exact hJ16_w1 _ _ _ _ hP hS (lv_sub hl [0, 1, 2, 3, 4] rfl)
    refine lv_icmp_le (tgt := 15) hx hb dX5_field_8 (by decide) (fun c4 => ?_) (fun c4 => ?_)
    · rw [if_pos c4] at gw3
      refine lv_iconst (v := 0) hx hb dX5_field_15 (by decide) ?_
      obtain rfl := Option.some.inj gw3
      exact hJ16_w3 _ _ _ _ hP hS (lv_sub hl [0, 1, 2, 3, 4] rfl)
    · rw [if_neg c4] at gw3
      refine lv_iconst (v := 1) hx hb dX5_field_11 (by decide) ?_
      refine lv_goto (tgt := 16) hx hb dX5_field_12 (by decide) ?_
      obtain rfl := Option.some.inj gw3
      exact hJ16_w3 _ _ _ _ hP hS (lv_sub hl [0, 1, 2, 3, 4] rfl)
def f_X5_modulus (th : Int32) (md : Nat → Int32) (p0 : Int32) : Option (Int32 × (Int32)) :=
  ((
    if p0 < 0 then
      some 1
    else
      ((
        if p0 ≤ 3 then
          some 0
        else
          some 1 : Option (Int32))).bind (fun w3 =>
      some w3) : Option (Int32))).bind (fun w1 =>
  (f_X5_fails th w1 0).bind (fun u5 =>
  if u5.1 = 0 then
    if p0 < 0 ∨ 4 ≤ (p0).toNatClampNeg then none else
    some (md (p0).toNatClampNeg, u5.2)
  else
    some (0, u5.2)))
set_option maxHeartbeats 4000000 in
set_option maxRecDepth 100000 in
theorem C_X5_modulus (l : Launch) (D : va_G) (tys : List (ClassId × FieldType)) {ad : Nat → Nat} (hj : ww_inj 6 ad) {cI : ClassId} (htI : tys[0]? = some (cI, .int)) {th : Int32} {kk : Int32} {mn : Int64} {md : Nat → Int32} {rw : Nat → Int32} {dg : Nat → Int32} {kn : Int32} {fc : Int32} {oft : Nat → Int32} {p0 : Int32} {res : Int32 × (Int32)} (hf : f_X5_modulus th md p0 = some res) :
    Met l yX5_modulus usX5_modulus ({ frames := 1, cells := 0, slots := 0, locals := 22 }) (va_Pc [.ref (ad 0), .int p0] (ws_Bx D tys (fun di => ww 6 ad (cellR cI ad th kk mn md rw dg kn fc oft di)))) (ct_Qx D (fun di => ww 6 ad (cellR cI ad res.2 kk mn md rw dg kn fc oft di)) (ww_A 6 ad) (some (.int res.1))) 0 0 (ww_A 6 ad) := by
  refine Met.ofW (cc := cX5_modulus) (maxL := 2) (ret := (some .int)) (by decide) rfl ?_
  intro p e s m args below meth c s₁ B hml hv
  obtain ⟨rfl, ⟨di, hP⟩, hK⟩ := hv
  have hx := B.exec
  have hb := B.bytes
  have hr := B.returns
  have hts := atoms_spec (ws := usX5_modulus) B.pre
  have hown : s.vm.findClass RX5 = some m.cls := findClass_of_methodNamed B.named
  have hlocks := B.notSynchronized
  have hS : va_S (ww_A 6 ad) s.heap s.heap [] := va_S.rf
  have hl := lv_entry ([.ref (ad 0), .int p0]) (n := 2) (Nat.le_of_ble_eq_true rfl)
  rw [lg_entry_eq]
  generalize (lg_sl ([.ref (ad 0), .int p0]) ++ List.replicate (2 - (lg_sl ([.ref (ad 0), .int p0])).length) Slot.unset).toArray = ls at hl ⊢
  have hl : lv_has ls 2 [(0, .ref (ad 0)), (1, .int p0)] := hl
  unfold f_X5_modulus at hf
  refine lv_aload_n hx hb dX5_modulus_0 rfl (lv_at hl 0 rfl) ?_
  refine lv_iload_n hx hb dX5_modulus_1 rfl (lv_at hl 1 rfl) ?_
  obtain ⟨w1, gw1, hf⟩ := Option.bind_eq_some_iff.mp hf
  try dsimp only at hf
  have hJ15_w1 : ∀ (di : Nat → Int32) (H : Heap) (locs : List Loc) (ls : Array Slot), va_P D vwCl (ww 6 ad (cellR cI ad th kk mn md rw dg kn fc oft di)) H → va_S (ww_A 6 ad) s.heap H locs → lv_has ls 2 [(0, .ref (ad 0)), (1, .int p0)] → W p l e (headSpec usX5_modulus { frames := 1, cells := 0, slots := 0, locals := 22 }).room s m [.ref (ad 0), .int p0].toArray below meth c H locs 0 0 (MQ below (ct_Qx D (fun di => ww 6 ad (cellR cI ad res.2 kk mn md rw dg kn fc oft di)) (ww_A 6 ad) (some (.int res.1))) [.ref (ad 0), .int p0].toArray s 0 0 (ww_A 6 ad)) (F0 m 15 ls [.int w1, .ref (ad 0)]) := by
    intro di H locs ls hP hS hl
    refine lv_iconst (v := 0) hx hb dX5_modulus_15 (by decide) ?_
    obtain ⟨u5, g6, hf⟩ := Option.bind_eq_some_iff.mp hf
    try dsimp only at hf
    refine ct_callx (va_runV (As := [.int w1, .int 0]) (rest := []) ⟨hx, hb, hml, hown, hts⟩ (C_X5_fails l D tys hj htI (res := u5) g6) (cwV 2 hts (gu_V mw_356 mw_357 mw_358 mw_330 mw_322) rfl rfl rfl (by decide +kernel) ⟨Nat.le_of_ble_eq_true rfl, Nat.le_of_ble_eq_true rfl⟩) (ct_preVx (w := fun di => ww 6 ad (cellR cI ad th kk mn md rw dg kn fc oft di)) hP hK (ci := 5) (k := 0) rfl cr_mdl) rfl rfl hl.1 rfl (lv_room (Nat.le_of_ble_eq_true rfl)) dX5_modulus_16 ⟨Nat.zero_le _, Nat.zero_le _⟩) hS (fun di H locs hP hS => ?_)
    refine lv_if_eq (tgt := 24) hx hb dX5_modulus_19 (by decide) (fun c7 => ?_) (fun c7 => ?_)
    · rw [if_pos c7] at hf
      refine lv_aload_n hx hb dX5_modulus_24 rfl (lv_at hl 0 rfl) ?_
      refine va_get (ci := 5) (v := .ref (ad 1)) (C := RX5) (T := TX5) (N := 10) hx hb hts (fun w h => BW_in (in_wsX50 w h)) hown hK hP 0 cr_mdl rfl 3 (by decide) (hts (.fieldLink RX5 19 "NumberFieldFactorsModel" "modulus" "[I") (BW_in mw_315)) (fun _ h9 => h9) rfl dX5_modulus_25 ?_
      refine lv_iload_n hx hb dX5_modulus_28 rfl (lv_at hl 1 rfl) ?_
      by_cases b8 : p0 < 0 ∨ 4 ≤ (p0).toNatClampNeg
      · rw [if_pos b8] at hf; cases hf
      rw [if_neg b8] at hf
      refine va_iald hx hb hK hP 1 0 cr_md htI b8 dX5_modulus_29 ?_
      obtain rfl := Option.some.inj hf
      exact W.iret (v := md (p0).toNatClampNeg) hx hb hr (fun t ht hW => ⟨rfl, ⟨di, by rw [ht]; exact hP⟩, hS.F ht⟩) hS.2.2 dX5_modulus_30
    · rw [if_neg c7] at hf
      refine lv_iconst (v := 0) hx hb dX5_modulus_22 (by decide) ?_
      obtain rfl := Option.some.inj hf
      exact W.iret (v := 0) hx hb hr (fun t ht hW => ⟨rfl, ⟨di, by rw [ht]; exact hP⟩, hS.F ht⟩) hS.2.2 dX5_modulus_23
  refine lv_if_lt (tgt := 10) hx hb dX5_modulus_2 (by decide) (fun c2 => ?_) (fun c2 => ?_)
  · rw [if_pos c2] at gw1
    refine lv_iconst (v := 1) hx hb dX5_modulus_10 (by decide) ?_
    refine lv_goto (tgt := 15) hx hb dX5_modulus_11 (by decide) ?_
    obtain rfl := Option.some.inj gw1
    exact hJ15_w1 _ _ _ _ hP hS (lv_sub hl [0, 1] rfl)
  · rw [if_neg c2] at gw1
    refine lv_iload_n hx hb dX5_modulus_5 rfl (lv_at hl 1 rfl) ?_
    refine lv_iconst (v := 3) hx hb dX5_modulus_6 (by decide) ?_
    obtain ⟨w3, gw3, gw1⟩ := Option.bind_eq_some_iff.mp gw1
    try dsimp only at gw1
    have hJ15_w3 : ∀ (di : Nat → Int32) (H : Heap) (locs : List Loc) (ls : Array Slot), va_P D vwCl (ww 6 ad (cellR cI ad th kk mn md rw dg kn fc oft di)) H → va_S (ww_A 6 ad) s.heap H locs → lv_has ls 2 [(0, .ref (ad 0)), (1, .int p0)] → W p l e (headSpec usX5_modulus { frames := 1, cells := 0, slots := 0, locals := 22 }).room s m [.ref (ad 0), .int p0].toArray below meth c H locs 0 0 (MQ below (ct_Qx D (fun di => ww 6 ad (cellR cI ad res.2 kk mn md rw dg kn fc oft di)) (ww_A 6 ad) (some (.int res.1))) [.ref (ad 0), .int p0].toArray s 0 0 (ww_A 6 ad)) (F0 m 15 ls [.int w3, .ref (ad 0)]) := by
      intro di H locs ls hP hS hl
      obtain rfl := Option.some.inj gw1
      exact hJ15_w1 _ _ _ _ hP hS (lv_sub hl [0, 1] rfl)
    refine lv_icmp_le (tgt := 14) hx hb dX5_modulus_7 (by decide) (fun c4 => ?_) (fun c4 => ?_)
    · rw [if_pos c4] at gw3
      refine lv_iconst (v := 0) hx hb dX5_modulus_14 (by decide) ?_
      obtain rfl := Option.some.inj gw3
      exact hJ15_w3 _ _ _ _ hP hS (lv_sub hl [0, 1] rfl)
    · rw [if_neg c4] at gw3
      refine lv_iconst (v := 1) hx hb dX5_modulus_10 (by decide) ?_
      refine lv_goto (tgt := 15) hx hb dX5_modulus_11 (by decide) ?_
      obtain rfl := Option.some.inj gw3
      exact hJ15_w3 _ _ _ _ hP hS (lv_sub hl [0, 1] rfl)
