/-! The reference made. -/
def mdI (h0 : Nat) (a : Nat → Nat) : Nat → Nat := fun k => if k = 0 then h0 else a k
abbrev S5 : Type := { x : (Nat → Nat) × (Nat → Int32) // x.2 0 = -1 }
def md00 : Nat → Int32 := upd (fun _ => 0) 1 1
set_option maxHeartbeats 4000000 in
set_option maxRecDepth 100000 in
theorem K_X5 (l : Launch) (D : va_G) (tys : List (ClassId × FieldType)) (nw : List Cond) (hn : nw.all nw_kind = true) (hnw : ∀ w ∈ nw1, w ∈ nw) {cI cR : ClassId} (htI : tys[0]? = some (cI, .int)) (htR : tys[1]? = some (cR, .object RX2)) (h0 sz : Nat) : Met l yX5_init usX5_init ({ frames := 1, cells := 5, slots := 440, locals := 12 }) (va_Pc [.ref h0] (cb D tys nw [(h0, .inr (5, [.int 0, .int 0, .long 0, .null, .null, .null, .null, .int 0, .int 0, .null]))] sz)) (cq D [(h0, .inr (5, [.int 0, .int 0, .long 0, .null, .null, .null, .null, .int 0, .int 0, .null]))] (fun (u : S5) => ww 6 (mdI h0 u.1.1) (cellR cI (mdI h0 u.1.1) 0 1 101 md00 (fun _ => 0) u.1.2 0 0 (fun _ => 0) (fun _ => 0))) sz) 5 440 (va_A [(h0, .inr (5, [.int 0, .int 0, .long 0, .null, .null, .null, .null, .int 0, .int 0, .null]))] sz) := by
  refine Met.ofW (cc := cX5_init) (maxL := 2) (ret := none) (by decide) rfl ?_
  intro p e s m args below meth c s₁ B hml hv
  obtain ⟨rfl, hsz, hP, hK, hN, hAO, hD0⟩ := hv
  have hx := B.exec
  have hb := B.bytes
  have hr := B.returns
  have hts := atoms_spec (ws := usX5_init) B.pre
  have hown : s.vm.findClass RX5 = some m.cls := findClass_of_methodNamed B.named
  have hin : meth.name = "<init>" := (name_of_methodNamed B.named B.method).1
  subst hsz
  have hD := hD0.self (sz := s.heap.size)
  have hA : ∀ q : Nat, s.heap.size ≤ q → va_A [(h0, .inr (5, [.int 0, .int 0, .long 0, .null, .null, .null, .null, .int 0, .int 0, .null]))] s.heap.size q := fun q h => Or.inr h
  have hS : va_S (va_A [(h0, .inr (5, [.int 0, .int 0, .long 0, .null, .null, .null, .null, .int 0, .int 0, .null]))] s.heap.size) s.heap s.heap [] := va_S.rf
  have hl := lv_entry ([.ref h0]) (n := 2) (Nat.le_of_ble_eq_true rfl)
  rw [lg_entry_eq]
  generalize (lg_sl ([.ref h0]) ++ List.replicate (2 - (lg_sl ([.ref h0])).length) Slot.unset).toArray = ls at hl ⊢
  have hl : lv_has ls 2 [(0, .ref h0)] := hl
  refine lv_aload_n hx hb dX5_init_0 rfl (lv_at hl 0 rfl) ?_
  refine W.objInit hx hb hown (hts (.methodLink RX5 1 objectInit) (BW_in mw_311)) (hts (.instanceMethod objectInit) (BW_in mw_2)) (hts (.code objectInit ⟨#[0xb1]⟩ 1 none) (BW_in mw_3)) rfl (by rw [hml]; exact hl.1) rfl dX5_init_1 (Nat.le_of_ble_eq_true rfl) (Nat.le_of_ble_eq_true rfl) ?_
  refine W.eq (g2 := F0 m 4 ls []) rfl ?_
  refine lv_aload_n hx hb dX5_init_4 rfl (lv_at hl 0 rfl) ?_
  refine lv_iconst (v := 1) hx hb dX5_init_5 (by decide) ?_
  refine va_put (D := D) (ci := 5) (v := .int 1) (ty := .int) (C := RX5) (T := TX5) (N := 10) hx hb hts (fun w h => BW_in (in_wsX50 w h)) tyX5 tyX5_ok nmX5 hown hK hP hD hS 0 rfl rfl 1 (by decide) (hts (.fieldLink RX5 7 "NumberFieldFactorsModel" "k" "I") (BW_in mw_312)) (fun _ h9 => h9) rfl (by decide +kernel) rfl rfl (Nat.le_of_ble_eq_true rfl) dX5_init_6 (fun H locs hP hD hS => ?_)
  have hP : va_P D vwCl [(h0, .inr (5, [.int 0, .int 1, .long 0, .null, .null, .null, .null, .int 0, .int 0, .null]))] H := hP
  have hD : va_D (va_A [(h0, .inr (5, [.int 0, .int 0, .long 0, .null, .null, .null, .null, .int 0, .int 0, .null]))] s.heap.size) [(h0, .inr (5, [.int 0, .int 1, .long 0, .null, .null, .null, .null, .int 0, .int 0, .null]))] := hD
  refine lv_aload_n hx hb dX5_init_9 rfl (lv_at hl 0 rfl) ?_
  refine lv_ldc2 (v := 101) hx hb hown (hts (.constantLong RX5 13 (101)) (BW_in mw_313)) dX5_init_10 ?_
  refine va_put (D := D) (ci := 5) (v := .long 101) (ty := .long) (C := RX5) (T := TX5) (N := 10) hx hb hts (fun w h => BW_in (in_wsX50 w h)) tyX5 tyX5_ok nmX5 hown hK hP hD hS 0 rfl rfl 2 (by decide) (hts (.fieldLink RX5 15 "NumberFieldFactorsModel" "many" "J") (BW_in mw_314)) (fun _ h9 => h9) rfl (by decide +kernel) rfl rfl (Nat.le_of_ble_eq_true rfl) dX5_init_13 (fun H locs hP hD hS => ?_)
  have hP : va_P D vwCl [(h0, .inr (5, [.int 0, .int 1, .long 101, .null, .null, .null, .null, .int 0, .int 0, .null]))] H := hP
  have hD : va_D (va_A [(h0, .inr (5, [.int 0, .int 0, .long 0, .null, .null, .null, .null, .int 0, .int 0, .null]))] s.heap.size) [(h0, .inr (5, [.int 0, .int 1, .long 101, .null, .null, .null, .null, .int 0, .int 0, .null]))] := hD
  refine lv_aload_n hx hb dX5_init_16 rfl (lv_at hl 0 rfl) ?_
  refine lv_iconst (v := 4) hx hb dX5_init_17 (by decide) ?_
  refine k_int (N := 4) hx hb (hts (.arrayClass .int) (BW_in mw_42)) htI hK hP hD hS hA (by decide) (by decide) (by decide) (Nat.le_of_ble_eq_true rfl) (Nat.le_of_ble_eq_true rfl) dX5_init_18 (fun a1 H hP hD hS => ?_)
  have hP : va_P D vwCl [(h0, .inr (5, [.int 0, .int 1, .long 101, .null, .null, .null, .null, .int 0, .int 0, .null])), (a1, .inl (cI, 4, .inl (fun _ => 0)))] H := hP
  have hD : va_D (va_A [(h0, .inr (5, [.int 0, .int 0, .long 0, .null, .null, .null, .null, .int 0, .int 0, .null]))] s.heap.size) [(h0, .inr (5, [.int 0, .int 1, .long 101, .null, .null, .null, .null, .int 0, .int 0, .null])), (a1, .inl (cI, 4, .inl (fun _ => 0)))] := hD
  refine va_putF (D := D) (ci := 5) (v := .ref a1) (ty := .array .int) (C := RX5) (T := TX5) (N := 10) hx hb hts (fun w h => BW_in (in_wsX50 w h)) tyX5 tyX5_ok nmX5 hown hK hP hD hS 0 rfl rfl 3 (by decide) (hts (.fieldLink RX5 19 "NumberFieldFactorsModel" "modulus" "[I") (BW_in mw_315)) (fun _ h9 => h9) rfl hin rfl (by decide +kernel) rfl rfl (Nat.le_of_ble_eq_true rfl) dX5_init_20 (fun H locs hP hD hS => ?_)
  have hP : va_P D vwCl [(h0, .inr (5, [.int 0, .int 1, .long 101, .ref a1, .null, .null, .null, .int 0, .int 0, .null])), (a1, .inl (cI, 4, .inl (fun _ => 0)))] H := hP
  have hD : va_D (va_A [(h0, .inr (5, [.int 0, .int 0, .long 0, .null, .null, .null, .null, .int 0, .int 0, .null]))] s.heap.size) [(h0, .inr (5, [.int 0, .int 1, .long 101, .ref a1, .null, .null, .null, .int 0, .int 0, .null])), (a1, .inl (cI, 4, .inl (fun _ => 0)))] := hD
  refine lv_aload_n hx hb dX5_init_23 rfl (lv_at hl 0 rfl) ?_
  refine lv_bipush (v := 6) hx hb dX5_init_24 (by decide) ?_
  refine k_int (N := 6) hx hb (hts (.arrayClass .int) (BW_in mw_42)) htI hK hP hD hS hA (by decide) (by decide) (by decide) (Nat.le_of_ble_eq_true rfl) (Nat.le_of_ble_eq_true rfl) dX5_init_26 (fun a2 H hP hD hS => ?_)
  have hP : va_P D vwCl [(h0, .inr (5, [.int 0, .int 1, .long 101, .ref a1, .null, .null, .null, .int 0, .int 0, .null])), (a1, .inl (cI, 4, .inl (fun _ => 0))), (a2, .inl (cI, 6, .inl (fun _ => 0)))] H := hP
  have hD : va_D (va_A [(h0, .inr (5, [.int 0, .int 0, .long 0, .null, .null, .null, .null, .int 0, .int 0, .null]))] s.heap.size) [(h0, .inr (5, [.int 0, .int 1, .long 101, .ref a1, .null, .null, .null, .int 0, .int 0, .null])), (a1, .inl (cI, 4, .inl (fun _ => 0))), (a2, .inl (cI, 6, .inl (fun _ => 0)))] := hD
  refine va_putF (D := D) (ci := 5) (v := .ref a2) (ty := .array .int) (C := RX5) (T := TX5) (N := 10) hx hb hts (fun w h => BW_in (in_wsX50 w h)) tyX5 tyX5_ok nmX5 hown hK hP hD hS 0 rfl rfl 4 (by decide) (hts (.fieldLink RX5 23 "NumberFieldFactorsModel" "digits" "[I") (BW_in mw_316)) (fun _ h9 => h9) rfl hin rfl (by decide +kernel) rfl rfl (Nat.le_of_ble_eq_true rfl) dX5_init_28 (fun H locs hP hD hS => ?_)
  have hP : va_P D vwCl [(h0, .inr (5, [.int 0, .int 1, .long 101, .ref a1, .ref a2, .null, .null, .int 0, .int 0, .null])), (a1, .inl (cI, 4, .inl (fun _ => 0))), (a2, .inl (cI, 6, .inl (fun _ => 0)))] H := hP
  have hD : va_D (va_A [(h0, .inr (5, [.int 0, .int 0, .long 0, .null, .null, .null, .null, .int 0, .int 0, .null]))] s.heap.size) [(h0, .inr (5, [.int 0, .int 1, .long 101, .ref a1, .ref a2, .null, .null, .int 0, .int 0, .null])), (a1, .inl (cI, 4, .inl (fun _ => 0))), (a2, .inl (cI, 6, .inl (fun _ => 0)))] := hD
  refine lv_aload_n hx hb dX5_init_31 rfl (lv_at hl 0 rfl) ?_
  refine lv_sipush (v := 400) hx hb dX5_init_32 (by decide) ?_
  refine k_int (N := 400) hx hb (hts (.arrayClass .int) (BW_in mw_42)) htI hK hP hD hS hA (by decide) (by decide) (by decide) (Nat.le_of_ble_eq_true rfl) (Nat.le_of_ble_eq_true rfl) dX5_init_35 (fun a3 H hP hD hS => ?_)
  have hP : va_P D vwCl [(h0, .inr (5, [.int 0, .int 1, .long 101, .ref a1, .ref a2, .null, .null, .int 0, .int 0, .null])), (a1, .inl (cI, 4, .inl (fun _ => 0))), (a2, .inl (cI, 6, .inl (fun _ => 0))), (a3, .inl (cI, 400, .inl (fun _ => 0)))] H := hP
  have hD : va_D (va_A [(h0, .inr (5, [.int 0, .int 0, .long 0, .null, .null, .null, .null, .int 0, .int 0, .null]))] s.heap.size) [(h0, .inr (5, [.int 0, .int 1, .long 101, .ref a1, .ref a2, .null, .null, .int 0, .int 0, .null])), (a1, .inl (cI, 4, .inl (fun _ => 0))), (a2, .inl (cI, 6, .inl (fun _ => 0))), (a3, .inl (cI, 400, .inl (fun _ => 0)))] := hD
  refine va_putF (D := D) (ci := 5) (v := .ref a3) (ty := .array .int) (C := RX5) (T := TX5) (N := 10) hx hb hts (fun w h => BW_in (in_wsX50 w h)) tyX5 tyX5_ok nmX5 hown hK hP hD hS 0 rfl rfl 5 (by decide) (hts (.fieldLink RX5 26 "NumberFieldFactorsModel" "row" "[I") (BW_in mw_317)) (fun _ h9 => h9) rfl hin rfl (by decide +kernel) rfl rfl (Nat.le_of_ble_eq_true rfl) dX5_init_37 (fun H locs hP hD hS => ?_)
  have hP : va_P D vwCl [(h0, .inr (5, [.int 0, .int 1, .long 101, .ref a1, .ref a2, .ref a3, .null, .int 0, .int 0, .null])), (a1, .inl (cI, 4, .inl (fun _ => 0))), (a2, .inl (cI, 6, .inl (fun _ => 0))), (a3, .inl (cI, 400, .inl (fun _ => 0)))] H := hP
  have hD : va_D (va_A [(h0, .inr (5, [.int 0, .int 0, .long 0, .null, .null, .null, .null, .int 0, .int 0, .null]))] s.heap.size) [(h0, .inr (5, [.int 0, .int 1, .long 101, .ref a1, .ref a2, .ref a3, .null, .int 0, .int 0, .null])), (a1, .inl (cI, 4, .inl (fun _ => 0))), (a2, .inl (cI, 6, .inl (fun _ => 0))), (a3, .inl (cI, 400, .inl (fun _ => 0)))] := hD
  refine lv_aload_n hx hb dX5_init_40 rfl (lv_at hl 0 rfl) ?_
  refine lv_bipush (v := 25) hx hb dX5_init_41 (by decide) ?_
  refine k_int (N := 25) hx hb (hts (.arrayClass .int) (BW_in mw_42)) htI hK hP hD hS hA (by decide) (by decide) (by decide) (Nat.le_of_ble_eq_true rfl) (Nat.le_of_ble_eq_true rfl) dX5_init_43 (fun a4 H hP hD hS => ?_)
  have hP : va_P D vwCl [(h0, .inr (5, [.int 0, .int 1, .long 101, .ref a1, .ref a2, .ref a3, .null, .int 0, .int 0, .null])), (a1, .inl (cI, 4, .inl (fun _ => 0))), (a2, .inl (cI, 6, .inl (fun _ => 0))), (a3, .inl (cI, 400, .inl (fun _ => 0))), (a4, .inl (cI, 25, .inl (fun _ => 0)))] H := hP
  have hD : va_D (va_A [(h0, .inr (5, [.int 0, .int 0, .long 0, .null, .null, .null, .null, .int 0, .int 0, .null]))] s.heap.size) [(h0, .inr (5, [.int 0, .int 1, .long 101, .ref a1, .ref a2, .ref a3, .null, .int 0, .int 0, .null])), (a1, .inl (cI, 4, .inl (fun _ => 0))), (a2, .inl (cI, 6, .inl (fun _ => 0))), (a3, .inl (cI, 400, .inl (fun _ => 0))), (a4, .inl (cI, 25, .inl (fun _ => 0)))] := hD
  refine va_putF (D := D) (ci := 5) (v := .ref a4) (ty := .array .int) (C := RX5) (T := TX5) (N := 10) hx hb hts (fun w h => BW_in (in_wsX50 w h)) tyX5 tyX5_ok nmX5 hown hK hP hD hS 0 rfl rfl 6 (by decide) (hts (.fieldLink RX5 29 "NumberFieldFactorsModel" "degree" "[I") (BW_in mw_318)) (fun _ h9 => h9) rfl hin rfl (by decide +kernel) rfl rfl (Nat.le_of_ble_eq_true rfl) dX5_init_45 (fun H locs hP hD hS => ?_)
  have hP : va_P D vwCl [(h0, .inr (5, [.int 0, .int 1, .long 101, .ref a1, .ref a2, .ref a3, .ref a4, .int 0, .int 0, .null])), (a1, .inl (cI, 4, .inl (fun _ => 0))), (a2, .inl (cI, 6, .inl (fun _ => 0))), (a3, .inl (cI, 400, .inl (fun _ => 0))), (a4, .inl (cI, 25, .inl (fun _ => 0)))] H := hP
  have hD : va_D (va_A [(h0, .inr (5, [.int 0, .int 0, .long 0, .null, .null, .null, .null, .int 0, .int 0, .null]))] s.heap.size) [(h0, .inr (5, [.int 0, .int 1, .long 101, .ref a1, .ref a2, .ref a3, .ref a4, .int 0, .int 0, .null])), (a1, .inl (cI, 4, .inl (fun _ => 0))), (a2, .inl (cI, 6, .inl (fun _ => 0))), (a3, .inl (cI, 400, .inl (fun _ => 0))), (a4, .inl (cI, 25, .inl (fun _ => 0)))] := hD
  refine lv_aload_n hx hb dX5_init_48 rfl (lv_at hl 0 rfl) ?_
  refine lv_iconst (v := 5) hx hb dX5_init_49 (by decide) ?_
  refine k_int (N := 5) hx hb (hts (.arrayClass .int) (BW_in mw_42)) htI hK hP hD hS hA (by decide) (by decide) (by decide) (Nat.le_of_ble_eq_true rfl) (Nat.le_of_ble_eq_true rfl) dX5_init_50 (fun a5 H hP hD hS => ?_)
  have hP : va_P D vwCl [(h0, .inr (5, [.int 0, .int 1, .long 101, .ref a1, .ref a2, .ref a3, .ref a4, .int 0, .int 0, .null])), (a1, .inl (cI, 4, .inl (fun _ => 0))), (a2, .inl (cI, 6, .inl (fun _ => 0))), (a3, .inl (cI, 400, .inl (fun _ => 0))), (a4, .inl (cI, 25, .inl (fun _ => 0))), (a5, .inl (cI, 5, .inl (fun _ => 0)))] H := hP
  have hD : va_D (va_A [(h0, .inr (5, [.int 0, .int 0, .long 0, .null, .null, .null, .null, .int 0, .int 0, .null]))] s.heap.size) [(h0, .inr (5, [.int 0, .int 1, .long 101, .ref a1, .ref a2, .ref a3, .ref a4, .int 0, .int 0, .null])), (a1, .inl (cI, 4, .inl (fun _ => 0))), (a2, .inl (cI, 6, .inl (fun _ => 0))), (a3, .inl (cI, 400, .inl (fun _ => 0))), (a4, .inl (cI, 25, .inl (fun _ => 0))), (a5, .inl (cI, 5, .inl (fun _ => 0)))] := hD
  refine va_putF (D := D) (ci := 5) (v := .ref a5) (ty := .array .int) (C := RX5) (T := TX5) (N := 10) hx hb hts (fun w h => BW_in (in_wsX50 w h)) tyX5 tyX5_ok nmX5 hown hK hP hD hS 0 rfl rfl 9 (by decide) (hts (.fieldLink RX5 32 "NumberFieldFactorsModel" "often" "[I") (BW_in mw_319)) (fun _ h9 => h9) rfl hin rfl (by decide +kernel) rfl rfl (Nat.le_of_ble_eq_true rfl) dX5_init_52 (fun H locs hP hD hS => ?_)
  have hP : va_P D vwCl [(h0, .inr (5, [.int 0, .int 1, .long 101, .ref a1, .ref a2, .ref a3, .ref a4, .int 0, .int 0, .ref a5])), (a1, .inl (cI, 4, .inl (fun _ => 0))), (a2, .inl (cI, 6, .inl (fun _ => 0))), (a3, .inl (cI, 400, .inl (fun _ => 0))), (a4, .inl (cI, 25, .inl (fun _ => 0))), (a5, .inl (cI, 5, .inl (fun _ => 0)))] H := hP
  have hD : va_D (va_A [(h0, .inr (5, [.int 0, .int 0, .long 0, .null, .null, .null, .null, .int 0, .int 0, .null]))] s.heap.size) [(h0, .inr (5, [.int 0, .int 1, .long 101, .ref a1, .ref a2, .ref a3, .ref a4, .int 0, .int 0, .ref a5])), (a1, .inl (cI, 4, .inl (fun _ => 0))), (a2, .inl (cI, 6, .inl (fun _ => 0))), (a3, .inl (cI, 400, .inl (fun _ => 0))), (a4, .inl (cI, 25, .inl (fun _ => 0))), (a5, .inl (cI, 5, .inl (fun _ => 0)))] := hD
  refine lv_aload_n hx hb dX5_init_55 rfl (lv_at hl 0 rfl) ?_
  refine va_get (ci := 5) (v := .ref a1) (C := RX5) (T := TX5) (N := 10) hx hb hts (fun w h => BW_in (in_wsX50 w h)) hown hK hP 0 rfl rfl 3 (by decide) (hts (.fieldLink RX5 19 "NumberFieldFactorsModel" "modulus" "[I") (BW_in mw_315)) (fun _ h9 => h9) rfl dX5_init_56 ?_
  refine lv_iconst (v := 1) hx hb dX5_init_59 (by decide) ?_
  refine lv_iconst (v := 1) hx hb dX5_init_60 (by decide) ?_
  refine va_iast hx hb hK hP hD hS 1 0 rfl htI (show ¬ ((1 : Int32) < 0 ∨ 4 ≤ (1 : Int32).toNatClampNeg) by decide) dX5_init_61 (fun H locs hP hD hS => ?_)
  have hP : va_P D vwCl [(h0, .inr (5, [.int 0, .int 1, .long 101, .ref a1, .ref a2, .ref a3, .ref a4, .int 0, .int 0, .ref a5])), (a1, .inl (cI, 4, .inl md00)), (a2, .inl (cI, 6, .inl (fun _ => 0))), (a3, .inl (cI, 400, .inl (fun _ => 0))), (a4, .inl (cI, 25, .inl (fun _ => 0))), (a5, .inl (cI, 5, .inl (fun _ => 0)))] H := hP
  have hD : va_D (va_A [(h0, .inr (5, [.int 0, .int 0, .long 0, .null, .null, .null, .null, .int 0, .int 0, .null]))] s.heap.size) [(h0, .inr (5, [.int 0, .int 1, .long 101, .ref a1, .ref a2, .ref a3, .ref a4, .int 0, .int 0, .ref a5])), (a1, .inl (cI, 4, .inl md00)), (a2, .inl (cI, 6, .inl (fun _ => 0))), (a3, .inl (cI, 400, .inl (fun _ => 0))), (a4, .inl (cI, 25, .inl (fun _ => 0))), (a5, .inl (cI, 5, .inl (fun _ => 0)))] := hD
  refine lv_iconst (v := 0) hx hb dX5_init_62 (by decide) ?_
  refine lv_istore_n (lv' := [(1, .int 0), (0, .ref h0)]) hx hb dX5_init_63 rfl hl (by decide) rfl (fun ls hl => ?_)
  have L64 : ∀ (n i : Nat) (dg : Nat → Int32) (H : Heap) (locs : List Loc) (ls : Array Slot), i ≤ 25 → 25 - i < n → (0 < i → dg 0 = -1) → va_P D vwCl [(h0, .inr (5, [.int 0, .int 1, .long 101, .ref a1, .ref a2, .ref a3, .ref a4, .int 0, .int 0, .ref a5])), (a1, .inl (cI, 4, .inl md00)), (a2, .inl (cI, 6, .inl (fun _ => 0))), (a3, .inl (cI, 400, .inl (fun _ => 0))), (a4, .inl (cI, 25, .inl dg)), (a5, .inl (cI, 5, .inl (fun _ => 0)))] H → va_D (va_A [(h0, .inr (5, [.int 0, .int 0, .long 0, .null, .null, .null, .null, .int 0, .int 0, .null]))] s.heap.size) [(h0, .inr (5, [.int 0, .int 1, .long 101, .ref a1, .ref a2, .ref a3, .ref a4, .int 0, .int 0, .ref a5])), (a1, .inl (cI, 4, .inl md00)), (a2, .inl (cI, 6, .inl (fun _ => 0))), (a3, .inl (cI, 400, .inl (fun _ => 0))), (a4, .inl (cI, 25, .inl dg)), (a5, .inl (cI, 5, .inl (fun _ => 0)))] → va_S (va_A [(h0, .inr (5, [.int 0, .int 0, .long 0, .null, .null, .null, .null, .int 0, .int 0, .null]))] s.heap.size) s.heap H locs → lv_has ls 2 [(1, .int (nI i)), (0, .ref h0)] → W p l e (headSpec usX5_init { frames := 1, cells := 5, slots := 440, locals := 12 }).room s m [Value.ref h0].toArray below meth c H locs 5 440 (MQ below (cq D [(h0, .inr (5, [.int 0, .int 0, .long 0, .null, .null, .null, .null, .int 0, .int 0, .null]))] (fun (u : S5) => ww 6 (mdI h0 u.1.1) (cellR cI (mdI h0 u.1.1) 0 1 101 md00 (fun _ => 0) u.1.2 0 0 (fun _ => 0) (fun _ => 0))) s.heap.size) [Value.ref h0].toArray s 5 440 (va_A [(h0, .inr (5, [.int 0, .int 0, .long 0, .null, .null, .null, .null, .int 0, .int 0, .null]))] s.heap.size)) (F0 m 64 ls []) := by
    intro n
    induction n with
    | zero => intro i dg H locs ls hi hn; omega
    | succ n ih =>
      intro i dg H locs ls hi hn h0i hP hD hS hl
      refine lv_iload_n hx hb dX5_init_64 rfl (lv_at hl 0 rfl) ?_
      refine lv_bipush (v := 25) hx hb dX5_init_65 (by decide) ?_
      refine lv_icmp_ge (tgt := 83) hx hb dX5_init_67 (by decide) (fun c9 => ?_) (fun c9 => ?_)
      · have e25 : i = 25 := by
          by_cases z : i < 25
          · exact absurd c9 (nI_ge (b := 25) z (by decide))
          · omega
        refine W.widen (k := 5) (n := 440) (by decide) (by decide) ?_
        refine W.vret hx hb hr (fun t ht hW => ⟨⟨⟨(fun k => [0, a1, a2, a3, a4, a5].getD k 0, dg), h0i (by omega)⟩, rfl, trivial, ?_, ?_⟩, hS.F ht⟩) hS.2.2 dX5_init_83
        · rw [ht]; exact hP
        · exact hD
      · have hlt : i < 25 := by
          by_cases z : i < 25
          · exact z
          · exact absurd (nI_le (a := 25) (by omega) (by omega)) c9
        refine lv_aload_n hx hb dX5_init_70 rfl (lv_at hl 1 rfl) ?_
        refine va_get (ci := 5) (v := .ref a4) (C := RX5) (T := TX5) (N := 10) hx hb hts (fun w h => BW_in (in_wsX50 w h)) hown hK hP 0 rfl rfl 6 (by decide) (hts (.fieldLink RX5 29 "NumberFieldFactorsModel" "degree" "[I") (BW_in mw_318)) (fun _ h9 => h9) rfl dX5_init_71 ?_
        refine lv_iload_n hx hb dX5_init_74 rfl (lv_at hl 0 rfl) ?_
        refine lv_iconst (v := -1) hx hb dX5_init_75 (by decide) ?_
        refine va_iast hx hb hK hP hD hS 4 0 rfl htI (nI_in hlt (by decide)) dX5_init_76 (fun H locs hP hD hS => ?_)
        rw [nI_clamp (by omega)] at hP hD
        refine lv_iinc (v := nI (i + 1)) (lv' := [(1, .int (nI (i + 1))), (0, .ref h0)]) hx hb dX5_init_77 hl (k := 0) rfl (nI_1 i) (by decide) rfl (fun ls hl => ?_)
        refine lv_goto (tgt := 64) hx hb dX5_init_80 (by decide) ?_
        refine ih (i + 1) (upd dg i (-1)) H locs ls (by omega) (by omega) (fun _ => ?_) hP hD hS hl
        by_cases z : i = 0
        · rw [z]; exact pk_us
        · rw [pk_un (fun q => z q.symm)]; exact h0i (by omega)
  refine W.widen (k := 5) (n := 440) (by decide) (by decide) ?_
  exact L64 26 0 (fun _ => 0) _ _ _ (by omega) (by omega) (fun q => by omega) hP hD hS hl
