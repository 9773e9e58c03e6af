/-! The object itself: 46 cells, in the order of the world. -/
theorem arr_same {c : ClassId} {n : Nat} {z z' : Nat → Value} (h : ∀ j, j < n → z j = z' j) : arrV c n z = arrV c n z' := by
  unfold arrV
  congr 1
  first | (apply Array.ext; · simp; · intro i h1 h2; simp at h1; simp [h i (by simpa using h1)]) | (congr 1; funext i; exact h i.val i.isLt)
def E00 : Nat → Int32 := fun k => if k = 0 then 1 else if k = 1 then 101 else 0
def P00 : Nat → Fin 20 := fun i => if h : i < 5 then ⟨15 + i, by omega⟩ else 15
def mnL (cI cR : ClassId) (h0 fr fa rg sp : Nat) (u v : Nat → Nat) : va_W := [(h0, .inr (4, [.ref fr, .ref rg, .ref sp])), (fr, .inr (2, [.ref fa])), (fa, .inl (cI, 16, .inl (fun _ => 0)))] ++ rgW cI rg u ++ spW cI cR sp v
def mnA (fr fa rg sp : Nat) (u v : Nat → Nat) : Nat → Nat := fun k => [fa, u 11, u 12, u 13, u 14, u 15, u 16, u 17, u 18, u 19, u 20, v 11, v 12, v 13, v 14, v 15, v 16, v 17, v 18, v 19, fr, u 1, u 2, u 3, u 4, u 5, u 6, u 7, u 8, u 9, u 10, v 2, v 3, v 4, v 5, v 6, v 7, v 8, v 9, v 10, u 0, rg, sp, v 0, v 1].getD k 0
def mnI (h0 : Nat) (a : Nat → Nat) : Nat → Nat := fun k => if k = 45 then h0 else a k
def mnG : Nat → Nat := fun k => [2, 6, 8, 10, 12, 14, 16, 18, 20, 22, 24, 29, 31, 33, 35, 37, 39, 41, 43, 45, 1, 5, 7, 9, 11, 13, 15, 17, 19, 21, 23, 28, 30, 32, 34, 36, 38, 40, 42, 44, 4, 3, 25, 26, 27, 0].getD k 0
theorem mnG_inj : ∀ i, i < 46 → ∀ j, j < 46 → mnG i = mnG j → i = j := by decide +kernel
theorem mn_at (cI cR : ClassId) (h0 fr fa rg sp : Nat) (u v : Nat → Nat) : ∀ k, k < 46 → ∃ e, (mnL cI cR h0 fr fa rg sp u v)[mnG k]? = some (mnI h0 (mnA fr fa rg sp u v) k, e)
  | 0, _ => ⟨_, rfl⟩
  | 1, _ => ⟨_, rfl⟩
  | 2, _ => ⟨_, rfl⟩
  | 3, _ => ⟨_, rfl⟩
  | 4, _ => ⟨_, rfl⟩
  | 5, _ => ⟨_, rfl⟩
  | 6, _ => ⟨_, rfl⟩
  | 7, _ => ⟨_, rfl⟩
  | 8, _ => ⟨_, rfl⟩
  | 9, _ => ⟨_, rfl⟩
  | 10, _ => ⟨_, rfl⟩
  | 11, _ => ⟨_, rfl⟩
  | 12, _ => ⟨_, rfl⟩
  | 13, _ => ⟨_, rfl⟩
  | 14, _ => ⟨_, rfl⟩
  | 15, _ => ⟨_, rfl⟩
  | 16, _ => ⟨_, rfl⟩
  | 17, _ => ⟨_, rfl⟩
  | 18, _ => ⟨_, rfl⟩
  | 19, _ => ⟨_, rfl⟩
  | 20, _ => ⟨_, rfl⟩
  | 21, _ => ⟨_, rfl⟩
  | 22, _ => ⟨_, rfl⟩
  | 23, _ => ⟨_, rfl⟩
  | 24, _ => ⟨_, rfl⟩
  | 25, _ => ⟨_, rfl⟩
  | 26, _ => ⟨_, rfl⟩
  | 27, _ => ⟨_, rfl⟩
  | 28, _ => ⟨_, rfl⟩
  | 29, _ => ⟨_, rfl⟩
  | 30, _ => ⟨_, rfl⟩
  | 31, _ => ⟨_, rfl⟩
  | 32, _ => ⟨_, rfl⟩
  | 33, _ => ⟨_, rfl⟩
  | 34, _ => ⟨_, rfl⟩
  | 35, _ => ⟨_, rfl⟩
  | 36, _ => ⟨_, rfl⟩
  | 37, _ => ⟨_, rfl⟩
  | 38, _ => ⟨_, rfl⟩
  | 39, _ => ⟨_, rfl⟩
  | 40, _ => ⟨_, rfl⟩
  | 41, _ => ⟨_, rfl⟩
  | 42, _ => ⟨_, rfl⟩
  | 43, _ => ⟨_, rfl⟩
  | 44, _ => ⟨_, rfl⟩
  | 45, _ => ⟨_, rfl⟩
  | k + 46, h => absurd h (by omega)
set_option maxRecDepth 10000 in
theorem mn_P {D : va_G} {cI cR : ClassId} {h0 fr fa rg sp : Nat} {u v : Nat → Nat} {H : Heap} (hP : va_P D vwCl (mnL cI cR h0 fr fa rg sp u v) H) : va_P D vwCl (ww 46 (mnI h0 (mnA fr fa rg sp u v)) (cellC cI cR (mnI h0 (mnA fr fa rg sp u v)) (fun _ _ => 0) E00 P00 (fun _ => 0) (fun _ => 0))) H := by
  intro k q hk
  obtain ⟨h46, rfl⟩ := ww_of hk
  match k, h46 with
  | 0, _ => exact hP 2 _ rfl
  | 1, _ => exact hP 6 _ rfl
  | 2, _ => exact hP 8 _ rfl
  | 3, _ => exact hP 10 _ rfl
  | 4, _ => exact hP 12 _ rfl
  | 5, _ => exact hP 14 _ rfl
  | 6, _ => exact hP 16 _ rfl
  | 7, _ => exact hP 18 _ rfl
  | 8, _ => exact hP 20 _ rfl
  | 9, _ => exact hP 22 _ rfl
  | 10, _ => exact hP 24 _ rfl
  | 11, _ => exact hP 29 _ rfl
  | 12, _ => exact hP 31 _ rfl
  | 13, _ => exact hP 33 _ rfl
  | 14, _ => exact hP 35 _ rfl
  | 15, _ => exact hP 37 _ rfl
  | 16, _ => exact hP 39 _ rfl
  | 17, _ => exact hP 41 _ rfl
  | 18, _ => exact hP 43 _ rfl
  | 19, _ => exact hP 45 _ rfl
  | 20, _ => exact hP 1 _ rfl
  | 21, _ => exact hP 5 _ rfl
  | 22, _ => exact hP 7 _ rfl
  | 23, _ => exact hP 9 _ rfl
  | 24, _ => exact hP 11 _ rfl
  | 25, _ => exact hP 13 _ rfl
  | 26, _ => exact hP 15 _ rfl
  | 27, _ => exact hP 17 _ rfl
  | 28, _ => exact hP 19 _ rfl
  | 29, _ => exact hP 21 _ rfl
  | 30, _ => exact hP 23 _ rfl
  | 31, _ => exact hP 28 _ rfl
  | 32, _ => exact hP 30 _ rfl
  | 33, _ => exact hP 32 _ rfl
  | 34, _ => exact hP 34 _ rfl
  | 35, _ => exact hP 36 _ rfl
  | 36, _ => exact hP 38 _ rfl
  | 37, _ => exact hP 40 _ rfl
  | 38, _ => exact hP 42 _ rfl
  | 39, _ => exact hP 44 _ rfl
  | 40, _ => exact hP 4 _ rfl
  | 41, _ => exact hP 3 _ rfl
  | 42, _ => exact hP 25 _ rfl
  | 43, _ =>
    have h := hP 26 _ rfl
    have e : vp_cell cR (5, .inr (.inr (.inr (.inr (fun i => some (ra (mnI h0 (mnA fr fa rg sp u v)) (P00 i))))))) = vp_cell cR (5, .inr (.inr (.inr (.inr (va_up (va_up (va_up (va_up (va_up (fun _ => none) 0 (some (v 6))) 1 (some (v 7))) 2 (some (v 8))) 3 (some (v 9))) 4 (some (v 10))))))) := by
      rw [vp_cell_q, vp_cell_q]
      refine arr_same (fun j hj => ?_)
      match j, hj with
      | 0, _ => rfl
      | 1, _ => rfl
      | 2, _ => rfl
      | 3, _ => rfl
      | 4, _ => rfl
      | j + 5, hj => exact absurd hj (by omega)
    show H[v 0]? = some (vp_cell cR (5, .inr (.inr (.inr (.inr (fun i => some (ra (mnI h0 (mnA fr fa rg sp u v)) (P00 i))))))))
    rw [e]
    exact h
  | 44, _ => exact hP 27 _ rfl
  | 45, _ => exact hP 0 _ rfl
  | k + 46, h => exact absurd h (by omega)
theorem mn_D {A : Nat → Prop} {cI cR : ClassId} {h0 fr fa rg sp : Nat} {u v : Nat → Nat} {c : Nat → va_E} (hD : va_D A (mnL cI cR h0 fr fa rg sp u v)) : ww_inj 46 (mnI h0 (mnA fr fa rg sp u v)) ∧ va_D A (ww 46 (mnI h0 (mnA fr fa rg sp u v)) c) := by
  have hj : ww_inj 46 (mnI h0 (mnA fr fa rg sp u v)) := fun i j hi hj e => by
    obtain ⟨e1, h1⟩ := mn_at cI cR h0 fr fa rg sp u v i hi
    obtain ⟨e2, h2⟩ := mn_at cI cR h0 fr fa rg sp u v j hj
    exact mnG_inj i hi j hj (hD.1 _ _ _ _ h1 h2 e)
  refine ⟨hj, fun i j p q h1 h2 e => ?_, fun k q hk => ?_⟩
  · obtain ⟨a1, rfl⟩ := ww_of h1
    obtain ⟨a2, rfl⟩ := ww_of h2
    exact hj i j a1 a2 e
  · obtain ⟨a1, rfl⟩ := ww_of hk
    obtain ⟨e1, h1⟩ := mn_at cI cR h0 fr fa rg sp u v k a1
    have h2 := hD.2 _ _ h1
    exact h2
set_option maxHeartbeats 4000000 in
set_option maxRecDepth 100000 in
theorem K_X4 (l : Launch) (D : va_G) (tys : List (ClassId × FieldType)) (nw : List Cond) (hn : nw.all nw_kind = true) (hnw : ∀ w ∈ nw1, w ∈ nw) {cI cR : ClassId} (htI : tys[0]? = some (cI, .int)) (htR : tys[1]? = some (cR, .object RX2)) (h0 sz : Nat) : Met l yX4_init usX4_init ({ frames := 3, cells := 45, slots := 377, locals := 53 }) (va_Pc [.ref h0] (cb D tys nw [(h0, .inr (4, [.null, .null, .null]))] sz)) (cq D [(h0, .inr (4, [.null, .null, .null]))] (fun (a : Nat → Nat) => ww 46 (mnI h0 a) (cellC cI cR (mnI h0 a) (fun _ _ => 0) E00 P00 (fun _ => 0) (fun _ => 0))) sz) 45 377 (va_A [(h0, .inr (4, [.null, .null, .null]))] sz) := by
  refine Met.ofW (cc := cX4_init) (maxL := 1) (ret := none) (by decide) rfl ?_
  intro p e s m args below meth c s₁ B hml hv
  obtain ⟨rfl, hsz, hP, hK, hN, hAO, hD0⟩ := hv
  have hx := B.exec
  have hb := B.bytes
  have hr := B.returns
  have hts := atoms_spec (ws := usX4_init) B.pre
  have hown : s.vm.findClass RX4 = some m.cls := findClass_of_methodNamed B.named
  have hin : meth.name = "<init>" := (name_of_methodNamed B.named B.method).1
  subst hsz
  have hD := hD0.self (sz := s.heap.size)
  have hA : ∀ q : Nat, s.heap.size ≤ q → va_A [(h0, .inr (4, [.null, .null, .null]))] s.heap.size q := fun q h => Or.inr h
  have hS : va_S (va_A [(h0, .inr (4, [.null, .null, .null]))] s.heap.size) s.heap s.heap [] := va_S.rf
  have hl := lv_entry ([.ref h0]) (n := 1) (Nat.le_of_ble_eq_true rfl)
  rw [lg_entry_eq]
  generalize (lg_sl ([.ref h0]) ++ List.replicate (1 - (lg_sl ([.ref h0])).length) Slot.unset).toArray = ls at hl ⊢
  have hl : lv_has ls 1 [(0, .ref h0)] := hl
  refine lv_aload_n hx hb dX4_init_0 rfl (lv_at hl 0 rfl) ?_
  refine W.objInit hx hb hown (hts (.methodLink RX4 1 objectInit) (BW_in mw_203)) (hts (.instanceMethod objectInit) (BW_in mw_2)) (hts (.code objectInit ⟨#[0xb1]⟩ 1 none) (BW_in mw_3)) rfl (by rw [hml]; exact hl.1) rfl dX4_init_1 (Nat.le_of_ble_eq_true rfl) (Nat.le_of_ble_eq_true rfl) ?_
  refine W.eq (g2 := F0 m 4 ls []) rfl ?_
  refine lv_aload_n hx hb dX4_init_4 rfl (lv_at hl 0 rfl) ?_
  refine k_new (ci := 2) (fs := [.null]) (C := RX2) (T := TX2) (N := 1) (S := Nat) (mc := 1) (ms := 16) hx hb hts (fun w h => BW_in (in_wsX20 w h)) tyX2 tyX2_ok hown (hts (.classLink RX4 7 RX2) (BW_in mw_204)) (hts (.instantiable RX2 1) (BW_in mw_49)) (hts (.initialized RX2) (BW_in mw_50)) hK hP hD hS hA rfl (fun j hj => by rcases (show j = 0 by omega) with rfl <;> rfl) (Nat.le_of_ble_eq_true rfl) (Nat.le_of_ble_eq_true rfl) dX4_init_5 dX4_init_8 hn hN hAO (fun (q a : Nat) => [(q, .inr (2, [.ref a])), (a, .inl (cI, 16, .inl (fun _ => 0)))]) (fun fr H hp => va_runIN (host := "NumberFieldFactors") (As := []) (rest := [.ref fr, .ref h0]) ⟨hx, hb, hml, hown, hts⟩ (K_X2 l D tys nw hn hnw htI htR fr H.size) (⟨va_cnB 0 hts (gu_m mw_40) rfl rfl rfl (hN _ (hnw _ (by decide +kernel))) (hts (.initialized RX2) (BW_in mw_50)) (by decide +kernel) ⟨Nat.le_of_ble_eq_true rfl, Nat.le_of_ble_eq_true rfl⟩, rfl, (hts (.instanceMethod yX2_init) (BW_in mw_62))⟩) hp rfl rfl hl.1 rfl (lv_room (Nat.le_of_ble_eq_true rfl)) dX4_init_9 ⟨Nat.le_of_ble_eq_true rfl, Nat.le_of_ble_eq_true rfl⟩) (fun fr fa H locs hP hD hS => ?_)
  have hP : va_P D vwCl [(h0, .inr (4, [.null, .null, .null])), (fr, .inr (2, [.ref fa])), (fa, .inl (cI, 16, .inl (fun _ => 0)))] H := hP
  have hD : va_D (va_A [(h0, .inr (4, [.null, .null, .null]))] s.heap.size) [(h0, .inr (4, [.null, .null, .null])), (fr, .inr (2, [.ref fa])), (fa, .inl (cI, 16, .inl (fun _ => 0)))] := hD
  refine va_putF (D := D) (ci := 4) (v := .ref fr) (ty := .object "NumberFieldFactors$Row") (C := RX4) (T := TX4) (N := 3) hx hb hts (fun w h => BW_in (in_wsX40 w h)) tyX4 tyX4_ok nmX4 hown hK hP hD hS 0 rfl rfl 0 (by decide) (hts (.fieldLink RX4 10 "NumberFieldFactors" "f" "LNumberFieldFactors$Row;") (BW_in mw_205)) (fun _ h9 => h9) rfl hin rfl (by decide +kernel) rfl rfl (Nat.le_of_ble_eq_true rfl) dX4_init_12 (fun H locs hP hD hS => ?_)
  have hP : va_P D vwCl [(h0, .inr (4, [.ref fr, .null, .null])), (fr, .inr (2, [.ref fa])), (fa, .inl (cI, 16, .inl (fun _ => 0)))] H := hP
  have hD : va_D (va_A [(h0, .inr (4, [.null, .null, .null]))] s.heap.size) [(h0, .inr (4, [.ref fr, .null, .null])), (fr, .inr (2, [.ref fa])), (fa, .inl (cI, 16, .inl (fun _ => 0)))] := hD
  refine lv_aload_n hx hb dX4_init_15 rfl (lv_at hl 0 rfl) ?_
  refine k_new (ci := 1) (fs := [.null, .null, .null, .null, .null, .null, .null, .null, .null, .null, .null]) (C := RX1) (T := TX1) (N := 11) (S := Nat → Nat) (mc := 21) (ms := 178) hx hb hts (fun w h => BW_in (in_wsX10 w h)) tyX1 tyX1_ok hown (hts (.classLink RX4 16 RX1) (BW_in mw_206)) (hts (.instantiable RX1 11) (BW_in mw_207)) (hts (.initialized RX1) (BW_in mw_100)) hK hP hD hS hA rfl (fun j hj => by rcases (show j = 0 ∨ j = 1 ∨ j = 2 ∨ j = 3 ∨ j = 4 ∨ j = 5 ∨ j = 6 ∨ j = 7 ∨ j = 8 ∨ j = 9 ∨ j = 10 by omega) with rfl | rfl | rfl | rfl | rfl | rfl | rfl | rfl | rfl | rfl | rfl <;> rfl) (Nat.le_of_ble_eq_true rfl) (Nat.le_of_ble_eq_true rfl) dX4_init_16 dX4_init_19 hn hN hAO (fun (q : Nat) (f : Nat → Nat) => rgW cI q f) (fun rg H hp => va_runIN (host := "NumberFieldFactors") (As := []) (rest := [.ref rg, .ref h0]) ⟨hx, hb, hml, hown, hts⟩ (K_X1 l D tys nw hn hnw htI htR rg H.size) (⟨va_cnB 0 hts (gu_m mw_63) rfl rfl rfl (hN _ (hnw _ (by decide +kernel))) (hts (.initialized RX1) (BW_in mw_100)) (by decide +kernel) ⟨Nat.le_of_ble_eq_true rfl, Nat.le_of_ble_eq_true rfl⟩, rfl, (hts (.instanceMethod yX1_init) (BW_in mw_212))⟩) hp rfl rfl hl.1 rfl (lv_room (Nat.le_of_ble_eq_true rfl)) dX4_init_20 ⟨Nat.le_of_ble_eq_true rfl, Nat.le_of_ble_eq_true rfl⟩) (fun rg u H locs hP hD hS => ?_)
  have hP : va_P D vwCl ([(h0, .inr (4, [.ref fr, .null, .null])), (fr, .inr (2, [.ref fa])), (fa, .inl (cI, 16, .inl (fun _ => 0)))] ++ rgW cI rg u) H := hP
  have hD : va_D (va_A [(h0, .inr (4, [.null, .null, .null]))] s.heap.size) ([(h0, .inr (4, [.ref fr, .null, .null])), (fr, .inr (2, [.ref fa])), (fa, .inl (cI, 16, .inl (fun _ => 0)))] ++ rgW cI rg u) := hD
  refine va_putF (D := D) (ci := 4) (v := .ref rg) (ty := .object "NumberFieldFactors$Ring") (C := RX4) (T := TX4) (N := 3) hx hb hts (fun w h => BW_in (in_wsX40 w h)) tyX4 tyX4_ok nmX4 hown hK hP hD hS 0 rfl rfl 1 (by decide) (hts (.fieldLink RX4 19 "NumberFieldFactors" "ring" "LNumberFieldFactors$Ring;") (BW_in mw_208)) (fun _ h9 => h9) rfl hin rfl (by decide +kernel) rfl rfl (Nat.le_of_ble_eq_true rfl) dX4_init_23 (fun H locs hP hD hS => ?_)
  have hP : va_P D vwCl ([(h0, .inr (4, [.ref fr, .ref rg, .null])), (fr, .inr (2, [.ref fa])), (fa, .inl (cI, 16, .inl (fun _ => 0)))] ++ rgW cI rg u) H := hP
  have hD : va_D (va_A [(h0, .inr (4, [.null, .null, .null]))] s.heap.size) ([(h0, .inr (4, [.ref fr, .ref rg, .null])), (fr, .inr (2, [.ref fa])), (fa, .inl (cI, 16, .inl (fun _ => 0)))] ++ rgW cI rg u) := hD
  refine lv_aload_n hx hb dX4_init_26 rfl (lv_at hl 0 rfl) ?_
  refine k_new (ci := 3) (fs := [.null, .null, .int 0, .int 0, .null, .null, .null, .null]) (C := RX3) (T := TX3) (N := 8) (S := Nat → Nat) (mc := 20) (ms := 163) hx hb hts (fun w h => BW_in (in_wsX30 w h)) tyX3 tyX3_ok hown (hts (.classLink RX4 23 RX3) (BW_in mw_209)) (hts (.instantiable RX3 8) (BW_in mw_210)) (hts (.initialized RX3) (BW_in mw_158)) hK hP hD hS hA rfl (fun j hj => by rcases (show j = 0 ∨ j = 1 ∨ j = 2 ∨ j = 3 ∨ j = 4 ∨ j = 5 ∨ j = 6 ∨ j = 7 by omega) with rfl | rfl | rfl | rfl | rfl | rfl | rfl | rfl <;> rfl) (Nat.le_of_ble_eq_true rfl) (Nat.le_of_ble_eq_true rfl) dX4_init_27 dX4_init_30 hn hN hAO (fun (q : Nat) (f : Nat → Nat) => spW cI cR q f) (fun sp H hp => va_runI (As := []) (rest := [.ref sp, .ref h0]) ⟨hx, hb, hml, hown, hts⟩ (K_X3 l D tys nw hn hnw htI htR sp H.size) (cwI 0 hts (gu_m mw_140) rfl rfl rfl (hts (.initialized RX3) (BW_in mw_158)) (hts (.methodLink RX4 25 yX3_init) (BW_in mw_213)) (hts (.instanceMethod yX3_init) (BW_in mw_214)) rfl (by decide +kernel) ⟨Nat.le_of_ble_eq_true rfl, Nat.le_of_ble_eq_true rfl⟩) hp rfl rfl hl.1 rfl (lv_room (Nat.le_of_ble_eq_true rfl)) dX4_init_31 ⟨Nat.le_of_ble_eq_true rfl, Nat.le_of_ble_eq_true rfl⟩) (fun sp v H locs hP hD hS => ?_)
  have hP : va_P D vwCl ([(h0, .inr (4, [.ref fr, .ref rg, .null])), (fr, .inr (2, [.ref fa])), (fa, .inl (cI, 16, .inl (fun _ => 0)))] ++ rgW cI rg u ++ spW cI cR sp v) H := hP
  have hD : va_D (va_A [(h0, .inr (4, [.null, .null, .null]))] s.heap.size) ([(h0, .inr (4, [.ref fr, .ref rg, .null])), (fr, .inr (2, [.ref fa])), (fa, .inl (cI, 16, .inl (fun _ => 0)))] ++ rgW cI rg u ++ spW cI cR sp v) := hD
  refine va_putF (D := D) (ci := 4) (v := .ref sp) (ty := .object "NumberFieldFactors$Splitter") (C := RX4) (T := TX4) (N := 3) hx hb hts (fun w h => BW_in (in_wsX40 w h)) tyX4 tyX4_ok nmX4 hown hK hP hD hS 0 rfl rfl 2 (by decide) (hts (.fieldLink RX4 26 "NumberFieldFactors" "splitter" "LNumberFieldFactors$Splitter;") (BW_in mw_211)) (fun _ h9 => h9) rfl hin rfl (by decide +kernel) rfl rfl (Nat.le_of_ble_eq_true rfl) dX4_init_34 (fun H locs hP hD hS => ?_)
  have hP : va_P D vwCl (mnL cI cR h0 fr fa rg sp u v) H := hP
  have hD : va_D (va_A [(h0, .inr (4, [.null, .null, .null]))] s.heap.size) (mnL cI cR h0 fr fa rg sp u v) := hD
  refine W.widen (k := 45) (n := 377) (by decide) (by decide) ?_
  exact W.vret hx hb hr (fun t ht hW => ⟨⟨mnA fr fa rg sp u v, rfl, trivial, by rw [ht]; exact mn_P hP, (mn_D hD).2⟩, hS.F ht⟩) hS.2.2 dX4_init_37
