def f_X0_hasRoot_l3 (k3 : Int32 → Option (Int32)) (fu : Nat) (x0 : Int32) (x1 : Int32) (x2 : Int32) (x3 : Int32) : Nat → Int32 → Option (Int32)
  | 0, _ => none
  | n + 1, x4 =>
    if 101 ≤ x4 then
      k3 x4
    else
      ((
        if x0 = 2 then
          some 1
        else
          some (jrem (x4 + x3) 101) : Option (Int32))).bind (fun w2 =>
      if (jrem (((jrem ((w2 * x4) + x2) 101) * x4) + x1) 101) = 0 then
        some 1
      else
        f_X0_hasRoot_l3 k3 fu x0 x1 x2 x3 n (x4 + 1))
def f_X0_hasRoot (fu : Nat) (p0 : Int32) (p1 : Int32) (p2 : Int32) (p3 : Int32) : Option (Int32) :=
  f_X0_hasRoot_l3 (fun y5 =>
    some 0) fu p0 p1 p2 p3 fu 0
set_option maxHeartbeats 4000000 in
set_option maxRecDepth 100000 in
theorem C_X0_hasRoot (l : Launch) (D : va_G) (tys : List (ClassId × FieldType)) (nw : List Cond) (hn : nw.all nw_kind = true) (hnw : ∀ w ∈ nw0, w ∈ nw) {ad : Nat → Nat} (hj : ww_inj 46 ad) {cI : ClassId} {cR : ClassId} (htI : tys[0]? = some (cI, .int)) (htR : tys[1]? = some (cR, .object RX2)) {fu : Nat} {M : Fin 20 → Nat → Int32} {E : Nat → Int32} {P : Nat → Fin 20} {C : Nat → Int32} {N : Nat → Int32} {p0 : Int32} {p1 : Int32} {p2 : Int32} {p3 : Int32} {res : Int32} (hf : f_X0_hasRoot fu p0 p1 p2 p3 = some res) :
    Met l yX0_hasRoot usX0_hasRoot ({ frames := 0, cells := 0, slots := 0, locals := 0 }) (va_Pc [.int p0, .int p1, .int p2, .int p3] (ws_B D tys nw (ww 46 ad (cellC cI cR ad M E P C N)))) (ct_Q D (ww 46 ad (cellC cI cR ad M E P C N)) (ww_A 46 ad) (some (.int res))) 0 0 (ww_A 46 ad) := by
  refine Met.ofW (cc := cX0_hasRoot) (maxL := 6) (ret := (some .boolean)) (by decide) rfl ?_
  intro p e s m args below meth c s₁ B hml hv
  obtain ⟨rfl, hP, hK, hN⟩ := hv
  have hx := B.exec
  have hb := B.bytes
  have hr := B.returns
  have hts := atoms_spec (ws := usX0_hasRoot) B.pre
  have hown : s.vm.findClass RX0 = some m.cls := findClass_of_methodNamed B.named
  have hlocks := B.notSynchronized
  have hS : va_S (ww_A 46 ad) s.heap s.heap [] := va_S.rf
  have hl := lv_entry ([.int p0, .int p1, .int p2, .int p3]) (n := 6) (Nat.le_of_ble_eq_true rfl)
  rw [lg_entry_eq]
  generalize (lg_sl ([.int p0, .int p1, .int p2, .int p3]) ++ List.replicate (6 - (lg_sl ([.int p0, .int p1, .int p2, .int p3])).length) Slot.unset).toArray = ls at hl ⊢
  have hl : lv_has ls 6 [(0, .int p0), (1, .int p1), (2, .int p2), (3, .int p3)] := hl
  have L3 : ∀ (x0 : Int32) (x1 : Int32) (x2 : Int32) (x3 : Int32) (k3 : Int32 → Option (Int32)), (∀ (x4 : Int32) (H : Heap) (locs : List Loc) (ls : Array Slot), va_P D vwCl (ww 46 ad (cellC cI cR ad M E P C N)) H → va_S (ww_A 46 ad) s.heap H locs → lv_has ls 6 [(0, .int x0), (1, .int x1), (2, .int x2), (3, .int x3), (4, .int x4)] →  k3 x4 = some res → W p l e (headSpec usX0_hasRoot { frames := 0, cells := 0, slots := 0, locals := 0 }).room s m [.int p0, .int p1, .int p2, .int p3].toArray below meth c H locs 0 0 (MQ below (ct_Q D (ww 46 ad (cellC cI cR ad M E P C N)) (ww_A 46 ad) (some (.int res))) [.int p0, .int p1, .int p2, .int p3].toArray s 0 0 (ww_A 46 ad)) (F0 m 57 ls [])) → ∀ (n : Nat) (x4 : Int32) (H : Heap) (locs : List Loc) (ls : Array Slot), va_P D vwCl (ww 46 ad (cellC cI cR ad M E P C N)) H → va_S (ww_A 46 ad) s.heap H locs → lv_has ls 6 [(0, .int x0), (1, .int x1), (2, .int x2), (3, .int x3), (4, .int x4)] →  f_X0_hasRoot_l3 k3 fu x0 x1 x2 x3 n x4 = some res → W p l e (headSpec usX0_hasRoot { frames := 0, cells := 0, slots := 0, locals := 0 }).room s m [.int p0, .int p1, .int p2, .int p3].toArray below meth c H locs 0 0 (MQ below (ct_Q D (ww 46 ad (cellC cI cR ad M E P C N)) (ww_A 46 ad) (some (.int res))) [.int p0, .int p1, .int p2, .int p3].toArray s 0 0 (ww_A 46 ad)) (F0 m 3 ls []) := by
    intro x0 x1 x2 x3 k3 hk_3 n
    induction n with
    | zero => intro x4 H locs ls hP hS hl hf; rw [f_X0_hasRoot_l3] at hf; cases hf
    | succ n ih =>
      intro x4 H locs ls hP hS hl hf
      rw [f_X0_hasRoot_l3] at hf
      refine lv_iload hx hb dX0_hasRoot_3 (lv_at hl 4 rfl) ?_
      refine lv_bipush (v := 101) hx hb dX0_hasRoot_5 (by decide) ?_
      refine lv_icmp_ge (tgt := 57) hx hb dX0_hasRoot_7 (by decide) (fun c1 => ?_) (fun c1 => ?_)
      · rw [if_pos c1] at hf
        exact hk_3 x4 _ _ _ hP hS (lv_sub hl [0, 1, 2, 3, 4] rfl) hf
      · rw [if_neg c1] at hf
        refine lv_iload_n hx hb dX0_hasRoot_10 rfl (lv_at hl 0 rfl) ?_
        refine lv_iconst (v := 2) hx hb dX0_hasRoot_11 (by decide) ?_
        obtain ⟨w2, gw2, hf⟩ := Option.bind_eq_some_iff.mp hf
        try dsimp only at hf
        have hJ26_w2 : ∀ (H : Heap) (locs : List Loc) (ls : Array Slot), va_P D vwCl (ww 46 ad (cellC cI cR ad M E P C N)) H → va_S (ww_A 46 ad) s.heap H locs → lv_has ls 6 [(0, .int x0), (1, .int x1), (2, .int x2), (3, .int x3), (4, .int x4)] → W p l e (headSpec usX0_hasRoot { frames := 0, cells := 0, slots := 0, locals := 0 }).room s m [.int p0, .int p1, .int p2, .int p3].toArray below meth c H locs 0 0 (MQ below (ct_Q D (ww 46 ad (cellC cI cR ad M E P C N)) (ww_A 46 ad) (some (.int res))) [.int p0, .int p1, .int p2, .int p3].toArray s 0 0 (ww_A 46 ad)) (F0 m 26 ls [.int w2]) := by
          intro H locs ls hP hS hl
          refine lv_istore (lv' := [(5, .int w2), (0, .int x0), (1, .int x1), (2, .int x2), (3, .int x3), (4, .int x4)]) hx hb dX0_hasRoot_26 hl (by decide) rfl (fun ls hl => ?_)
          refine lv_iload hx hb dX0_hasRoot_28 (lv_at hl 0 rfl) ?_
          refine lv_iload hx hb dX0_hasRoot_30 (lv_at hl 5 rfl) ?_
          refine lv_imul hx hb dX0_hasRoot_32 ?_
          refine lv_iload_n hx hb dX0_hasRoot_33 rfl (lv_at hl 3 rfl) ?_
          refine lv_iadd hx hb dX0_hasRoot_34 ?_
          refine lv_bipush (v := 101) hx hb dX0_hasRoot_35 (by decide) ?_
          refine jv_irem hx hb dX0_hasRoot_37 (by decide) ?_
          refine lv_iload hx hb dX0_hasRoot_38 (lv_at hl 5 rfl) ?_
          refine lv_imul hx hb dX0_hasRoot_40 ?_
          refine lv_iload_n hx hb dX0_hasRoot_41 rfl (lv_at hl 2 rfl) ?_
          refine lv_iadd hx hb dX0_hasRoot_42 ?_
          refine lv_bipush (v := 101) hx hb dX0_hasRoot_43 (by decide) ?_
          refine jv_irem hx hb dX0_hasRoot_45 (by decide) ?_
          refine lv_if_ne (tgt := 51) hx hb dX0_hasRoot_46 (by decide) (fun c4 => ?_) (fun c4 => ?_)
          · rw [if_neg c4] at hf
            refine lv_iinc (v := x4 + 1) (lv' := [(4, .int (x4 + 1)), (5, .int w2), (0, .int x0), (1, .int x1), (2, .int x2), (3, .int x3)]) hx hb dX0_hasRoot_51 hl (k := 5) rfl rfl (by decide) rfl (fun ls hl => ?_)
            refine lv_goto (tgt := 3) hx hb dX0_hasRoot_54 (by decide) ?_
            exact ih (x4 + 1) _ _ _ hP hS (lv_sub hl [2, 3, 4, 5, 0] rfl) hf
          · rw [if_pos c4] at hf
            refine lv_iconst (v := 1) hx hb dX0_hasRoot_49 (by decide) ?_
            obtain rfl := Option.some.inj hf
            exact W.zret (v := 1) (ty := .boolean) hx hb hr (by decide) (fun t ht hW => ⟨rfl, by rw [ht]; exact hP, hS.F ht⟩) hS.2.2 dX0_hasRoot_50
        refine lv_icmp_ne (tgt := 19) hx hb dX0_hasRoot_12 (by decide) (fun c3 => ?_) (fun c3 => ?_)
        · rw [if_neg c3] at gw2
          refine lv_iload hx hb dX0_hasRoot_19 (lv_at hl 4 rfl) ?_
          refine lv_iload_n hx hb dX0_hasRoot_21 rfl (lv_at hl 3 rfl) ?_
          refine lv_iadd hx hb dX0_hasRoot_22 ?_
          refine lv_bipush (v := 101) hx hb dX0_hasRoot_23 (by decide) ?_
          refine jv_irem hx hb dX0_hasRoot_25 (by decide) ?_
          obtain rfl := Option.some.inj gw2
          exact hJ26_w2 _ _ _ hP hS (lv_sub hl [0, 1, 2, 3, 4] rfl)
        · rw [if_pos c3] at gw2
          refine lv_iconst (v := 1) hx hb dX0_hasRoot_15 (by decide) ?_
          refine lv_goto (tgt := 26) hx hb dX0_hasRoot_16 (by decide) ?_
          obtain rfl := Option.some.inj gw2
          exact hJ26_w2 _ _ _ hP hS (lv_sub hl [0, 1, 2, 3, 4] rfl)
  unfold f_X0_hasRoot at hf
  refine lv_iconst (v := 0) hx hb dX0_hasRoot_0 (by decide) ?_
  refine lv_istore (lv' := [(4, .int 0), (0, .int p0), (1, .int p1), (2, .int p2), (3, .int p3)]) hx hb dX0_hasRoot_1 hl (by decide) rfl (fun ls hl => ?_)
  refine L3 p0 p1 p2 p3 _ (fun y5 H locs ls hP hS hl hf => ?_) fu 0 _ _ _ hP hS (lv_sub hl [1, 2, 3, 4, 0] rfl) hf
  try dsimp only at hf
  refine lv_iconst (v := 0) hx hb dX0_hasRoot_57 (by decide) ?_
  obtain rfl := Option.some.inj hf
  exact W.zret (v := 0) (ty := .boolean) hx hb hr (by decide) (fun t ht hW => ⟨rfl, by rw [ht]; exact hP, hS.F ht⟩) hS.2.2 dX0_hasRoot_58
def f_X0_modulusAt (E : Nat → Int32) (p0 : Int32) : Option (Int32) :=
  if p0 = (E 0) then
    some 1
  else
    if p0 = 0 then
      some (E 2)
    else
    if p0 = 1 then
      some (E 3)
    else
    if p0 = 2 then
      some (E 4)
    else
    some 0
set_option maxHeartbeats 4000000 in
set_option maxRecDepth 100000 in
theorem C_X0_modulusAt (l : Launch) (D : va_G) (tys : List (ClassId × FieldType)) (nw : List Cond) (hn : nw.all nw_kind = true) (hnw : ∀ w ∈ nw0, w ∈ nw) {ad : Nat → Nat} (hj : ww_inj 46 ad) {cI : ClassId} {cR : ClassId} (htI : tys[0]? = some (cI, .int)) (htR : tys[1]? = some (cR, .object RX2)) {M : Fin 20 → Nat → Int32} {E : Nat → Int32} {P : Nat → Fin 20} {C : Nat → Int32} {N : Nat → Int32} {p0 : Int32} {res : Int32} (hf : f_X0_modulusAt E p0 = some res) :
    Met l yX0_modulusAt usX0_modulusAt ({ frames := 0, cells := 0, slots := 0, locals := 0 }) (va_Pc [.ref (ad 40), .int p0] (ws_B D tys nw (ww 46 ad (cellC cI cR ad M E P C N)))) (ct_Q D (ww 46 ad (cellC cI cR ad M E P C N)) (ww_A 46 ad) (some (.int res))) 0 0 (ww_A 46 ad) := by
  refine Met.ofW (cc := cX0_modulusAt) (maxL := 2) (ret := (some .int)) (by decide) rfl ?_
  intro p e s m args below meth c s₁ B hml hv
  obtain ⟨rfl, hP, hK, hN⟩ := hv
  have hx := B.exec
  have hb := B.bytes
  have hr := B.returns
  have hts := atoms_spec (ws := usX0_modulusAt) B.pre
  have hown : s.vm.findClass RX0 = some m.cls := findClass_of_methodNamed B.named
  have hlocks := B.notSynchronized
  have hS : va_S (ww_A 46 ad) s.heap s.heap [] := va_S.rf
  have hl := lv_entry ([.ref (ad 40), .int p0]) (n := 2) (Nat.le_of_ble_eq_true rfl)
  rw [lg_entry_eq]
  generalize (lg_sl ([.ref (ad 40), .int p0]) ++ List.replicate (2 - (lg_sl ([.ref (ad 40), .int p0])).length) Slot.unset).toArray = ls at hl ⊢
  have hl : lv_has ls 2 [(0, .ref (ad 40)), (1, .int p0)] := hl
  unfold f_X0_modulusAt at hf
  refine lv_iload_n hx hb dX0_modulusAt_0 rfl (lv_at hl 1 rfl) ?_
  refine lv_aload_n hx hb dX0_modulusAt_1 rfl (lv_at hl 0 rfl) ?_
  refine va_get (ci := 0) (v := .int (E 0)) (C := RX0) (T := TX0) (N := 8) hx hb hts (fun w h => BW_in (in_wsX00 w h)) hown hK hP 40 cc_ext rfl 0 (by decide) (hts (.fieldLink RX0 9 "NumberFieldFactors$Extension" "degree" "I") (BW_in mw_4)) (fun _ h9 => h9) rfl dX0_modulusAt_2 ?_
  refine lv_icmp_ne (tgt := 10) hx hb dX0_modulusAt_5 (by decide) (fun c1 => ?_) (fun c1 => ?_)
  · rw [if_neg c1] at hf
    refine lv_iload_n hx hb dX0_modulusAt_10 rfl (lv_at hl 1 rfl) ?_
    by_cases c2 : p0 = 0
    · rw [if_pos c2] at hf
      refine lv_tableIn (off := 25) (tgt := 36) hx hb dX0_modulusAt_11 (by rw [c2]; decide) (by rw [c2]; decide) (by rw [c2]; rfl) (by decide) ?_
      refine lv_aload_n hx hb dX0_modulusAt_36 rfl (lv_at hl 0 rfl) ?_
      refine va_get (ci := 0) (v := .int (E 2)) (C := RX0) (T := TX0) (N := 8) hx hb hts (fun w h => BW_in (in_wsX00 w h)) hown hK hP 40 cc_ext rfl 2 (by decide) (hts (.fieldLink RX0 18 "NumberFieldFactors$Extension" "low0" "I") (BW_in mw_6)) (fun _ h9 => h9) rfl dX0_modulusAt_37 ?_
      obtain rfl := Option.some.inj hf
      exact W.iret (v := E 2) hx hb hr (fun t ht hW => ⟨rfl, by rw [ht]; exact hP, hS.F ht⟩) hS.2.2 dX0_modulusAt_40
    rw [if_neg c2] at hf
    by_cases c3 : p0 = 1
    · rw [if_pos c3] at hf
      refine lv_tableIn (off := 30) (tgt := 41) hx hb dX0_modulusAt_11 (by rw [c3]; decide) (by rw [c3]; decide) (by rw [c3]; rfl) (by decide) ?_
      refine lv_aload_n hx hb dX0_modulusAt_41 rfl (lv_at hl 0 rfl) ?_
      refine va_get (ci := 0) (v := .int (E 3)) (C := RX0) (T := TX0) (N := 8) hx hb hts (fun w h => BW_in (in_wsX00 w h)) hown hK hP 40 cc_ext rfl 3 (by decide) (hts (.fieldLink RX0 21 "NumberFieldFactors$Extension" "low1" "I") (BW_in mw_7)) (fun _ h9 => h9) rfl dX0_modulusAt_42 ?_
      obtain rfl := Option.some.inj hf
      exact W.iret (v := E 3) hx hb hr (fun t ht hW => ⟨rfl, by rw [ht]; exact hP, hS.F ht⟩) hS.2.2 dX0_modulusAt_45
    rw [if_neg c3] at hf
    by_cases c4 : p0 = 2
    · rw [if_pos c4] at hf
      refine lv_tableIn (off := 35) (tgt := 46) hx hb dX0_modulusAt_11 (by rw [c4]; decide) (by rw [c4]; decide) (by rw [c4]; rfl) (by decide) ?_
      refine lv_aload_n hx hb dX0_modulusAt_46 rfl (lv_at hl 0 rfl) ?_
      refine va_get (ci := 0) (v := .int (E 4)) (C := RX0) (T := TX0) (N := 8) hx hb hts (fun w h => BW_in (in_wsX00 w h)) hown hK hP 40 cc_ext rfl 4 (by decide) (hts (.fieldLink RX0 24 "NumberFieldFactors$Extension" "low2" "I") (BW_in mw_8)) (fun _ h9 => h9) rfl dX0_modulusAt_47 ?_
      obtain rfl := Option.some.inj hf
      exact W.iret (v := E 4) hx hb hr (fun t ht hW => ⟨rfl, by rw [ht]; exact hP, hS.F ht⟩) hS.2.2 dX0_modulusAt_50
    rw [if_neg c4] at hf
    refine lv_tableOut (tgt := 51) hx hb dX0_modulusAt_11 (by have ec2 : (p0).toInt ≠ 0 := fun h => c2 (Int32.toInt_inj.mp (h.trans (by decide))); have ec3 : (p0).toInt ≠ 1 := fun h => c3 (Int32.toInt_inj.mp (h.trans (by decide))); have ec4 : (p0).toInt ≠ 2 := fun h => c4 (Int32.toInt_inj.mp (h.trans (by decide))); omega) (by decide) ?_
    refine lv_iconst (v := 0) hx hb dX0_modulusAt_51 (by decide) ?_
    obtain rfl := Option.some.inj hf
    exact W.iret (v := 0) hx hb hr (fun t ht hW => ⟨rfl, by rw [ht]; exact hP, hS.F ht⟩) hS.2.2 dX0_modulusAt_52
  · rw [if_pos c1] at hf
    refine lv_iconst (v := 1) hx hb dX0_modulusAt_8 (by decide) ?_
    obtain rfl := Option.some.inj hf
    exact W.iret (v := 1) hx hb hr (fun t ht hW => ⟨rfl, by rw [ht]; exact hP, hS.F ht⟩) hS.2.2 dX0_modulusAt_9
def f_X0_plus (p0 : Int32) (p1 : Int32) : Option (Int32) :=
  nm (jrem ((jrem p0 101) + (jrem p1 101)) 101) (fun v1 =>
  nm (jrem ((jrem (p0 / 101) 101) + (jrem (p1 / 101) 101)) 101) (fun v2 =>
  nm (jrem ((p0 / 10201) + (p1 / 10201)) 101) (fun v3 =>
  some ((v1 + (101 * v2)) + (10201 * v3)))))
set_option maxHeartbeats 4000000 in
set_option maxRecDepth 100000 in
theorem C_X0_plus (l : Launch) (D : va_G) (tys : List (ClassId × FieldType)) (nw : List Cond) (hn : nw.all nw_kind = true) (hnw : ∀ w ∈ nw0, w ∈ nw) {ad : Nat → Nat} (hj : ww_inj 46 ad) {cI : ClassId} {cR : ClassId} (htI : tys[0]? = some (cI, .int)) (htR : tys[1]? = some (cR, .object RX2)) {M : Fin 20 → Nat → Int32} {E : Nat → Int32} {P : Nat → Fin 20} {C : Nat → Int32} {N : Nat → Int32} {p0 : Int32} {p1 : Int32} {res : Int32} (hf : f_X0_plus p0 p1 = some res) :
    Met l yX0_plus usX0_plus ({ frames := 0, cells := 0, slots := 0, locals := 0 }) (va_Pc [.ref (ad 40), .int p0, .int p1] (ws_B D tys nw (ww 46 ad (cellC cI cR ad M E P C N)))) (ct_Q D (ww 46 ad (cellC cI cR ad M E P C N)) (ww_A 46 ad) (some (.int res))) 0 0 (ww_A 46 ad) := by
  refine Met.ofW (cc := cX0_plus) (maxL := 6) (ret := (some .int)) (by decide) rfl ?_
  intro p e s m args below meth c s₁ B hml hv
  obtain ⟨rfl, hP, hK, hN⟩ := hv
  have hx := B.exec
  have hb := B.bytes
  have hr := B.returns
  have hts := atoms_spec (ws := usX0_plus) B.pre
  have hown : s.vm.findClass RX0 = some m.cls := findClass_of_methodNamed B.named
  have hlocks := B.notSynchronized
  have hS : va_S (ww_A 46 ad) s.heap s.heap [] := va_S.rf
  have hl := lv_entry ([.ref (ad 40), .int p0, .int p1]) (n := 6) (Nat.le_of_ble_eq_true rfl)
  rw [lg_entry_eq]
  generalize (lg_sl ([.ref (ad 40), .int p0, .int p1]) ++ List.replicate (6 - (lg_sl ([.ref (ad 40), .int p0, .int p1])).length) Slot.unset).toArray = ls at hl ⊢
  have hl : lv_has ls 6 [(0, .ref (ad 40)), (1, .int p0), (2, .int p1)] := hl
  unfold f_X0_plus at hf
  refine lv_iload_n hx hb dX0_plus_0 rfl (lv_at hl 1 rfl) ?_
  refine lv_bipush (v := 101) hx hb dX0_plus_1 (by decide) ?_
  refine jv_irem hx hb dX0_plus_3 (by decide) ?_
  refine lv_iload_n hx hb dX0_plus_4 rfl (lv_at hl 2 rfl) ?_
  refine lv_bipush (v := 101) hx hb dX0_plus_5 (by decide) ?_
  refine jv_irem hx hb dX0_plus_7 (by decide) ?_
  refine lv_iadd hx hb dX0_plus_8 ?_
  refine lv_bipush (v := 101) hx hb dX0_plus_9 (by decide) ?_
  refine jv_irem hx hb dX0_plus_11 (by decide) ?_
  obtain ⟨v1, ev1, hf⟩ := nm_elim hf
  try dsimp only at hf
  refine tp_I ev1 ?_
  refine lv_istore_n (lv' := [(3, .int v1), (0, .ref (ad 40)), (1, .int p0), (2, .int p1)]) hx hb dX0_plus_12 rfl hl (by decide) rfl (fun ls hl => ?_)
  refine lv_iload_n hx hb dX0_plus_13 rfl (lv_at hl 2 rfl) ?_
  refine lv_bipush (v := 101) hx hb dX0_plus_14 (by decide) ?_
  refine lv_idiv hx hb dX0_plus_16 (by decide) ?_
  refine lv_bipush (v := 101) hx hb dX0_plus_17 (by decide) ?_
  refine jv_irem hx hb dX0_plus_19 (by decide) ?_
  refine lv_iload_n hx hb dX0_plus_20 rfl (lv_at hl 3 rfl) ?_
  refine lv_bipush (v := 101) hx hb dX0_plus_21 (by decide) ?_
  refine lv_idiv hx hb dX0_plus_23 (by decide) ?_
  refine lv_bipush (v := 101) hx hb dX0_plus_24 (by decide) ?_
  refine jv_irem hx hb dX0_plus_26 (by decide) ?_
  refine lv_iadd hx hb dX0_plus_27 ?_
  refine lv_bipush (v := 101) hx hb dX0_plus_28 (by decide) ?_
  refine jv_irem hx hb dX0_plus_30 (by decide) ?_
  obtain ⟨v2, ev2, hf⟩ := nm_elim hf
  try dsimp only at hf
  refine tp_I ev2 ?_
  refine lv_istore (lv' := [(4, .int v2), (3, .int v1), (0, .ref (ad 40)), (1, .int p0), (2, .int p1)]) hx hb dX0_plus_31 hl (by decide) rfl (fun ls hl => ?_)
  refine lv_iload_n hx hb dX0_plus_33 rfl (lv_at hl 3 rfl) ?_
  refine lv_sipush (v := 10201) hx hb dX0_plus_34 (by decide) ?_
  refine lv_idiv hx hb dX0_plus_37 (by decide) ?_
  refine lv_iload_n hx hb dX0_plus_38 rfl (lv_at hl 4 rfl) ?_
  refine lv_sipush (v := 10201) hx hb dX0_plus_39 (by decide) ?_
  refine lv_idiv hx hb dX0_plus_42 (by decide) ?_
  refine lv_iadd hx hb dX0_plus_43 ?_
  refine lv_bipush (v := 101) hx hb dX0_plus_44 (by decide) ?_
  refine jv_irem hx hb dX0_plus_46 (by decide) ?_
  obtain ⟨v3, ev3, hf⟩ := nm_elim hf
  try dsimp only at hf
  refine tp_I ev3 ?_
  refine lv_istore (lv' := [(5, .int v3), (4, .int v2), (3, .int v1), (0, .ref (ad 40)), (1, .int p0), (2, .int p1)]) hx hb dX0_plus_47 hl (by decide) rfl (fun ls hl => ?_)
  refine lv_iload_n hx hb dX0_plus_49 rfl (lv_at hl 2 rfl) ?_
  refine lv_bipush (v := 101) hx hb dX0_plus_50 (by decide) ?_
  refine lv_iload hx hb dX0_plus_52 (lv_at hl 1 rfl) ?_
  refine lv_imul hx hb dX0_plus_54 ?_
  refine lv_iadd hx hb dX0_plus_55 ?_
  refine lv_sipush (v := 10201) hx hb dX0_plus_56 (by decide) ?_
  refine lv_iload hx hb dX0_plus_59 (lv_at hl 0 rfl) ?_
  refine lv_imul hx hb dX0_plus_61 ?_
  refine lv_iadd hx hb dX0_plus_62 ?_
  obtain rfl := Option.some.inj hf
  exact W.iret (v := (v1 + (101 * v2)) + (10201 * v3)) hx hb hr (fun t ht hW => ⟨rfl, by rw [ht]; exact hP, hS.F ht⟩) hS.2.2 dX0_plus_63
def f_X0_minus (p0 : Int32) (p1 : Int32) : Option (Int32) :=
  nm (jrem (((jrem p0 101) - (jrem p1 101)) + 101) 101) (fun v1 =>
  nm (jrem (((jrem (p0 / 101) 101) - (jrem (p1 / 101) 101)) + 101) 101) (fun v2 =>
  nm (jrem (((p0 / 10201) - (p1 / 10201)) + 101) 101) (fun v3 =>
  some ((v1 + (101 * v2)) + (10201 * v3)))))
set_option maxHeartbeats 4000000 in
set_option maxRecDepth 100000 in
theorem C_X0_minus (l : Launch) (D : va_G) (tys : List (ClassId × FieldType)) (nw : List Cond) (hn : nw.all nw_kind = true) (hnw : ∀ w ∈ nw0, w ∈ nw) {ad : Nat → Nat} (hj : ww_inj 46 ad) {cI : ClassId} {cR : ClassId} (htI : tys[0]? = some (cI, .int)) (htR : tys[1]? = some (cR, .object RX2)) {M : Fin 20 → Nat → Int32} {E : Nat → Int32} {P : Nat → Fin 20} {C : Nat → Int32} {N : Nat → Int32} {p0 : Int32} {p1 : Int32} {res : Int32} (hf : f_X0_minus p0 p1 = some res) :
    Met l yX0_minus usX0_minus ({ frames := 0, cells := 0, slots := 0, locals := 0 }) (va_Pc [.ref (ad 40), .int p0, .int p1] (ws_B D tys nw (ww 46 ad (cellC cI cR ad M E P C N)))) (ct_Q D (ww 46 ad (cellC cI cR ad M E P C N)) (ww_A 46 ad) (some (.int res))) 0 0 (ww_A 46 ad) := by
  refine Met.ofW (cc := cX0_minus) (maxL := 6) (ret := (some .int)) (by decide) rfl ?_
  intro p e s m args below meth c s₁ B hml hv
  obtain ⟨rfl, hP, hK, hN⟩ := hv
  have hx := B.exec
  have hb := B.bytes
  have hr := B.returns
  have hts := atoms_spec (ws := usX0_minus) B.pre
  have hown : s.vm.findClass RX0 = some m.cls := findClass_of_methodNamed B.named
  have hlocks := B.notSynchronized
  have hS : va_S (ww_A 46 ad) s.heap s.heap [] := va_S.rf
  have hl := lv_entry ([.ref (ad 40), .int p0, .int p1]) (n := 6) (Nat.le_of_ble_eq_true rfl)
  rw [lg_entry_eq]
  generalize (lg_sl ([.ref (ad 40), .int p0, .int p1]) ++ List.replicate (6 - (lg_sl ([.ref (ad 40), .int p0, .int p1])).length) Slot.unset).toArray = ls at hl ⊢
  have hl : lv_has ls 6 [(0, .ref (ad 40)), (1, .int p0), (2, .int p1)] := hl
  unfold f_X0_minus at hf
  refine lv_iload_n hx hb dX0_minus_0 rfl (lv_at hl 1 rfl) ?_
  refine lv_bipush (v := 101) hx hb dX0_minus_1 (by decide) ?_
  refine jv_irem hx hb dX0_minus_3 (by decide) ?_
  refine lv_iload_n hx hb dX0_minus_4 rfl (lv_at hl 2 rfl) ?_
  refine lv_bipush (v := 101) hx hb dX0_minus_5 (by decide) ?_
  refine jv_irem hx hb dX0_minus_7 (by decide) ?_
  refine lv_isub hx hb dX0_minus_8 ?_
  refine lv_bipush (v := 101) hx hb dX0_minus_9 (by decide) ?_
  refine lv_iadd hx hb dX0_minus_11 ?_
  refine lv_bipush (v := 101) hx hb dX0_minus_12 (by decide) ?_
  refine jv_irem hx hb dX0_minus_14 (by decide) ?_
  obtain ⟨v1, ev1, hf⟩ := nm_elim hf
  try dsimp only at hf
  refine tp_I ev1 ?_
  refine lv_istore_n (lv' := [(3, .int v1), (0, .ref (ad 40)), (1, .int p0), (2, .int p1)]) hx hb dX0_minus_15 rfl hl (by decide) rfl (fun ls hl => ?_)
  refine lv_iload_n hx hb dX0_minus_16 rfl (lv_at hl 2 rfl) ?_
  refine lv_bipush (v := 101) hx hb dX0_minus_17 (by decide) ?_
  refine lv_idiv hx hb dX0_minus_19 (by decide) ?_
  refine lv_bipush (v := 101) hx hb dX0_minus_20 (by decide) ?_
  refine jv_irem hx hb dX0_minus_22 (by decide) ?_
  refine lv_iload_n hx hb dX0_minus_23 rfl (lv_at hl 3 rfl) ?_
  refine lv_bipush (v := 101) hx hb dX0_minus_24 (by decide) ?_
  refine lv_idiv hx hb dX0_minus_26 (by decide) ?_
  refine lv_bipush (v := 101) hx hb dX0_minus_27 (by decide) ?_
  refine jv_irem hx hb dX0_minus_29 (by decide) ?_
  refine lv_isub hx hb dX0_minus_30 ?_
  refine lv_bipush (v := 101) hx hb dX0_minus_31 (by decide) ?_
  refine lv_iadd hx hb dX0_minus_33 ?_
  refine lv_bipush (v := 101) hx hb dX0_minus_34 (by decide) ?_
  refine jv_irem hx hb dX0_minus_36 (by decide) ?_
  obtain ⟨v2, ev2, hf⟩ := nm_elim hf
  try dsimp only at hf
  refine tp_I ev2 ?_
  refine lv_istore (lv' := [(4, .int v2), (3, .int v1), (0, .ref (ad 40)), (1, .int p0), (2, .int p1)]) hx hb dX0_minus_37 hl (by decide) rfl (fun ls hl => ?_)
  refine lv_iload_n hx hb dX0_minus_39 rfl (lv_at hl 3 rfl) ?_
  refine lv_sipush (v := 10201) hx hb dX0_minus_40 (by decide) ?_
  refine lv_idiv hx hb dX0_minus_43 (by decide) ?_
  refine lv_iload_n hx hb dX0_minus_44 rfl (lv_at hl 4 rfl) ?_
  refine lv_sipush (v := 10201) hx hb dX0_minus_45 (by decide) ?_
  refine lv_idiv hx hb dX0_minus_48 (by decide) ?_
  refine lv_isub hx hb dX0_minus_49 ?_
  refine lv_bipush (v := 101) hx hb dX0_minus_50 (by decide) ?_
  refine lv_iadd hx hb dX0_minus_52 ?_
  refine lv_bipush (v := 101) hx hb dX0_minus_53 (by decide) ?_
  refine jv_irem hx hb dX0_minus_55 (by decide) ?_
  obtain ⟨v3, ev3, hf⟩ := nm_elim hf
  try dsimp only at hf
  refine tp_I ev3 ?_
  refine lv_istore (lv' := [(5, .int v3), (4, .int v2), (3, .int v1), (0, .ref (ad 40)), (1, .int p0), (2, .int p1)]) hx hb dX0_minus_56 hl (by decide) rfl (fun ls hl => ?_)
  refine lv_iload_n hx hb dX0_minus_58 rfl (lv_at hl 2 rfl) ?_
  refine lv_bipush (v := 101) hx hb dX0_minus_59 (by decide) ?_
  refine lv_iload hx hb dX0_minus_61 (lv_at hl 1 rfl) ?_
  refine lv_imul hx hb dX0_minus_63 ?_
  refine lv_iadd hx hb dX0_minus_64 ?_
  refine lv_sipush (v := 10201) hx hb dX0_minus_65 (by decide) ?_
  refine lv_iload hx hb dX0_minus_68 (lv_at hl 0 rfl) ?_
  refine lv_imul hx hb dX0_minus_70 ?_
  refine lv_iadd hx hb dX0_minus_71 ?_
  obtain rfl := Option.some.inj hf
  exact W.iret (v := (v1 + (101 * v2)) + (10201 * v3)) hx hb hr (fun t ht hW => ⟨rfl, by rw [ht]; exact hP, hS.F ht⟩) hS.2.2 dX0_minus_72
def f_X0_times (E : Nat → Int32) (p0 : Int32) (p1 : Int32) : Option (Int32) :=
  if 101 ≤ p0 then
    nm (jrem p0 101) (fun v2 =>
    nm (jrem (p0 / 101) 101) (fun v3 =>
    nm (p0 / 10201) (fun v4 =>
    nm (jrem p1 101) (fun v5 =>
    nm (jrem (p1 / 101) 101) (fun v6 =>
    nm (p1 / 10201) (fun v7 =>
    nm (v2 * v5) (fun v8 =>
    nm ((v2 * v6) + (v3 * v5)) (fun v9 =>
    nm (((v2 * v7) + (v3 * v6)) + (v4 * v5)) (fun v10 =>
    if (E 0) = 2 then
      nm (jrem (101 - (jrem v10 101)) 101) (fun v18 =>
      nm (v9 + (v18 * (E 3))) (fun v19 =>
      nm (v8 + (v18 * (E 2))) (fun v20 =>
      some ((jrem v20 101) + (101 * (jrem v19 101))))))
    else
      nm (jrem (101 - (jrem (v4 * v7) 101)) 101) (fun v12 =>
      nm (((v3 * v7) + (v4 * v6)) + (v12 * (E 4))) (fun v13 =>
      nm (jrem (101 - (jrem v13 101)) 101) (fun v14 =>
      nm (v10 + ((v12 * (E 3)) + (v14 * (E 4)))) (fun v15 =>
      nm (v9 + ((v12 * (E 2)) + (v14 * (E 3)))) (fun v16 =>
      nm (v8 + (v14 * (E 2))) (fun v17 =>
      some (((jrem v17 101) + (101 * (jrem v16 101))) + (10201 * (jrem v15 101))))))))))))))))))
  else
    if 101 ≤ p1 then
      nm (jrem p0 101) (fun v22 =>
      nm (jrem (p0 / 101) 101) (fun v23 =>
      nm (p0 / 10201) (fun v24 =>
      nm (jrem p1 101) (fun v25 =>
      nm (jrem (p1 / 101) 101) (fun v26 =>
      nm (p1 / 10201) (fun v27 =>
      nm (v22 * v25) (fun v28 =>
      nm ((v22 * v26) + (v23 * v25)) (fun v29 =>
      nm (((v22 * v27) + (v23 * v26)) + (v24 * v25)) (fun v30 =>
      if (E 0) = 2 then
        nm (jrem (101 - (jrem v30 101)) 101) (fun v38 =>
        nm (v29 + (v38 * (E 3))) (fun v39 =>
        nm (v28 + (v38 * (E 2))) (fun v40 =>
        some ((jrem v40 101) + (101 * (jrem v39 101))))))
      else
        nm (jrem (101 - (jrem (v24 * v27) 101)) 101) (fun v32 =>
        nm (((v23 * v27) + (v24 * v26)) + (v32 * (E 4))) (fun v33 =>
        nm (jrem (101 - (jrem v33 101)) 101) (fun v34 =>
        nm (v30 + ((v32 * (E 3)) + (v34 * (E 4)))) (fun v35 =>
        nm (v29 + ((v32 * (E 2)) + (v34 * (E 3)))) (fun v36 =>
        nm (v28 + (v34 * (E 2))) (fun v37 =>
        some (((jrem v37 101) + (101 * (jrem v36 101))) + (10201 * (jrem v35 101))))))))))))))))))
    else
      some (jrem (p0 * p1) 101)
set_option maxHeartbeats 4000000 in
set_option maxRecDepth 100000 in
theorem C_X0_times (l : Launch) (D : va_G) (tys : List (ClassId × FieldType)) (nw : List Cond) (hn : nw.all nw_kind = true) (hnw : ∀ w ∈ nw0, w ∈ nw) {ad : Nat → Nat} (hj : ww_inj 46 ad) {cI : ClassId} {cR : ClassId} (htI : tys[0]? = some (cI, .int)) (htR : tys[1]? = some (cR, .object RX2)) {M : Fin 20 → Nat → Int32} {E : Nat → Int32} {P : Nat → Fin 20} {C : Nat → Int32} {N : Nat → Int32} {p0 : Int32} {p1 : Int32} {res : Int32} (hf : f_X0_times E p0 p1 = some res) :
    Met l yX0_times usX0_times ({ frames := 0, cells := 0, slots := 0, locals := 0 }) (va_Pc [.ref (ad 40), .int p0, .int p1] (ws_B D tys nw (ww 46 ad (cellC cI cR ad M E P C N)))) (ct_Q D (ww 46 ad (cellC cI cR ad M E P C N)) (ww_A 46 ad) (some (.int res))) 0 0 (ww_A 46 ad) := by
  refine Met.ofW (cc := cX0_times) (maxL := 15) (ret := (some .int)) (by decide) rfl ?_
  intro p e s m args below meth c s₁ B hml hv
  obtain ⟨rfl, hP, hK, hN⟩ := hv
  have hx := B.exec
  have hb := B.bytes
  have hr := B.returns
  have hts := atoms_spec (ws := usX0_times) B.pre
  have hown : s.vm.findClass RX0 = some m.cls := findClass_of_methodNamed B.named
  have hlocks := B.notSynchronized
  have hS : va_S (ww_A 46 ad) s.heap s.heap [] := va_S.rf
  have hl := lv_entry ([.ref (ad 40), .int p0, .int p1]) (n := 15) (Nat.le_of_ble_eq_true rfl)
  rw [lg_entry_eq]
  generalize (lg_sl ([.ref (ad 40), .int p0, .int p1]) ++ List.replicate (15 - (lg_sl ([.ref (ad 40), .int p0, .int p1])).length) Slot.unset).toArray = ls at hl ⊢
  have hl : lv_has ls 15 [(0, .ref (ad 40)), (1, .int p0), (2, .int p1)] := hl
  unfold f_X0_times at hf
  refine lv_iload_n hx hb dX0_times_0 rfl (lv_at hl 1 rfl) ?_
  refine lv_bipush (v := 101) hx hb dX0_times_1 (by decide) ?_
  refine lv_icmp_ge (tgt := 19) hx hb dX0_times_3 (by decide) (fun c1 => ?_) (fun c1 => ?_)
  · rw [if_pos c1] at hf
    refine lv_iload_n hx hb dX0_times_19 rfl (lv_at hl 1 rfl) ?_
    refine lv_bipush (v := 101) hx hb dX0_times_20 (by decide) ?_
    refine jv_irem hx hb dX0_times_22 (by decide) ?_
    obtain ⟨v2, ev2, hf⟩ := nm_elim hf
    try dsimp only at hf
    refine tp_I ev2 ?_
    refine lv_istore_n (lv' := [(3, .int v2), (0, .ref (ad 40)), (1, .int p0), (2, .int p1)]) hx hb dX0_times_23 rfl hl (by decide) rfl (fun ls hl => ?_)
    refine lv_iload_n hx hb dX0_times_24 rfl (lv_at hl 2 rfl) ?_
    refine lv_bipush (v := 101) hx hb dX0_times_25 (by decide) ?_
    refine lv_idiv hx hb dX0_times_27 (by decide) ?_
    refine lv_bipush (v := 101) hx hb dX0_times_28 (by decide) ?_
    refine jv_irem hx hb dX0_times_30 (by decide) ?_
    obtain ⟨v3, ev3, hf⟩ := nm_elim hf
    try dsimp only at hf
    refine tp_I ev3 ?_
    refine lv_istore (lv' := [(4, .int v3), (3, .int v2), (0, .ref (ad 40)), (1, .int p0), (2, .int p1)]) hx hb dX0_times_31 hl (by decide) rfl (fun ls hl => ?_)
    refine lv_iload_n hx hb dX0_times_33 rfl (lv_at hl 3 rfl) ?_
    refine lv_sipush (v := 10201) hx hb dX0_times_34 (by decide) ?_
    refine lv_idiv hx hb dX0_times_37 (by decide) ?_
    obtain ⟨v4, ev4, hf⟩ := nm_elim hf
    try dsimp only at hf
    refine tp_I ev4 ?_
    refine lv_istore (lv' := [(5, .int v4), (4, .int v3), (3, .int v2), (0, .ref (ad 40)), (1, .int p0), (2, .int p1)]) hx hb dX0_times_38 hl (by decide) rfl (fun ls hl => ?_)
    refine lv_iload_n hx hb dX0_times_40 rfl (lv_at hl 5 rfl) ?_
    refine lv_bipush (v := 101) hx hb dX0_times_41 (by decide) ?_
    refine jv_irem hx hb dX0_times_43 (by decide) ?_
    obtain ⟨v5, ev5, hf⟩ := nm_elim hf
    try dsimp only at hf
    refine tp_I ev5 ?_
    refine lv_istore (lv' := [(6, .int v5), (5, .int v4), (4, .int v3), (3, .int v2), (0, .ref (ad 40)), (1, .int p0), (2, .int p1)]) hx hb dX0_times_44 hl (by decide) rfl (fun ls hl => ?_)
    refine lv_iload_n hx hb dX0_times_46 rfl (lv_at hl 6 rfl) ?_
    refine lv_bipush (v := 101) hx hb dX0_times_47 (by decide) ?_
    refine lv_idiv hx hb dX0_times_49 (by decide) ?_
    refine lv_bipush (v := 101) hx hb dX0_times_50 (by decide) ?_
    refine jv_irem hx hb dX0_times_52 (by decide) ?_
    obtain ⟨v6, ev6, hf⟩ := nm_elim hf
    try dsimp only at hf
    refine tp_I ev6 ?_
    refine lv_istore (lv' := [(7, .int v6), (6, .int v5), (5, .int v4), (4, .int v3), (3, .int v2), (0, .ref (ad 40)), (1, .int p0), (2, .int p1)]) hx hb dX0_times_53 hl (by decide) rfl (fun ls hl => ?_)
    refine lv_iload_n hx hb dX0_times_55 rfl (lv_at hl 7 rfl) ?_
    refine lv_sipush (v := 10201) hx hb dX0_times_56 (by decide) ?_
    refine lv_idiv hx hb dX0_times_59 (by decide) ?_
    obtain ⟨v7, ev7, hf⟩ := nm_elim hf
    try dsimp only at hf
    refine tp_I ev7 ?_
    refine lv_istore (lv' := [(8, .int v7), (7, .int v6), (6, .int v5), (5, .int v4), (4, .int v3), (3, .int v2), (0, .ref (ad 40)), (1, .int p0), (2, .int p1)]) hx hb dX0_times_60 hl (by decide) rfl (fun ls hl => ?_)
    refine lv_iload_n hx hb dX0_times_62 rfl (lv_at hl 5 rfl) ?_
    refine lv_iload hx hb dX0_times_63 (lv_at hl 2 rfl) ?_
    refine lv_imul hx hb dX0_times_65 ?_
    obtain ⟨v8, ev8, hf⟩ := nm_elim hf
    try dsimp only at hf
    refine tp_I ev8 ?_
    refine lv_istore (lv' := [(9, .int v8), (8, .int v7), (7, .int v6), (6, .int v5), (5, .int v4), (4, .int v3), (3, .int v2), (0, .ref (ad 40)), (1, .int p0), (2, .int p1)]) hx hb dX0_times_66 hl (by decide) rfl (fun ls hl => ?_)
    refine lv_iload_n hx hb dX0_times_68 rfl (lv_at hl 6 rfl) ?_
    refine lv_iload hx hb dX0_times_69 (lv_at hl 2 rfl) ?_
    refine lv_imul hx hb dX0_times_71 ?_
    refine lv_iload hx hb dX0_times_72 (lv_at hl 5 rfl) ?_
    refine lv_iload hx hb dX0_times_74 (lv_at hl 3 rfl) ?_
    refine lv_imul hx hb dX0_times_76 ?_
    refine lv_iadd hx hb dX0_times_77 ?_
    obtain ⟨v9, ev9, hf⟩ := nm_elim hf
    try dsimp only at hf
    refine tp_I ev9 ?_
    refine lv_istore (lv' := [(10, .int v9), (9, .int v8), (8, .int v7), (7, .int v6), (6, .int v5), (5, .int v4), (4, .int v3), (3, .int v2), (0, .ref (ad 40)), (1, .int p0), (2, .int p1)]) hx hb dX0_times_78 hl (by decide) rfl (fun ls hl => ?_)
    refine lv_iload_n hx hb dX0_times_80 rfl (lv_at hl 7 rfl) ?_
    refine lv_iload hx hb dX0_times_81 (lv_at hl 2 rfl) ?_
    refine lv_imul hx hb dX0_times_83 ?_
    refine lv_iload hx hb dX0_times_84 (lv_at hl 6 rfl) ?_
    refine lv_iload hx hb dX0_times_86 (lv_at hl 3 rfl) ?_
    refine lv_imul hx hb dX0_times_88 ?_
    refine lv_iadd hx hb dX0_times_89 ?_
    refine lv_iload hx hb dX0_times_90 (lv_at hl 5 rfl) ?_
    refine lv_iload hx hb dX0_times_92 (lv_at hl 4 rfl) ?_
    refine lv_imul hx hb dX0_times_94 ?_
    refine lv_iadd hx hb dX0_times_95 ?_
    obtain ⟨v10, ev10, hf⟩ := nm_elim hf
    try dsimp only at hf
    refine tp_I ev10 ?_
    refine lv_istore (lv' := [(11, .int v10), (10, .int v9), (9, .int v8), (8, .int v7), (7, .int v6), (6, .int v5), (5, .int v4), (4, .int v3), (3, .int v2), (0, .ref (ad 40)), (1, .int p0), (2, .int p1)]) hx hb dX0_times_96 hl (by decide) rfl (fun ls hl => ?_)
    refine lv_aload_n hx hb dX0_times_98 rfl (lv_at hl 9 rfl) ?_
    refine va_get (ci := 0) (v := .int (E 0)) (C := RX0) (T := TX0) (N := 8) hx hb hts (fun w h => BW_in (in_wsX00 w h)) hown hK hP 40 cc_ext rfl 0 (by decide) (hts (.fieldLink RX0 9 "NumberFieldFactors$Extension" "degree" "I") (BW_in mw_4)) (fun _ h9 => h9) rfl dX0_times_99 ?_
    refine lv_iconst (v := 2) hx hb dX0_times_102 (by decide) ?_
    refine lv_icmp_ne (tgt := 158) hx hb dX0_times_103 (by decide) (fun c11 => ?_) (fun c11 => ?_)
    · rw [if_neg c11] at hf
      refine lv_bipush (v := 101) hx hb dX0_times_158 (by decide) ?_
      refine lv_iload hx hb dX0_times_160 (lv_at hl 6 rfl) ?_
      refine lv_iload hx hb dX0_times_162 (lv_at hl 3 rfl) ?_
      refine lv_imul hx hb dX0_times_164 ?_
      refine lv_bipush (v := 101) hx hb dX0_times_165 (by decide) ?_
      refine jv_irem hx hb dX0_times_167 (by decide) ?_
      refine lv_isub hx hb dX0_times_168 ?_
      refine lv_bipush (v := 101) hx hb dX0_times_169 (by decide) ?_
      refine jv_irem hx hb dX0_times_171 (by decide) ?_
      obtain ⟨v12, ev12, hf⟩ := nm_elim hf
      try dsimp only at hf
      refine tp_I ev12 ?_
      refine lv_istore (lv' := [(12, .int v12), (11, .int v10), (10, .int v9), (9, .int v8), (8, .int v7), (7, .int v6), (6, .int v5), (5, .int v4), (4, .int v3), (3, .int v2), (0, .ref (ad 40)), (1, .int p0), (2, .int p1)]) hx hb dX0_times_172 hl (by decide) rfl (fun ls hl => ?_)
      refine lv_iload hx hb dX0_times_174 (lv_at hl 8 rfl) ?_
      refine lv_iload hx hb dX0_times_176 (lv_at hl 4 rfl) ?_
      refine lv_imul hx hb dX0_times_178 ?_
      refine lv_iload hx hb dX0_times_179 (lv_at hl 7 rfl) ?_
      refine lv_iload hx hb dX0_times_181 (lv_at hl 5 rfl) ?_
      refine lv_imul hx hb dX0_times_183 ?_
      refine lv_iadd hx hb dX0_times_184 ?_
      refine lv_iload hx hb dX0_times_185 (lv_at hl 0 rfl) ?_
      refine lv_aload_n hx hb dX0_times_187 rfl (lv_at hl 10 rfl) ?_
      refine va_get (ci := 0) (v := .int (E 4)) (C := RX0) (T := TX0) (N := 8) hx hb hts (fun w h => BW_in (in_wsX00 w h)) hown hK hP 40 cc_ext rfl 4 (by decide) (hts (.fieldLink RX0 24 "NumberFieldFactors$Extension" "low2" "I") (BW_in mw_8)) (fun _ h9 => h9) rfl dX0_times_188 ?_
      refine lv_imul hx hb dX0_times_191 ?_
      refine lv_iadd hx hb dX0_times_192 ?_
      obtain ⟨v13, ev13, hf⟩ := nm_elim hf
      try dsimp only at hf
      refine tp_I ev13 ?_
      refine lv_istore (lv' := [(13, .int v13), (12, .int v12), (11, .int v10), (10, .int v9), (9, .int v8), (8, .int v7), (7, .int v6), (6, .int v5), (5, .int v4), (4, .int v3), (3, .int v2), (0, .ref (ad 40)), (1, .int p0), (2, .int p1)]) hx hb dX0_times_193 hl (by decide) rfl (fun ls hl => ?_)
      refine lv_bipush (v := 101) hx hb dX0_times_195 (by decide) ?_
      refine lv_iload hx hb dX0_times_197 (lv_at hl 0 rfl) ?_
      refine lv_bipush (v := 101) hx hb dX0_times_199 (by decide) ?_
      refine jv_irem hx hb dX0_times_201 (by decide) ?_
      refine lv_isub hx hb dX0_times_202 ?_
      refine lv_bipush (v := 101) hx hb dX0_times_203 (by decide) ?_
      refine jv_irem hx hb dX0_times_205 (by decide) ?_
      obtain ⟨v14, ev14, hf⟩ := nm_elim hf
      try dsimp only at hf
      refine tp_I ev14 ?_
      refine lv_istore (lv' := [(14, .int v14), (13, .int v13), (12, .int v12), (11, .int v10), (10, .int v9), (9, .int v8), (8, .int v7), (7, .int v6), (6, .int v5), (5, .int v4), (4, .int v3), (3, .int v2), (0, .ref (ad 40)), (1, .int p0), (2, .int p1)]) hx hb dX0_times_206 hl (by decide) rfl (fun ls hl => ?_)
      refine lv_iload hx hb dX0_times_208 (lv_at hl 3 rfl) ?_
      refine lv_iload hx hb dX0_times_210 (lv_at hl 2 rfl) ?_
      refine lv_aload_n hx hb dX0_times_212 rfl (lv_at hl 12 rfl) ?_
      refine va_get (ci := 0) (v := .int (E 3)) (C := RX0) (T := TX0) (N := 8) hx hb hts (fun w h => BW_in (in_wsX00 w h)) hown hK hP 40 cc_ext rfl 3 (by decide) (hts (.fieldLink RX0 21 "NumberFieldFactors$Extension" "low1" "I") (BW_in mw_7)) (fun _ h9 => h9) rfl dX0_times_213 ?_
      refine lv_imul hx hb dX0_times_216 ?_
      refine lv_iload hx hb dX0_times_217 (lv_at hl 0 rfl) ?_
      refine lv_aload_n hx hb dX0_times_219 rfl (lv_at hl 12 rfl) ?_
      refine va_get (ci := 0) (v := .int (E 4)) (C := RX0) (T := TX0) (N := 8) hx hb hts (fun w h => BW_in (in_wsX00 w h)) hown hK hP 40 cc_ext rfl 4 (by decide) (hts (.fieldLink RX0 24 "NumberFieldFactors$Extension" "low2" "I") (BW_in mw_8)) (fun _ h9 => h9) rfl dX0_times_220 ?_
      refine lv_imul hx hb dX0_times_223 ?_
      refine lv_iadd hx hb dX0_times_224 ?_
      refine lv_iadd hx hb dX0_times_225 ?_
      obtain ⟨v15, ev15, hf⟩ := nm_elim hf
      try dsimp only at hf
      refine tp_I ev15 ?_
      refine lv_istore (lv' := [(11, .int v15), (14, .int v14), (13, .int v13), (12, .int v12), (10, .int v9), (9, .int v8), (8, .int v7), (7, .int v6), (6, .int v5), (5, .int v4), (4, .int v3), (3, .int v2), (0, .ref (ad 40)), (1, .int p0), (2, .int p1)]) hx hb dX0_times_226 hl (by decide) rfl (fun ls hl => ?_)
      refine lv_iload hx hb dX0_times_228 (lv_at hl 4 rfl) ?_
      refine lv_iload hx hb dX0_times_230 (lv_at hl 3 rfl) ?_
      refine lv_aload_n hx hb dX0_times_232 rfl (lv_at hl 12 rfl) ?_
      refine va_get (ci := 0) (v := .int (E 2)) (C := RX0) (T := TX0) (N := 8) hx hb hts (fun w h => BW_in (in_wsX00 w h)) hown hK hP 40 cc_ext rfl 2 (by decide) (hts (.fieldLink RX0 18 "NumberFieldFactors$Extension" "low0" "I") (BW_in mw_6)) (fun _ h9 => h9) rfl dX0_times_233 ?_
      refine lv_imul hx hb dX0_times_236 ?_
      refine lv_iload hx hb dX0_times_237 (lv_at hl 1 rfl) ?_
      refine lv_aload_n hx hb dX0_times_239 rfl (lv_at hl 12 rfl) ?_
      refine va_get (ci := 0) (v := .int (E 3)) (C := RX0) (T := TX0) (N := 8) hx hb hts (fun w h => BW_in (in_wsX00 w h)) hown hK hP 40 cc_ext rfl 3 (by decide) (hts (.fieldLink RX0 21 "NumberFieldFactors$Extension" "low1" "I") (BW_in mw_7)) (fun _ h9 => h9) rfl dX0_times_240 ?_
      refine lv_imul hx hb dX0_times_243 ?_
      refine lv_iadd hx hb dX0_times_244 ?_
      refine lv_iadd hx hb dX0_times_245 ?_
      obtain ⟨v16, ev16, hf⟩ := nm_elim hf
      try dsimp only at hf
      refine tp_I ev16 ?_
      refine lv_istore (lv' := [(10, .int v16), (11, .int v15), (14, .int v14), (13, .int v13), (12, .int v12), (9, .int v8), (8, .int v7), (7, .int v6), (6, .int v5), (5, .int v4), (4, .int v3), (3, .int v2), (0, .ref (ad 40)), (1, .int p0), (2, .int p1)]) hx hb dX0_times_246 hl (by decide) rfl (fun ls hl => ?_)
      refine lv_iload hx hb dX0_times_248 (lv_at hl 5 rfl) ?_
      refine lv_iload hx hb dX0_times_250 (lv_at hl 2 rfl) ?_
      refine lv_aload_n hx hb dX0_times_252 rfl (lv_at hl 12 rfl) ?_
      refine va_get (ci := 0) (v := .int (E 2)) (C := RX0) (T := TX0) (N := 8) hx hb hts (fun w h => BW_in (in_wsX00 w h)) hown hK hP 40 cc_ext rfl 2 (by decide) (hts (.fieldLink RX0 18 "NumberFieldFactors$Extension" "low0" "I") (BW_in mw_6)) (fun _ h9 => h9) rfl dX0_times_253 ?_
      refine lv_imul hx hb dX0_times_256 ?_
      refine lv_iadd hx hb dX0_times_257 ?_
      obtain ⟨v17, ev17, hf⟩ := nm_elim hf
      try dsimp only at hf
      refine tp_I ev17 ?_
      refine lv_istore (lv' := [(9, .int v17), (10, .int v16), (11, .int v15), (14, .int v14), (13, .int v13), (12, .int v12), (8, .int v7), (7, .int v6), (6, .int v5), (5, .int v4), (4, .int v3), (3, .int v2), (0, .ref (ad 40)), (1, .int p0), (2, .int p1)]) hx hb dX0_times_258 hl (by decide) rfl (fun ls hl => ?_)
      refine lv_iload hx hb dX0_times_260 (lv_at hl 0 rfl) ?_
      refine lv_bipush (v := 101) hx hb dX0_times_262 (by decide) ?_
      refine jv_irem hx hb dX0_times_264 (by decide) ?_
      refine lv_bipush (v := 101) hx hb dX0_times_265 (by decide) ?_
      refine lv_iload hx hb dX0_times_267 (lv_at hl 1 rfl) ?_
      refine lv_bipush (v := 101) hx hb dX0_times_269 (by decide) ?_
      refine jv_irem hx hb dX0_times_271 (by decide) ?_
      refine lv_imul hx hb dX0_times_272 ?_
      refine lv_iadd hx hb dX0_times_273 ?_
      refine lv_sipush (v := 10201) hx hb dX0_times_274 (by decide) ?_
      refine lv_iload hx hb dX0_times_277 (lv_at hl 2 rfl) ?_
      refine lv_bipush (v := 101) hx hb dX0_times_279 (by decide) ?_
      refine jv_irem hx hb dX0_times_281 (by decide) ?_
      refine lv_imul hx hb dX0_times_282 ?_
      refine lv_iadd hx hb dX0_times_283 ?_
      obtain rfl := Option.some.inj hf
      exact W.iret (v := ((jrem v17 101) + (101 * (jrem v16 101))) + (10201 * (jrem v15 101))) hx hb hr (fun t ht hW => ⟨rfl, by rw [ht]; exact hP, hS.F ht⟩) hS.2.2 dX0_times_284
    · rw [if_pos c11] at hf
      refine lv_bipush (v := 101) hx hb dX0_times_106 (by decide) ?_
      refine lv_iload hx hb dX0_times_108 (lv_at hl 0 rfl) ?_
      refine lv_bipush (v := 101) hx hb dX0_times_110 (by decide) ?_
      refine jv_irem hx hb dX0_times_112 (by decide) ?_
      refine lv_isub hx hb dX0_times_113 ?_
      refine lv_bipush (v := 101) hx hb dX0_times_114 (by decide) ?_
      refine jv_irem hx hb dX0_times_116 (by decide) ?_
      obtain ⟨v18, ev18, hf⟩ := nm_elim hf
      try dsimp only at hf
      refine tp_I ev18 ?_
      refine lv_istore (lv' := [(12, .int v18), (11, .int v10), (10, .int v9), (9, .int v8), (8, .int v7), (7, .int v6), (6, .int v5), (5, .int v4), (4, .int v3), (3, .int v2), (0, .ref (ad 40)), (1, .int p0), (2, .int p1)]) hx hb dX0_times_117 hl (by decide) rfl (fun ls hl => ?_)
      refine lv_iload hx hb dX0_times_119 (lv_at hl 2 rfl) ?_
      refine lv_iload hx hb dX0_times_121 (lv_at hl 0 rfl) ?_
      refine lv_aload_n hx hb dX0_times_123 rfl (lv_at hl 10 rfl) ?_
      refine va_get (ci := 0) (v := .int (E 3)) (C := RX0) (T := TX0) (N := 8) hx hb hts (fun w h => BW_in (in_wsX00 w h)) hown hK hP 40 cc_ext rfl 3 (by decide) (hts (.fieldLink RX0 21 "NumberFieldFactors$Extension" "low1" "I") (BW_in mw_7)) (fun _ h9 => h9) rfl dX0_times_124 ?_
      refine lv_imul hx hb dX0_times_127 ?_
      refine lv_iadd hx hb dX0_times_128 ?_
      obtain ⟨v19, ev19, hf⟩ := nm_elim hf
      try dsimp only at hf
      refine tp_I ev19 ?_
      refine lv_istore (lv' := [(10, .int v19), (12, .int v18), (11, .int v10), (9, .int v8), (8, .int v7), (7, .int v6), (6, .int v5), (5, .int v4), (4, .int v3), (3, .int v2), (0, .ref (ad 40)), (1, .int p0), (2, .int p1)]) hx hb dX0_times_129 hl (by decide) rfl (fun ls hl => ?_)
      refine lv_iload hx hb dX0_times_131 (lv_at hl 3 rfl) ?_
      refine lv_iload hx hb dX0_times_133 (lv_at hl 1 rfl) ?_
      refine lv_aload_n hx hb dX0_times_135 rfl (lv_at hl 10 rfl) ?_
      refine va_get (ci := 0) (v := .int (E 2)) (C := RX0) (T := TX0) (N := 8) hx hb hts (fun w h => BW_in (in_wsX00 w h)) hown hK hP 40 cc_ext rfl 2 (by decide) (hts (.fieldLink RX0 18 "NumberFieldFactors$Extension" "low0" "I") (BW_in mw_6)) (fun _ h9 => h9) rfl dX0_times_136 ?_
      refine lv_imul hx hb dX0_times_139 ?_
      refine lv_iadd hx hb dX0_times_140 ?_
      obtain ⟨v20, ev20, hf⟩ := nm_elim hf
      try dsimp only at hf
      refine tp_I ev20 ?_
      refine lv_istore (lv' := [(9, .int v20), (10, .int v19), (12, .int v18), (11, .int v10), (8, .int v7), (7, .int v6), (6, .int v5), (5, .int v4), (4, .int v3), (3, .int v2), (0, .ref (ad 40)), (1, .int p0), (2, .int p1)]) hx hb dX0_times_141 hl (by decide) rfl (fun ls hl => ?_)
      refine lv_iload hx hb dX0_times_143 (lv_at hl 0 rfl) ?_
      refine lv_bipush (v := 101) hx hb dX0_times_145 (by decide) ?_
      refine jv_irem hx hb dX0_times_147 (by decide) ?_
      refine lv_bipush (v := 101) hx hb dX0_times_148 (by decide) ?_
      refine lv_iload hx hb dX0_times_150 (lv_at hl 1 rfl) ?_
      refine lv_bipush (v := 101) hx hb dX0_times_152 (by decide) ?_
      refine jv_irem hx hb dX0_times_154 (by decide) ?_
      refine lv_imul hx hb dX0_times_155 ?_
      refine lv_iadd hx hb dX0_times_156 ?_
      obtain rfl := Option.some.inj hf
      exact W.iret (v := (jrem v20 101) + (101 * (jrem v19 101))) hx hb hr (fun t ht hW => ⟨rfl, by rw [ht]; exact hP, hS.F ht⟩) hS.2.2 dX0_times_157
  · rw [if_neg c1] at hf
    refine lv_iload_n hx hb dX0_times_6 rfl (lv_at hl 2 rfl) ?_
    refine lv_bipush (v := 101) hx hb dX0_times_7 (by decide) ?_
    refine lv_icmp_ge (tgt := 19) hx hb dX0_times_9 (by decide) (fun c21 => ?_) (fun c21 => ?_)
    · rw [if_pos c21] at hf
      refine lv_iload_n hx hb dX0_times_19 rfl (lv_at hl 1 rfl) ?_
      refine lv_bipush (v := 101) hx hb dX0_times_20 (by decide) ?_
      refine jv_irem hx hb dX0_times_22 (by decide) ?_
      obtain ⟨v22, ev22, hf⟩ := nm_elim hf
      try dsimp only at hf
      refine tp_I ev22 ?_
      refine lv_istore_n (lv' := [(3, .int v22), (0, .ref (ad 40)), (1, .int p0), (2, .int p1)]) hx hb dX0_times_23 rfl hl (by decide) rfl (fun ls hl => ?_)
      refine lv_iload_n hx hb dX0_times_24 rfl (lv_at hl 2 rfl) ?_
      refine lv_bipush (v := 101) hx hb dX0_times_25 (by decide) ?_
      refine lv_idiv hx hb dX0_times_27 (by decide) ?_
      refine lv_bipush (v := 101) hx hb dX0_times_28 (by decide) ?_
      refine jv_irem hx hb dX0_times_30 (by decide) ?_
      obtain ⟨v23, ev23, hf⟩ := nm_elim hf
      try dsimp only at hf
      refine tp_I ev23 ?_
      refine lv_istore (lv' := [(4, .int v23), (3, .int v22), (0, .ref (ad 40)), (1, .int p0), (2, .int p1)]) hx hb dX0_times_31 hl (by decide) rfl (fun ls hl => ?_)
      refine lv_iload_n hx hb dX0_times_33 rfl (lv_at hl 3 rfl) ?_
      refine lv_sipush (v := 10201) hx hb dX0_times_34 (by decide) ?_
      refine lv_idiv hx hb dX0_times_37 (by decide) ?_
      obtain ⟨v24, ev24, hf⟩ := nm_elim hf
      try dsimp only at hf
      refine tp_I ev24 ?_
      refine lv_istore (lv' := [(5, .int v24), (4, .int v23), (3, .int v22), (0, .ref (ad 40)), (1, .int p0), (2, .int p1)]) hx hb dX0_times_38 hl (by decide) rfl (fun ls hl => ?_)
      refine lv_iload_n hx hb dX0_times_40 rfl (lv_at hl 5 rfl) ?_
      refine lv_bipush (v := 101) hx hb dX0_times_41 (by decide) ?_
      refine jv_irem hx hb dX0_times_43 (by decide) ?_
      obtain ⟨v25, ev25, hf⟩ := nm_elim hf
      try dsimp only at hf
      refine tp_I ev25 ?_
      refine lv_istore (lv' := [(6, .int v25), (5, .int v24), (4, .int v23), (3, .int v22), (0, .ref (ad 40)), (1, .int p0), (2, .int p1)]) hx hb dX0_times_44 hl (by decide) rfl (fun ls hl => ?_)
      refine lv_iload_n hx hb dX0_times_46 rfl (lv_at hl 6 rfl) ?_
      refine lv_bipush (v := 101) hx hb dX0_times_47 (by decide) ?_
      refine lv_idiv hx hb dX0_times_49 (by decide) ?_
      refine lv_bipush (v := 101) hx hb dX0_times_50 (by decide) ?_
      refine jv_irem hx hb dX0_times_52 (by decide) ?_
      obtain ⟨v26, ev26, hf⟩ := nm_elim hf
      try dsimp only at hf
      refine tp_I ev26 ?_
      refine lv_istore (lv' := [(7, .int v26), (6, .int v25), (5, .int v24), (4, .int v23), (3, .int v22), (0, .ref (ad 40)), (1, .int p0), (2, .int p1)]) hx hb dX0_times_53 hl (by decide) rfl (fun ls hl => ?_)
      refine lv_iload_n hx hb dX0_times_55 rfl (lv_at hl 7 rfl) ?_
      refine lv_sipush (v := 10201) hx hb dX0_times_56 (by decide) ?_
      refine lv_idiv hx hb dX0_times_59 (by decide) ?_
      obtain ⟨v27, ev27, hf⟩ := nm_elim hf
      try dsimp only at hf
      refine tp_I ev27 ?_
      refine lv_istore (lv' := [(8, .int v27), (7, .int v26), (6, .int v25), (5, .int v24), (4, .int v23), (3, .int v22), (0, .ref (ad 40)), (1, .int p0), (2, .int p1)]) hx hb dX0_times_60 hl (by decide) rfl (fun ls hl => ?_)
      refine lv_iload_n hx hb dX0_times_62 rfl (lv_at hl 5 rfl) ?_
      refine lv_iload hx hb dX0_times_63 (lv_at hl 2 rfl) ?_
      refine lv_imul hx hb dX0_times_65 ?_
      obtain ⟨v28, ev28, hf⟩ := nm_elim hf
      try dsimp only at hf
      refine tp_I ev28 ?_
      refine lv_istore (lv' := [(9, .int v28), (8, .int v27), (7, .int v26), (6, .int v25), (5, .int v24), (4, .int v23), (3, .int v22), (0, .ref (ad 40)), (1, .int p0), (2, .int p1)]) hx hb dX0_times_66 hl (by decide) rfl (fun ls hl => ?_)
      refine lv_iload_n hx hb dX0_times_68 rfl (lv_at hl 6 rfl) ?_
      refine lv_iload hx hb dX0_times_69 (lv_at hl 2 rfl) ?_
      refine lv_imul hx hb dX0_times_71 ?_
      refine lv_iload hx hb dX0_times_72 (lv_at hl 5 rfl) ?_
      refine lv_iload hx hb dX0_times_74 (lv_at hl 3 rfl) ?_
      refine lv_imul hx hb dX0_times_76 ?_
      refine lv_iadd hx hb dX0_times_77 ?_
      obtain ⟨v29, ev29, hf⟩ := nm_elim hf
      try dsimp only at hf
      refine tp_I ev29 ?_
      refine lv_istore (lv' := [(10, .int v29), (9, .int v28), (8, .int v27), (7, .int v26), (6, .int v25), (5, .int v24), (4, .int v23), (3, .int v22), (0, .ref (ad 40)), (1, .int p0), (2, .int p1)]) hx hb dX0_times_78 hl (by decide) rfl (fun ls hl => ?_)
      refine lv_iload_n hx hb dX0_times_80 rfl (lv_at hl 7 rfl) ?_
      refine lv_iload hx hb dX0_times_81 (lv_at hl 2 rfl) ?_
      refine lv_imul hx hb dX0_times_83 ?_
      refine lv_iload hx hb dX0_times_84 (lv_at hl 6 rfl) ?_
      refine lv_iload hx hb dX0_times_86 (lv_at hl 3 rfl) ?_
      refine lv_imul hx hb dX0_times_88 ?_
      refine lv_iadd hx hb dX0_times_89 ?_
      refine lv_iload hx hb dX0_times_90 (lv_at hl 5 rfl) ?_
      refine lv_iload hx hb dX0_times_92 (lv_at hl 4 rfl) ?_
      refine lv_imul hx hb dX0_times_94 ?_
      refine lv_iadd hx hb dX0_times_95 ?_
      obtain ⟨v30, ev30, hf⟩ := nm_elim hf
      try dsimp only at hf
      refine tp_I ev30 ?_
      refine lv_istore (lv' := [(11, .int v30), (10, .int v29), (9, .int v28), (8, .int v27), (7, .int v26), (6, .int v25), (5, .int v24), (4, .int v23), (3, .int v22), (0, .ref (ad 40)), (1, .int p0), (2, .int p1)]) hx hb dX0_times_96 hl (by decide) rfl (fun ls hl => ?_)
      refine lv_aload_n hx hb dX0_times_98 rfl (lv_at hl 9 rfl) ?_
      refine va_get (ci := 0) (v := .int (E 0)) (C := RX0) (T := TX0) (N := 8) hx hb hts (fun w h => BW_in (in_wsX00 w h)) hown hK hP 40 cc_ext rfl 0 (by decide) (hts (.fieldLink RX0 9 "NumberFieldFactors$Extension" "degree" "I") (BW_in mw_4)) (fun _ h9 => h9) rfl dX0_times_99 ?_
      refine lv_iconst (v := 2) hx hb dX0_times_102 (by decide) ?_
      refine lv_icmp_ne (tgt := 158) hx hb dX0_times_103 (by decide) (fun c31 => ?_) (fun c31 => ?_)
      · rw [if_neg c31] at hf
        refine lv_bipush (v := 101) hx hb dX0_times_158 (by decide) ?_
        refine lv_iload hx hb dX0_times_160 (lv_at hl 6 rfl) ?_
        refine lv_iload hx hb dX0_times_162 (lv_at hl 3 rfl) ?_
        refine lv_imul hx hb dX0_times_164 ?_
        refine lv_bipush (v := 101) hx hb dX0_times_165 (by decide) ?_
        refine jv_irem hx hb dX0_times_167 (by decide) ?_
        refine lv_isub hx hb dX0_times_168 ?_
        refine lv_bipush (v := 101) hx hb dX0_times_169 (by decide) ?_
        refine jv_irem hx hb dX0_times_171 (by decide) ?_
        obtain ⟨v32, ev32, hf⟩ := nm_elim hf
        try dsimp only at hf
        refine tp_I ev32 ?_
        refine lv_istore (lv' := [(12, .int v32), (11, .int v30), (10, .int v29), (9, .int v28), (8, .int v27), (7, .int v26), (6, .int v25), (5, .int v24), (4, .int v23), (3, .int v22), (0, .ref (ad 40)), (1, .int p0), (2, .int p1)]) hx hb dX0_times_172 hl (by decide) rfl (fun ls hl => ?_)
        refine lv_iload hx hb dX0_times_174 (lv_at hl 8 rfl) ?_
        refine lv_iload hx hb dX0_times_176 (lv_at hl 4 rfl) ?_
        refine lv_imul hx hb dX0_times_178 ?_
        refine lv_iload hx hb dX0_times_179 (lv_at hl 7 rfl) ?_
        refine lv_iload hx hb dX0_times_181 (lv_at hl 5 rfl) ?_
        refine lv_imul hx hb dX0_times_183 ?_
        refine lv_iadd hx hb dX0_times_184 ?_
        refine lv_iload hx hb dX0_times_185 (lv_at hl 0 rfl) ?_
        refine lv_aload_n hx hb dX0_times_187 rfl (lv_at hl 10 rfl) ?_
        refine va_get (ci := 0) (v := .int (E 4)) (C := RX0) (T := TX0) (N := 8) hx hb hts (fun w h => BW_in (in_wsX00 w h)) hown hK hP 40 cc_ext rfl 4 (by decide) (hts (.fieldLink RX0 24 "NumberFieldFactors$Extension" "low2" "I") (BW_in mw_8)) (fun _ h9 => h9) rfl dX0_times_188 ?_
        refine lv_imul hx hb dX0_times_191 ?_
        refine lv_iadd hx hb dX0_times_192 ?_
        obtain ⟨v33, ev33, hf⟩ := nm_elim hf
        try dsimp only at hf
        refine tp_I ev33 ?_
        refine lv_istore (lv' := [(13, .int v33), (12, .int v32), (11, .int v30), (10, .int v29), (9, .int v28), (8, .int v27), (7, .int v26), (6, .int v25), (5, .int v24), (4, .int v23), (3, .int v22), (0, .ref (ad 40)), (1, .int p0), (2, .int p1)]) hx hb dX0_times_193 hl (by decide) rfl (fun ls hl => ?_)
        refine lv_bipush (v := 101) hx hb dX0_times_195 (by decide) ?_
        refine lv_iload hx hb dX0_times_197 (lv_at hl 0 rfl) ?_
        refine lv_bipush (v := 101) hx hb dX0_times_199 (by decide) ?_
        refine jv_irem hx hb dX0_times_201 (by decide) ?_
        refine lv_isub hx hb dX0_times_202 ?_
        refine lv_bipush (v := 101) hx hb dX0_times_203 (by decide) ?_
        refine jv_irem hx hb dX0_times_205 (by decide) ?_
        obtain ⟨v34, ev34, hf⟩ := nm_elim hf
        try dsimp only at hf
        refine tp_I ev34 ?_
        refine lv_istore (lv' := [(14, .int v34), (13, .int v33), (12, .int v32), (11, .int v30), (10, .int v29), (9, .int v28), (8, .int v27), (7, .int v26), (6, .int v25), (5, .int v24), (4, .int v23), (3, .int v22), (0, .ref (ad 40)), (1, .int p0), (2, .int p1)]) hx hb dX0_times_206 hl (by decide) rfl (fun ls hl => ?_)
        refine lv_iload hx hb dX0_times_208 (lv_at hl 3 rfl) ?_
        refine lv_iload hx hb dX0_times_210 (lv_at hl 2 rfl) ?_
        refine lv_aload_n hx hb dX0_times_212 rfl (lv_at hl 12 rfl) ?_
        refine va_get (ci := 0) (v := .int (E 3)) (C := RX0) (T := TX0) (N := 8) hx hb hts (fun w h => BW_in (in_wsX00 w h)) hown hK hP 40 cc_ext rfl 3 (by decide) (hts (.fieldLink RX0 21 "NumberFieldFactors$Extension" "low1" "I") (BW_in mw_7)) (fun _ h9 => h9) rfl dX0_times_213 ?_
        refine lv_imul hx hb dX0_times_216 ?_
        refine lv_iload hx hb dX0_times_217 (lv_at hl 0 rfl) ?_
        refine lv_aload_n hx hb dX0_times_219 rfl (lv_at hl 12 rfl) ?_
        refine va_get (ci := 0) (v := .int (E 4)) (C := RX0) (T := TX0) (N := 8) hx hb hts (fun w h => BW_in (in_wsX00 w h)) hown hK hP 40 cc_ext rfl 4 (by decide) (hts (.fieldLink RX0 24 "NumberFieldFactors$Extension" "low2" "I") (BW_in mw_8)) (fun _ h9 => h9) rfl dX0_times_220 ?_
        refine lv_imul hx hb dX0_times_223 ?_
        refine lv_iadd hx hb dX0_times_224 ?_
        refine lv_iadd hx hb dX0_times_225 ?_
        obtain ⟨v35, ev35, hf⟩ := nm_elim hf
        try dsimp only at hf
        refine tp_I ev35 ?_
        refine lv_istore (lv' := [(11, .int v35), (14, .int v34), (13, .int v33), (12, .int v32), (10, .int v29), (9, .int v28), (8, .int v27), (7, .int v26), (6, .int v25), (5, .int v24), (4, .int v23), (3, .int v22), (0, .ref (ad 40)), (1, .int p0), (2, .int p1)]) hx hb dX0_times_226 hl (by decide) rfl (fun ls hl => ?_)
        refine lv_iload hx hb dX0_times_228 (lv_at hl 4 rfl) ?_
        refine lv_iload hx hb dX0_times_230 (lv_at hl 3 rfl) ?_
        refine lv_aload_n hx hb dX0_times_232 rfl (lv_at hl 12 rfl) ?_
        refine va_get (ci := 0) (v := .int (E 2)) (C := RX0) (T := TX0) (N := 8) hx hb hts (fun w h => BW_in (in_wsX00 w h)) hown hK hP 40 cc_ext rfl 2 (by decide) (hts (.fieldLink RX0 18 "NumberFieldFactors$Extension" "low0" "I") (BW_in mw_6)) (fun _ h9 => h9) rfl dX0_times_233 ?_
        refine lv_imul hx hb dX0_times_236 ?_
        refine lv_iload hx hb dX0_times_237 (lv_at hl 1 rfl) ?_
        refine lv_aload_n hx hb dX0_times_239 rfl (lv_at hl 12 rfl) ?_
        refine va_get (ci := 0) (v := .int (E 3)) (C := RX0) (T := TX0) (N := 8) hx hb hts (fun w h => BW_in (in_wsX00 w h)) hown hK hP 40 cc_ext rfl 3 (by decide) (hts (.fieldLink RX0 21 "NumberFieldFactors$Extension" "low1" "I") (BW_in mw_7)) (fun _ h9 => h9) rfl dX0_times_240 ?_
        refine lv_imul hx hb dX0_times_243 ?_
        refine lv_iadd hx hb dX0_times_244 ?_
        refine lv_iadd hx hb dX0_times_245 ?_
        obtain ⟨v36, ev36, hf⟩ := nm_elim hf
        try dsimp only at hf
        refine tp_I ev36 ?_
        refine lv_istore (lv' := [(10, .int v36), (11, .int v35), (14, .int v34), (13, .int v33), (12, .int v32), (9, .int v28), (8, .int v27), (7, .int v26), (6, .int v25), (5, .int v24), (4, .int v23), (3, .int v22), (0, .ref (ad 40)), (1, .int p0), (2, .int p1)]) hx hb dX0_times_246 hl (by decide) rfl (fun ls hl => ?_)
        refine lv_iload hx hb dX0_times_248 (lv_at hl 5 rfl) ?_
        refine lv_iload hx hb dX0_times_250 (lv_at hl 2 rfl) ?_
        refine lv_aload_n hx hb dX0_times_252 rfl (lv_at hl 12 rfl) ?_
        refine va_get (ci := 0) (v := .int (E 2)) (C := RX0) (T := TX0) (N := 8) hx hb hts (fun w h => BW_in (in_wsX00 w h)) hown hK hP 40 cc_ext rfl 2 (by decide) (hts (.fieldLink RX0 18 "NumberFieldFactors$Extension" "low0" "I") (BW_in mw_6)) (fun _ h9 => h9) rfl dX0_times_253 ?_
        refine lv_imul hx hb dX0_times_256 ?_
        refine lv_iadd hx hb dX0_times_257 ?_
        obtain ⟨v37, ev37, hf⟩ := nm_elim hf
        try dsimp only at hf
        refine tp_I ev37 ?_
        refine lv_istore (lv' := [(9, .int v37), (10, .int v36), (11, .int v35), (14, .int v34), (13, .int v33), (12, .int v32), (8, .int v27), (7, .int v26), (6, .int v25), (5, .int v24), (4, .int v23), (3, .int v22), (0, .ref (ad 40)), (1, .int p0), (2, .int p1)]) hx hb dX0_times_258 hl (by decide) rfl (fun ls hl => ?_)
        refine lv_iload hx hb dX0_times_260 (lv_at hl 0 rfl) ?_
        refine lv_bipush (v := 101) hx hb dX0_times_262 (by decide) ?_
        refine jv_irem hx hb dX0_times_264 (by decide) ?_
        refine lv_bipush (v := 101) hx hb dX0_times_265 (by decide) ?_
        refine lv_iload hx hb dX0_times_267 (lv_at hl 1 rfl) ?_
        refine lv_bipush (v := 101) hx hb dX0_times_269 (by decide) ?_
        refine jv_irem hx hb dX0_times_271 (by decide) ?_
        refine lv_imul hx hb dX0_times_272 ?_
        refine lv_iadd hx hb dX0_times_273 ?_
        refine lv_sipush (v := 10201) hx hb dX0_times_274 (by decide) ?_
        refine lv_iload hx hb dX0_times_277 (lv_at hl 2 rfl) ?_
        refine lv_bipush (v := 101) hx hb dX0_times_279 (by decide) ?_
        refine jv_irem hx hb dX0_times_281 (by decide) ?_
        refine lv_imul hx hb dX0_times_282 ?_
        refine lv_iadd hx hb dX0_times_283 ?_
        obtain rfl := Option.some.inj hf
        exact W.iret (v := ((jrem v37 101) + (101 * (jrem v36 101))) + (10201 * (jrem v35 101))) hx hb hr (fun t ht hW => ⟨rfl, by rw [ht]; exact hP, hS.F ht⟩) hS.2.2 dX0_times_284
      · rw [if_pos c31] at hf
        refine lv_bipush (v := 101) hx hb dX0_times_106 (by decide) ?_
        refine lv_iload hx hb dX0_times_108 (lv_at hl 0 rfl) ?_
        refine lv_bipush (v := 101) hx hb dX0_times_110 (by decide) ?_
        refine jv_irem hx hb dX0_times_112 (by decide) ?_
        refine lv_isub hx hb dX0_times_113 ?_
        refine lv_bipush (v := 101) hx hb dX0_times_114 (by decide) ?_
        refine jv_irem hx hb dX0_times_116 (by decide) ?_
        obtain ⟨v38, ev38, hf⟩ := nm_elim hf
        try dsimp only at hf
        refine tp_I ev38 ?_
        refine lv_istore (lv' := [(12, .int v38), (11, .int v30), (10, .int v29), (9, .int v28), (8, .int v27), (7, .int v26), (6, .int v25), (5, .int v24), (4, .int v23), (3, .int v22), (0, .ref (ad 40)), (1, .int p0), (2, .int p1)]) hx hb dX0_times_117 hl (by decide) rfl (fun ls hl => ?_)
        refine lv_iload hx hb dX0_times_119 (lv_at hl 2 rfl) ?_
        refine lv_iload hx hb dX0_times_121 (lv_at hl 0 rfl) ?_
        refine lv_aload_n hx hb dX0_times_123 rfl (lv_at hl 10 rfl) ?_
        refine va_get (ci := 0) (v := .int (E 3)) (C := RX0) (T := TX0) (N := 8) hx hb hts (fun w h => BW_in (in_wsX00 w h)) hown hK hP 40 cc_ext rfl 3 (by decide) (hts (.fieldLink RX0 21 "NumberFieldFactors$Extension" "low1" "I") (BW_in mw_7)) (fun _ h9 => h9) rfl dX0_times_124 ?_
        refine lv_imul hx hb dX0_times_127 ?_
        refine lv_iadd hx hb dX0_times_128 ?_
        obtain ⟨v39, ev39, hf⟩ := nm_elim hf
        try dsimp only at hf
        refine tp_I ev39 ?_
        refine lv_istore (lv' := [(10, .int v39), (12, .int v38), (11, .int v30), (9, .int v28), (8, .int v27), (7, .int v26), (6, .int v25), (5, .int v24), (4, .int v23), (3, .int v22), (0, .ref (ad 40)), (1, .int p0), (2, .int p1)]) hx hb dX0_times_129 hl (by decide) rfl (fun ls hl => ?_)
        refine lv_iload hx hb dX0_times_131 (lv_at hl 3 rfl) ?_
        refine lv_iload hx hb dX0_times_133 (lv_at hl 1 rfl) ?_
        refine lv_aload_n hx hb dX0_times_135 rfl (lv_at hl 10 rfl) ?_
        refine va_get (ci := 0) (v := .int (E 2)) (C := RX0) (T := TX0) (N := 8) hx hb hts (fun w h => BW_in (in_wsX00 w h)) hown hK hP 40 cc_ext rfl 2 (by decide) (hts (.fieldLink RX0 18 "NumberFieldFactors$Extension" "low0" "I") (BW_in mw_6)) (fun _ h9 => h9) rfl dX0_times_136 ?_
        refine lv_imul hx hb dX0_times_139 ?_
        refine lv_iadd hx hb dX0_times_140 ?_
        obtain ⟨v40, ev40, hf⟩ := nm_elim hf
        try dsimp only at hf
        refine tp_I ev40 ?_
        refine lv_istore (lv' := [(9, .int v40), (10, .int v39), (12, .int v38), (11, .int v30), (8, .int v27), (7, .int v26), (6, .int v25), (5, .int v24), (4, .int v23), (3, .int v22), (0, .ref (ad 40)), (1, .int p0), (2, .int p1)]) hx hb dX0_times_141 hl (by decide) rfl (fun ls hl => ?_)
        refine lv_iload hx hb dX0_times_143 (lv_at hl 0 rfl) ?_
        refine lv_bipush (v := 101) hx hb dX0_times_145 (by decide) ?_
        refine jv_irem hx hb dX0_times_147 (by decide) ?_
        refine lv_bipush (v := 101) hx hb dX0_times_148 (by decide) ?_
        refine lv_iload hx hb dX0_times_150 (lv_at hl 1 rfl) ?_
        refine lv_bipush (v := 101) hx hb dX0_times_152 (by decide) ?_
        refine jv_irem hx hb dX0_times_154 (by decide) ?_
        refine lv_imul hx hb dX0_times_155 ?_
        refine lv_iadd hx hb dX0_times_156 ?_
        obtain rfl := Option.some.inj hf
        exact W.iret (v := (jrem v40 101) + (101 * (jrem v39 101))) hx hb hr (fun t ht hW => ⟨rfl, by rw [ht]; exact hP, hS.F ht⟩) hS.2.2 dX0_times_157
    · rw [if_neg c21] at hf
      refine lv_iload_n hx hb dX0_times_12 rfl (lv_at hl 1 rfl) ?_
      refine lv_iload_n hx hb dX0_times_13 rfl (lv_at hl 2 rfl) ?_
      refine lv_imul hx hb dX0_times_14 ?_
      refine lv_bipush (v := 101) hx hb dX0_times_15 (by decide) ?_
      refine jv_irem hx hb dX0_times_17 (by decide) ?_
      obtain rfl := Option.some.inj hf
      exact W.iret (v := jrem (p0 * p1) 101) hx hb hr (fun t ht hW => ⟨rfl, by rw [ht]; exact hP, hS.F ht⟩) hS.2.2 dX0_times_18
def f_X0_power_l8 (k8 : Int32 → Int32 → Int32 → Option (Int32)) (fu : Nat) (E : Nat → Int32) (x1 : Int32) (x2 : Int32) : Nat → Int32 → Int32 → Int32 → Option (Int32)
  | 0, _, _, _ => none
  | n + 1, x3, x4, x5 =>
    if x5 ≤ 0 then
      k8 x3 x4 x5
    else
      ((
        if (x5 &&& 1) = 1 then
          (f_X0_times E x3 x4).bind (fun u4 =>
          some u4)
        else
          some x3 : Option (Int32))).bind (fun w2 =>
      (f_X0_times E x4 x4).bind (fun u6 =>
      nm (x5 >>> (1 &&& 31)) (fun v8 =>
      f_X0_power_l8 k8 fu E x1 x2 n w2 u6 v8)))
def f_X0_power (fu : Nat) (E : Nat → Int32) (p0 : Int32) (p1 : Int32) : Option (Int32) :=
  f_X0_power_l8 (fun y9 y10 y11 =>
    some y9) fu E p0 p1 fu 1 p0 p1
set_option maxHeartbeats 4000000 in
set_option maxRecDepth 100000 in
theorem C_X0_power (l : Launch) (D : va_G) (tys : List (ClassId × FieldType)) (nw : List Cond) (hn : nw.all nw_kind = true) (hnw : ∀ w ∈ nw0, w ∈ nw) {ad : Nat → Nat} (hj : ww_inj 46 ad) {cI : ClassId} {cR : ClassId} (htI : tys[0]? = some (cI, .int)) (htR : tys[1]? = some (cR, .object RX2)) {fu : Nat} {M : Fin 20 → Nat → Int32} {E : Nat → Int32} {P : Nat → Fin 20} {C : Nat → Int32} {N : Nat → Int32} {p0 : Int32} {p1 : Int32} {res : Int32} (hf : f_X0_power fu E p0 p1 = some res) :
    Met l yX0_power usX0_power ({ frames := 1, cells := 0, slots := 0, locals := 34 }) (va_Pc [.ref (ad 40), .int p0, .int p1] (ws_B D tys nw (ww 46 ad (cellC cI cR ad M E P C N)))) (ct_Q D (ww 46 ad (cellC cI cR ad M E P C N)) (ww_A 46 ad) (some (.int res))) 0 0 (ww_A 46 ad) := by
  refine Met.ofW (cc := cX0_power) (maxL := 6) (ret := (some .int)) (by decide) rfl ?_
  intro p e s m args below meth c s₁ B hml hv
  obtain ⟨rfl, hP, hK, hN⟩ := hv
  have hx := B.exec
  have hb := B.bytes
  have hr := B.returns
  have hts := atoms_spec (ws := usX0_power) B.pre
  have hown : s.vm.findClass RX0 = some m.cls := findClass_of_methodNamed B.named
  have hlocks := B.notSynchronized
  have hS : va_S (ww_A 46 ad) s.heap s.heap [] := va_S.rf
  have hl := lv_entry ([.ref (ad 40), .int p0, .int p1]) (n := 6) (Nat.le_of_ble_eq_true rfl)
  rw [lg_entry_eq]
  generalize (lg_sl ([.ref (ad 40), .int p0, .int p1]) ++ List.replicate (6 - (lg_sl ([.ref (ad 40), .int p0, .int p1])).length) Slot.unset).toArray = ls at hl ⊢
  have hl : lv_has ls 6 [(0, .ref (ad 40)), (1, .int p0), (2, .int p1)] := hl
  have L8 : ∀ (x1 : Int32) (x2 : Int32) (k8 : Int32 → Int32 → Int32 → Option (Int32)), (∀ (x3 : Int32) (x4 : Int32) (x5 : Int32) (H : Heap) (locs : List Loc) (ls : Array Slot), va_P D vwCl (ww 46 ad (cellC cI cR ad M E P C N)) H → va_S (ww_A 46 ad) s.heap H locs → lv_has ls 6 [(0, .ref (ad 40)), (1, .int x1), (2, .int x2), (3, .int x3), (4, .int x4), (5, .int x5)] →  k8 x3 x4 x5 = some res → W p l e (headSpec usX0_power { frames := 1, cells := 0, slots := 0, locals := 34 }).room s m [.ref (ad 40), .int p0, .int p1].toArray below meth c H locs 0 0 (MQ below (ct_Q D (ww 46 ad (cellC cI cR ad M E P C N)) (ww_A 46 ad) (some (.int res))) [.ref (ad 40), .int p0, .int p1].toArray s 0 0 (ww_A 46 ad)) (F0 m 48 ls [])) → ∀ (n : Nat) (x3 : Int32) (x4 : Int32) (x5 : Int32) (H : Heap) (locs : List Loc) (ls : Array Slot), va_P D vwCl (ww 46 ad (cellC cI cR ad M E P C N)) H → va_S (ww_A 46 ad) s.heap H locs → lv_has ls 6 [(0, .ref (ad 40)), (1, .int x1), (2, .int x2), (3, .int x3), (4, .int x4), (5, .int x5)] →  f_X0_power_l8 k8 fu E x1 x2 n x3 x4 x5 = some res → W p l e (headSpec usX0_power { frames := 1, cells := 0, slots := 0, locals := 34 }).room s m [.ref (ad 40), .int p0, .int p1].toArray below meth c H locs 0 0 (MQ below (ct_Q D (ww 46 ad (cellC cI cR ad M E P C N)) (ww_A 46 ad) (some (.int res))) [.ref (ad 40), .int p0, .int p1].toArray s 0 0 (ww_A 46 ad)) (F0 m 8 ls []) := by
    intro x1 x2 k8 hk_8 n
    induction n with
    | zero => intro x3 x4 x5 H locs ls hP hS hl hf; rw [f_X0_power_l8] at hf; cases hf
    | succ n ih =>
      intro x3 x4 x5 H locs ls hP hS hl hf
      rw [f_X0_power_l8] at hf
      refine lv_iload hx hb dX0_power_8 (lv_at hl 5 rfl) ?_
      refine lv_if_le (tgt := 48) hx hb dX0_power_10 (by decide) (fun c1 => ?_) (fun c1 => ?_)
      · rw [if_pos c1] at hf
        exact hk_8 x3 x4 x5 _ _ _ hP hS (lv_sub hl [0, 1, 2, 3, 4, 5] rfl) hf
      · rw [if_neg c1] at hf
        refine lv_iload hx hb dX0_power_13 (lv_at hl 5 rfl) ?_
        refine lv_iconst (v := 1) hx hb dX0_power_15 (by decide) ?_
        refine lv_iand hx hb dX0_power_16 ?_
        refine lv_iconst (v := 1) hx hb dX0_power_17 (by decide) ?_
        obtain ⟨w2, gw2, hf⟩ := Option.bind_eq_some_iff.mp hf
        try dsimp only at hf
        have hJ29_w2 : ∀ (H : Heap) (locs : List Loc) (ls : Array Slot), va_P D vwCl (ww 46 ad (cellC cI cR ad M E P C N)) H → va_S (ww_A 46 ad) s.heap H locs → lv_has ls 6 [(0, .ref (ad 40)), (1, .int x1), (2, .int x2), (3, .int w2), (4, .int x4), (5, .int x5)] → W p l e (headSpec usX0_power { frames := 1, cells := 0, slots := 0, locals := 34 }).room s m [.ref (ad 40), .int p0, .int p1].toArray below meth c H locs 0 0 (MQ below (ct_Q D (ww 46 ad (cellC cI cR ad M E P C N)) (ww_A 46 ad) (some (.int res))) [.ref (ad 40), .int p0, .int p1].toArray s 0 0 (ww_A 46 ad)) (F0 m 29 ls []) := by
          intro H locs ls hP hS hl
          refine lv_aload_n hx hb dX0_power_29 rfl (lv_at hl 0 rfl) ?_
          refine lv_iload hx hb dX0_power_30 (lv_at hl 4 rfl) ?_
          refine lv_iload hx hb dX0_power_32 (lv_at hl 4 rfl) ?_
          obtain ⟨u6, g7, hf⟩ := Option.bind_eq_some_iff.mp hf
          try dsimp only at hf
          refine ct_call (va_runV (As := [.int x4, .int x4]) (rest := []) ⟨hx, hb, hml, hown, hts⟩ (C_X0_times l D tys nw hn hnw hj htI htR (res := u6) g7) (cwV 2 hts (gu_V mw_15 mw_16 mw_17 mw_18 mw_13) rfl rfl rfl (by decide +kernel) ⟨Nat.le_of_ble_eq_true rfl, Nat.le_of_ble_eq_true rfl⟩) (ct_preV hn hP hK hN (ci := 0) (k := 40) rfl (by decide) rfl) rfl rfl hl.1 rfl (lv_room (Nat.le_of_ble_eq_true rfl)) dX0_power_34 ⟨Nat.zero_le _, Nat.zero_le _⟩) hS (fun H locs hP hS => ?_)
          refine lv_istore (lv' := [(4, .int u6), (0, .ref (ad 40)), (1, .int x1), (2, .int x2), (3, .int w2), (5, .int x5)]) hx hb dX0_power_37 hl (by decide) rfl (fun ls hl => ?_)
          refine lv_iload hx hb dX0_power_39 (lv_at hl 5 rfl) ?_
          refine lv_iconst (v := 1) hx hb dX0_power_41 (by decide) ?_
          refine lv_ishr hx hb dX0_power_42 ?_
          obtain ⟨v8, ev8, hf⟩ := nm_elim hf
          try dsimp only at hf
          refine tp_I ev8 ?_
          refine lv_istore (lv' := [(5, .int v8), (4, .int u6), (0, .ref (ad 40)), (1, .int x1), (2, .int x2), (3, .int w2)]) hx hb dX0_power_43 hl (by decide) rfl (fun ls hl => ?_)
          refine lv_goto (tgt := 8) hx hb dX0_power_45 (by decide) ?_
          exact ih w2 u6 v8 _ _ _ hP hS (lv_sub hl [2, 3, 4, 5, 1, 0] rfl) hf
        refine lv_icmp_ne (tgt := 29) hx hb dX0_power_18 (by decide) (fun c3 => ?_) (fun c3 => ?_)
        · rw [if_neg c3] at gw2
          obtain rfl := Option.some.inj gw2
          exact hJ29_w2 _ _ _ hP hS (lv_sub hl [0, 1, 2, 3, 4, 5] rfl)
        · rw [if_pos c3] at gw2
          refine lv_aload_n hx hb dX0_power_21 rfl (lv_at hl 0 rfl) ?_
          refine lv_iload_n hx hb dX0_power_22 rfl (lv_at hl 3 rfl) ?_
          refine lv_iload hx hb dX0_power_23 (lv_at hl 4 rfl) ?_
          obtain ⟨u4, g5, gw2⟩ := Option.bind_eq_some_iff.mp gw2
          try dsimp only at gw2
          refine ct_call (va_runV (As := [.int x3, .int x4]) (rest := []) ⟨hx, hb, hml, hown, hts⟩ (C_X0_times l D tys nw hn hnw hj htI htR (res := u4) g5) (cwV 2 hts (gu_V mw_15 mw_16 mw_17 mw_18 mw_13) rfl rfl rfl (by decide +kernel) ⟨Nat.le_of_ble_eq_true rfl, Nat.le_of_ble_eq_true rfl⟩) (ct_preV hn hP hK hN (ci := 0) (k := 40) rfl (by decide) rfl) rfl rfl hl.1 rfl (lv_room (Nat.le_of_ble_eq_true rfl)) dX0_power_25 ⟨Nat.zero_le _, Nat.zero_le _⟩) hS (fun H locs hP hS => ?_)
          refine lv_istore_n (lv' := [(3, .int u4), (0, .ref (ad 40)), (1, .int x1), (2, .int x2), (4, .int x4), (5, .int x5)]) hx hb dX0_power_28 rfl hl (by decide) rfl (fun ls hl => ?_)
          obtain rfl := Option.some.inj gw2
          exact hJ29_w2 _ _ _ hP hS (lv_sub hl [1, 2, 3, 0, 4, 5] rfl)
  unfold f_X0_power at hf
  refine lv_iconst (v := 1) hx hb dX0_power_0 (by decide) ?_
  refine lv_istore_n (lv' := [(3, .int 1), (0, .ref (ad 40)), (1, .int p0), (2, .int p1)]) hx hb dX0_power_1 rfl hl (by decide) rfl (fun ls hl => ?_)
  refine lv_iload_n hx hb dX0_power_2 rfl (lv_at hl 2 rfl) ?_
  refine lv_istore (lv' := [(4, .int p0), (3, .int 1), (0, .ref (ad 40)), (1, .int p0), (2, .int p1)]) hx hb dX0_power_3 hl (by decide) rfl (fun ls hl => ?_)
  refine lv_iload_n hx hb dX0_power_5 rfl (lv_at hl 4 rfl) ?_
  refine lv_istore (lv' := [(5, .int p1), (4, .int p0), (3, .int 1), (0, .ref (ad 40)), (1, .int p0), (2, .int p1)]) hx hb dX0_power_6 hl (by decide) rfl (fun ls hl => ?_)
  refine L8 p0 p1 _ (fun y9 y10 y11 H locs ls hP hS hl hf => ?_) fu 1 p0 p1 _ _ _ hP hS (lv_sub hl [3, 4, 5, 2, 1, 0] rfl) hf
  try dsimp only at hf
  refine lv_iload_n hx hb dX0_power_48 rfl (lv_at hl 3 rfl) ?_
  obtain rfl := Option.some.inj hf
  exact W.iret (v := y9) hx hb hr (fun t ht hW => ⟨rfl, by rw [ht]; exact hP, hS.F ht⟩) hS.2.2 dX0_power_49
def f_X0_mate (E : Nat → Int32) (p0 : Int32) : Option (Int32) :=
  (f_X0_times E (p0 / 10201) (E 7)).bind (fun u1 =>
  (f_X0_times E (jrem (p0 / 101) 101) (E 6)).bind (fun u3 =>
  (f_X0_plus u3 u1).bind (fun u5 =>
  (f_X0_plus (jrem p0 101) u5).bind (fun u7 =>
  some u7))))
set_option maxHeartbeats 4000000 in
set_option maxRecDepth 100000 in
theorem C_X0_mate (l : Launch) (D : va_G) (tys : List (ClassId × FieldType)) (nw : List Cond) (hn : nw.all nw_kind = true) (hnw : ∀ w ∈ nw0, w ∈ nw) {ad : Nat → Nat} (hj : ww_inj 46 ad) {cI : ClassId} {cR : ClassId} (htI : tys[0]? = some (cI, .int)) (htR : tys[1]? = some (cR, .object RX2)) {M : Fin 20 → Nat → Int32} {E : Nat → Int32} {P : Nat → Fin 20} {C : Nat → Int32} {N : Nat → Int32} {p0 : Int32} {res : Int32} (hf : f_X0_mate E p0 = some res) :
    Met l yX0_mate usX0_mate ({ frames := 1, cells := 0, slots := 0, locals := 34 }) (va_Pc [.ref (ad 40), .int p0] (ws_B D tys nw (ww 46 ad (cellC cI cR ad M E P C N)))) (ct_Q D (ww 46 ad (cellC cI cR ad M E P C N)) (ww_A 46 ad) (some (.int res))) 0 0 (ww_A 46 ad) := by
  refine Met.ofW (cc := cX0_mate) (maxL := 4) (ret := (some .int)) (by decide) rfl ?_
  intro p e s m args below meth c s₁ B hml hv
  obtain ⟨rfl, hP, hK, hN⟩ := hv
  have hx := B.exec
  have hb := B.bytes
  have hr := B.returns
  have hts := atoms_spec (ws := usX0_mate) B.pre
  have hown : s.vm.findClass RX0 = some m.cls := findClass_of_methodNamed B.named
  have hlocks := B.notSynchronized
  have hS : va_S (ww_A 46 ad) s.heap s.heap [] := va_S.rf
  have hl := lv_entry ([.ref (ad 40), .int p0]) (n := 4) (Nat.le_of_ble_eq_true rfl)
  rw [lg_entry_eq]
  generalize (lg_sl ([.ref (ad 40), .int p0]) ++ List.replicate (4 - (lg_sl ([.ref (ad 40), .int p0])).length) Slot.unset).toArray = ls at hl ⊢
  have hl : lv_has ls 4 [(0, .ref (ad 40)), (1, .int p0)] := hl
  unfold f_X0_mate at hf
  refine lv_aload_n hx hb dX0_mate_0 rfl (lv_at hl 0 rfl) ?_
  refine lv_iload_n hx hb dX0_mate_1 rfl (lv_at hl 1 rfl) ?_
  refine lv_sipush (v := 10201) hx hb dX0_mate_2 (by decide) ?_
  refine lv_idiv hx hb dX0_mate_5 (by decide) ?_
  refine lv_aload_n hx hb dX0_mate_6 rfl (lv_at hl 0 rfl) ?_
  refine va_get (ci := 0) (v := .int (E 7)) (C := RX0) (T := TX0) (N := 8) hx hb hts (fun w h => BW_in (in_wsX00 w h)) hown hK hP 40 cc_ext rfl 7 (by decide) (hts (.fieldLink RX0 33 "NumberFieldFactors$Extension" "mateOfTSquared" "I") (BW_in mw_11)) (fun _ h9 => h9) rfl dX0_mate_7 ?_
  obtain ⟨u1, g2, hf⟩ := Option.bind_eq_some_iff.mp hf
  try dsimp only at hf
  refine ct_call (va_runV (As := [.int (p0 / 10201), .int (E 7)]) (rest := []) ⟨hx, hb, hml, hown, hts⟩ (C_X0_times l D tys nw hn hnw hj htI htR (res := u1) g2) (cwV 2 hts (gu_V mw_15 mw_16 mw_17 mw_18 mw_13) rfl rfl rfl (by decide +kernel) ⟨Nat.le_of_ble_eq_true rfl, Nat.le_of_ble_eq_true rfl⟩) (ct_preV hn hP hK hN (ci := 0) (k := 40) rfl (by decide) rfl) rfl rfl hl.1 rfl (lv_room (Nat.le_of_ble_eq_true rfl)) dX0_mate_10 ⟨Nat.zero_le _, Nat.zero_le _⟩) hS (fun H locs hP hS => ?_)
  refine lv_istore_n (lv' := [(2, .int u1), (0, .ref (ad 40)), (1, .int p0)]) hx hb dX0_mate_13 rfl hl (by decide) rfl (fun ls hl => ?_)
  refine lv_aload_n hx hb dX0_mate_14 rfl (lv_at hl 1 rfl) ?_
  refine lv_iload_n hx hb dX0_mate_15 rfl (lv_at hl 2 rfl) ?_
  refine lv_bipush (v := 101) hx hb dX0_mate_16 (by decide) ?_
  refine lv_idiv hx hb dX0_mate_18 (by decide) ?_
  refine lv_bipush (v := 101) hx hb dX0_mate_19 (by decide) ?_
  refine jv_irem hx hb dX0_mate_21 (by decide) ?_
  refine lv_aload_n hx hb dX0_mate_22 rfl (lv_at hl 1 rfl) ?_
  refine va_get (ci := 0) (v := .int (E 6)) (C := RX0) (T := TX0) (N := 8) hx hb hts (fun w h => BW_in (in_wsX00 w h)) hown hK hP 40 cc_ext rfl 6 (by decide) (hts (.fieldLink RX0 30 "NumberFieldFactors$Extension" "mateOfT" "I") (BW_in mw_10)) (fun _ h9 => h9) rfl dX0_mate_23 ?_
  obtain ⟨u3, g4, hf⟩ := Option.bind_eq_some_iff.mp hf
  try dsimp only at hf
  refine ct_call (va_runV (As := [.int (jrem (p0 / 101) 101), .int (E 6)]) (rest := []) ⟨hx, hb, hml, hown, hts⟩ (C_X0_times l D tys nw hn hnw hj htI htR (res := u3) g4) (cwV 2 hts (gu_V mw_15 mw_16 mw_17 mw_18 mw_13) rfl rfl rfl (by decide +kernel) ⟨Nat.le_of_ble_eq_true rfl, Nat.le_of_ble_eq_true rfl⟩) (ct_preV hn hP hK hN (ci := 0) (k := 40) rfl (by decide) rfl) rfl rfl hl.1 rfl (lv_room (Nat.le_of_ble_eq_true rfl)) dX0_mate_26 ⟨Nat.zero_le _, Nat.zero_le _⟩) hS (fun H locs hP hS => ?_)
  refine lv_istore_n (lv' := [(3, .int u3), (2, .int u1), (0, .ref (ad 40)), (1, .int p0)]) hx hb dX0_mate_29 rfl hl (by decide) rfl (fun ls hl => ?_)
  refine lv_aload_n hx hb dX0_mate_30 rfl (lv_at hl 2 rfl) ?_
  refine lv_iload_n hx hb dX0_mate_31 rfl (lv_at hl 3 rfl) ?_
  refine lv_bipush (v := 101) hx hb dX0_mate_32 (by decide) ?_
  refine jv_irem hx hb dX0_mate_34 (by decide) ?_
  refine lv_aload_n hx hb dX0_mate_35 rfl (lv_at hl 2 rfl) ?_
  refine lv_iload_n hx hb dX0_mate_36 rfl (lv_at hl 0 rfl) ?_
  refine lv_iload_n hx hb dX0_mate_37 rfl (lv_at hl 1 rfl) ?_
  obtain ⟨u5, g6, hf⟩ := Option.bind_eq_some_iff.mp hf
  try dsimp only at hf
  refine ct_call (va_runV (As := [.int u3, .int u1]) (rest := [.int (jrem p0 101), .ref (ad 40)]) ⟨hx, hb, hml, hown, hts⟩ (C_X0_plus l D tys nw hn hnw hj htI htR (res := u5) g6) (cwV 2 hts (gu_V mw_30 mw_31 mw_32 mw_18 mw_27) rfl rfl rfl (by decide +kernel) ⟨Nat.le_of_ble_eq_true rfl, Nat.le_of_ble_eq_true rfl⟩) (ct_preV hn hP hK hN (ci := 0) (k := 40) rfl (by decide) rfl) rfl rfl hl.1 rfl (lv_room (Nat.le_of_ble_eq_true rfl)) dX0_mate_38 ⟨Nat.zero_le _, Nat.zero_le _⟩) hS (fun H locs hP hS => ?_)
  obtain ⟨u7, g8, hf⟩ := Option.bind_eq_some_iff.mp hf
  try dsimp only at hf
  refine ct_call (va_runV (As := [.int (jrem p0 101), .int u5]) (rest := []) ⟨hx, hb, hml, hown, hts⟩ (C_X0_plus l D tys nw hn hnw hj htI htR (res := u7) g8) (cwV 2 hts (gu_V mw_30 mw_31 mw_32 mw_18 mw_27) rfl rfl rfl (by decide +kernel) ⟨Nat.le_of_ble_eq_true rfl, Nat.le_of_ble_eq_true rfl⟩) (ct_preV hn hP hK hN (ci := 0) (k := 40) rfl (by decide) rfl) rfl rfl hl.1 rfl (lv_room (Nat.le_of_ble_eq_true rfl)) dX0_mate_41 ⟨Nat.zero_le _, Nat.zero_le _⟩) hS (fun H locs hP hS => ?_)
  obtain rfl := Option.some.inj hf
  exact W.iret (v := u7) hx hb hr (fun t ht hW => ⟨rfl, by rw [ht]; exact hP, hS.F ht⟩) hS.2.2 dX0_mate_44
def f_X0_isSquare (fu : Nat) (E : Nat → Int32) (p0 : Int32) : Option (Int32) :=
  if p0 = 0 then
    some 1
  else
    (f_X0_power fu E p0 ((E 1) / 2)).bind (fun u2 =>
    if u2 = 1 then
      some 1
    else
      some 0)
set_option maxHeartbeats 4000000 in
set_option maxRecDepth 100000 in
theorem C_X0_isSquare (l : Launch) (D : va_G) (tys : List (ClassId × FieldType)) (nw : List Cond) (hn : nw.all nw_kind = true) (hnw : ∀ w ∈ nw0, w ∈ nw) {ad : Nat → Nat} (hj : ww_inj 46 ad) {cI : ClassId} {cR : ClassId} (htI : tys[0]? = some (cI, .int)) (htR : tys[1]? = some (cR, .object RX2)) {fu : Nat} {M : Fin 20 → Nat → Int32} {E : Nat → Int32} {P : Nat → Fin 20} {C : Nat → Int32} {N : Nat → Int32} {p0 : Int32} {res : Int32} (hf : f_X0_isSquare fu E p0 = some res) :
    Met l yX0_isSquare usX0_isSquare ({ frames := 2, cells := 0, slots := 0, locals := 59 }) (va_Pc [.ref (ad 40), .int p0] (ws_B D tys nw (ww 46 ad (cellC cI cR ad M E P C N)))) (ct_Q D (ww 46 ad (cellC cI cR ad M E P C N)) (ww_A 46 ad) (some (.int res))) 0 0 (ww_A 46 ad) := by
  refine Met.ofW (cc := cX0_isSquare) (maxL := 2) (ret := (some .boolean)) (by decide) rfl ?_
  intro p e s m args below meth c s₁ B hml hv
  obtain ⟨rfl, hP, hK, hN⟩ := hv
  have hx := B.exec
  have hb := B.bytes
  have hr := B.returns
  have hts := atoms_spec (ws := usX0_isSquare) B.pre
  have hown : s.vm.findClass RX0 = some m.cls := findClass_of_methodNamed B.named
  have hlocks := B.notSynchronized
  have hS : va_S (ww_A 46 ad) s.heap s.heap [] := va_S.rf
  have hl := lv_entry ([.ref (ad 40), .int p0]) (n := 2) (Nat.le_of_ble_eq_true rfl)
  rw [lg_entry_eq]
  generalize (lg_sl ([.ref (ad 40), .int p0]) ++ List.replicate (2 - (lg_sl ([.ref (ad 40), .int p0])).length) Slot.unset).toArray = ls at hl ⊢
  have hl : lv_has ls 2 [(0, .ref (ad 40)), (1, .int p0)] := hl
  unfold f_X0_isSquare at hf
  refine lv_iload_n hx hb dX0_isSquare_0 rfl (lv_at hl 1 rfl) ?_
  refine lv_if_eq (tgt := 19) hx hb dX0_isSquare_1 (by decide) (fun c1 => ?_) (fun c1 => ?_)
  · rw [if_pos c1] at hf
    refine lv_iconst (v := 1) hx hb dX0_isSquare_19 (by decide) ?_
    refine lv_goto (tgt := 24) hx hb dX0_isSquare_20 (by decide) ?_
    obtain rfl := Option.some.inj hf
    exact W.zret (v := 1) (ty := .boolean) hx hb hr (by decide) (fun t ht hW => ⟨rfl, by rw [ht]; exact hP, hS.F ht⟩) hS.2.2 dX0_isSquare_24
  · rw [if_neg c1] at hf
    refine lv_aload_n hx hb dX0_isSquare_4 rfl (lv_at hl 0 rfl) ?_
    refine lv_iload_n hx hb dX0_isSquare_5 rfl (lv_at hl 1 rfl) ?_
    refine lv_aload_n hx hb dX0_isSquare_6 rfl (lv_at hl 0 rfl) ?_
    refine va_get (ci := 0) (v := .int (E 1)) (C := RX0) (T := TX0) (N := 8) hx hb hts (fun w h => BW_in (in_wsX00 w h)) hown hK hP 40 cc_ext rfl 1 (by decide) (hts (.fieldLink RX0 15 "NumberFieldFactors$Extension" "size" "I") (BW_in mw_5)) (fun _ h9 => h9) rfl dX0_isSquare_7 ?_
    refine lv_iconst (v := 2) hx hb dX0_isSquare_10 (by decide) ?_
    refine lv_idiv hx hb dX0_isSquare_11 (by decide) ?_
    obtain ⟨u2, g3, hf⟩ := Option.bind_eq_some_iff.mp hf
    try dsimp only at hf
    refine ct_call (va_runV (As := [.int p0, .int ((E 1) / 2)]) (rest := []) ⟨hx, hb, hml, hown, hts⟩ (C_X0_power l D tys nw hn hnw hj htI htR (res := u2) g3) (cwV 2 hts (gu_V mw_23 mw_24 mw_25 mw_18 mw_14) rfl rfl rfl (by decide +kernel) ⟨Nat.le_of_ble_eq_true rfl, Nat.le_of_ble_eq_true rfl⟩) (ct_preV hn hP hK hN (ci := 0) (k := 40) rfl (by decide) rfl) rfl rfl hl.1 rfl (lv_room (Nat.le_of_ble_eq_true rfl)) dX0_isSquare_12 ⟨Nat.zero_le _, Nat.zero_le _⟩) hS (fun H locs hP hS => ?_)
    refine lv_iconst (v := 1) hx hb dX0_isSquare_15 (by decide) ?_
    refine lv_icmp_ne (tgt := 23) hx hb dX0_isSquare_16 (by decide) (fun c4 => ?_) (fun c4 => ?_)
    · rw [if_neg c4] at hf
      refine lv_iconst (v := 0) hx hb dX0_isSquare_23 (by decide) ?_
      obtain rfl := Option.some.inj hf
      exact W.zret (v := 0) (ty := .boolean) hx hb hr (by decide) (fun t ht hW => ⟨rfl, by rw [ht]; exact hP, hS.F ht⟩) hS.2.2 dX0_isSquare_24
    · rw [if_pos c4] at hf
      refine lv_iconst (v := 1) hx hb dX0_isSquare_19 (by decide) ?_
      refine lv_goto (tgt := 24) hx hb dX0_isSquare_20 (by decide) ?_
      obtain rfl := Option.some.inj hf
      exact W.zret (v := 1) (ty := .boolean) hx hb hr (by decide) (fun t ht hW => ⟨rfl, by rw [ht]; exact hP, hS.F ht⟩) hS.2.2 dX0_isSquare_24
def f_X0_matesProduct_l7 (k7 : Int32 → Int32 → Int32 → Option (Int32)) (fu : Nat) (E : Nat → Int32) (x1 : Int32) : Nat → Int32 → Int32 → Int32 → Option (Int32)
  | 0, _, _, _ => none
  | n + 1, x2, x3, x4 =>
    if (E 0) ≤ x4 then
      k7 x2 x3 x4
    else
      (f_X0_mate E x3).bind (fun u2 =>
      (f_X0_times E x2 u2).bind (fun u4 =>
      f_X0_matesProduct_l7 k7 fu E x1 n u4 u2 (x4 + 1)))
def f_X0_matesProduct (fu : Nat) (E : Nat → Int32) (p0 : Int32) : Option (Int32) :=
  f_X0_matesProduct_l7 (fun y6 y7 y8 =>
    some y6) fu E p0 fu p0 p0 1
set_option maxHeartbeats 4000000 in
set_option maxRecDepth 100000 in
theorem C_X0_matesProduct (l : Launch) (D : va_G) (tys : List (ClassId × FieldType)) (nw : List Cond) (hn : nw.all nw_kind = true) (hnw : ∀ w ∈ nw0, w ∈ nw) {ad : Nat → Nat} (hj : ww_inj 46 ad) {cI : ClassId} {cR : ClassId} (htI : tys[0]? = some (cI, .int)) (htR : tys[1]? = some (cR, .object RX2)) {fu : Nat} {M : Fin 20 → Nat → Int32} {E : Nat → Int32} {P : Nat → Fin 20} {C : Nat → Int32} {N : Nat → Int32} {p0 : Int32} {res : Int32} (hf : f_X0_matesProduct fu E p0 = some res) :
    Met l yX0_matesProduct usX0_matesProduct ({ frames := 2, cells := 0, slots := 0, locals := 57 }) (va_Pc [.ref (ad 40), .int p0] (ws_B D tys nw (ww 46 ad (cellC cI cR ad M E P C N)))) (ct_Q D (ww 46 ad (cellC cI cR ad M E P C N)) (ww_A 46 ad) (some (.int res))) 0 0 (ww_A 46 ad) := by
  refine Met.ofW (cc := cX0_matesProduct) (maxL := 5) (ret := (some .int)) (by decide) rfl ?_
  intro p e s m args below meth c s₁ B hml hv
  obtain ⟨rfl, hP, hK, hN⟩ := hv
  have hx := B.exec
  have hb := B.bytes
  have hr := B.returns
  have hts := atoms_spec (ws := usX0_matesProduct) B.pre
  have hown : s.vm.findClass RX0 = some m.cls := findClass_of_methodNamed B.named
  have hlocks := B.notSynchronized
  have hS : va_S (ww_A 46 ad) s.heap s.heap [] := va_S.rf
  have hl := lv_entry ([.ref (ad 40), .int p0]) (n := 5) (Nat.le_of_ble_eq_true rfl)
  rw [lg_entry_eq]
  generalize (lg_sl ([.ref (ad 40), .int p0]) ++ List.replicate (5 - (lg_sl ([.ref (ad 40), .int p0])).length) Slot.unset).toArray = ls at hl ⊢
  have hl : lv_has ls 5 [(0, .ref (ad 40)), (1, .int p0)] := hl
  have L7 : ∀ (x1 : Int32) (k7 : Int32 → Int32 → Int32 → Option (Int32)), (∀ (x2 : Int32) (x3 : Int32) (x4 : Int32) (H : Heap) (locs : List Loc) (ls : Array Slot), va_P D vwCl (ww 46 ad (cellC cI cR ad M E P C N)) H → va_S (ww_A 46 ad) s.heap H locs → lv_has ls 5 [(0, .ref (ad 40)), (1, .int x1), (2, .int x2), (3, .int x3), (4, .int x4)] →  k7 x2 x3 x4 = some res → W p l e (headSpec usX0_matesProduct { frames := 2, cells := 0, slots := 0, locals := 57 }).room s m [.ref (ad 40), .int p0].toArray below meth c H locs 0 0 (MQ below (ct_Q D (ww 46 ad (cellC cI cR ad M E P C N)) (ww_A 46 ad) (some (.int res))) [.ref (ad 40), .int p0].toArray s 0 0 (ww_A 46 ad)) (F0 m 35 ls [])) → ∀ (n : Nat) (x2 : Int32) (x3 : Int32) (x4 : Int32) (H : Heap) (locs : List Loc) (ls : Array Slot), va_P D vwCl (ww 46 ad (cellC cI cR ad M E P C N)) H → va_S (ww_A 46 ad) s.heap H locs → lv_has ls 5 [(0, .ref (ad 40)), (1, .int x1), (2, .int x2), (3, .int x3), (4, .int x4)] →  f_X0_matesProduct_l7 k7 fu E x1 n x2 x3 x4 = some res → W p l e (headSpec usX0_matesProduct { frames := 2, cells := 0, slots := 0, locals := 57 }).room s m [.ref (ad 40), .int p0].toArray below meth c H locs 0 0 (MQ below (ct_Q D (ww 46 ad (cellC cI cR ad M E P C N)) (ww_A 46 ad) (some (.int res))) [.ref (ad 40), .int p0].toArray s 0 0 (ww_A 46 ad)) (F0 m 7 ls []) := by
    intro x1 k7 hk_7 n
    induction n with
    | zero => intro x2 x3 x4 H locs ls hP hS hl hf; rw [f_X0_matesProduct_l7] at hf; cases hf
    | succ n ih =>
      intro x2 x3 x4 H locs ls hP hS hl hf
      rw [f_X0_matesProduct_l7] at hf
      refine lv_iload hx hb dX0_matesProduct_7 (lv_at hl 4 rfl) ?_
      refine lv_aload_n hx hb dX0_matesProduct_9 rfl (lv_at hl 0 rfl) ?_
      refine va_get (ci := 0) (v := .int (E 0)) (C := RX0) (T := TX0) (N := 8) hx hb hts (fun w h => BW_in (in_wsX00 w h)) hown hK hP 40 cc_ext rfl 0 (by decide) (hts (.fieldLink RX0 9 "NumberFieldFactors$Extension" "degree" "I") (BW_in mw_4)) (fun _ h9 => h9) rfl dX0_matesProduct_10 ?_
      refine lv_icmp_ge (tgt := 35) hx hb dX0_matesProduct_13 (by decide) (fun c1 => ?_) (fun c1 => ?_)
      · rw [if_pos c1] at hf
        exact hk_7 x2 x3 x4 _ _ _ hP hS (lv_sub hl [0, 1, 2, 3, 4] rfl) hf
      · rw [if_neg c1] at hf
        refine lv_aload_n hx hb dX0_matesProduct_16 rfl (lv_at hl 0 rfl) ?_
        refine lv_iload_n hx hb dX0_matesProduct_17 rfl (lv_at hl 3 rfl) ?_
        obtain ⟨u2, g3, hf⟩ := Option.bind_eq_some_iff.mp hf
        try dsimp only at hf
        refine ct_call (va_runV (As := [.int x3]) (rest := []) ⟨hx, hb, hml, hown, hts⟩ (C_X0_mate l D tys nw hn hnw hj htI htR (res := u2) g3) (cwV 1 hts (gu_V mw_35 mw_36 mw_37 mw_18 mw_29) rfl rfl rfl (by decide +kernel) ⟨Nat.le_of_ble_eq_true rfl, Nat.le_of_ble_eq_true rfl⟩) (ct_preV hn hP hK hN (ci := 0) (k := 40) rfl (by decide) rfl) rfl rfl hl.1 rfl (lv_room (Nat.le_of_ble_eq_true rfl)) dX0_matesProduct_18 ⟨Nat.zero_le _, Nat.zero_le _⟩) hS (fun H locs hP hS => ?_)
        refine lv_istore_n (lv' := [(3, .int u2), (0, .ref (ad 40)), (1, .int x1), (2, .int x2), (4, .int x4)]) hx hb dX0_matesProduct_21 rfl hl (by decide) rfl (fun ls hl => ?_)
        refine lv_aload_n hx hb dX0_matesProduct_22 rfl (lv_at hl 1 rfl) ?_
        refine lv_iload_n hx hb dX0_matesProduct_23 rfl (lv_at hl 3 rfl) ?_
        refine lv_iload_n hx hb dX0_matesProduct_24 rfl (lv_at hl 0 rfl) ?_
        obtain ⟨u4, g5, hf⟩ := Option.bind_eq_some_iff.mp hf
        try dsimp only at hf
        refine ct_call (va_runV (As := [.int x2, .int u2]) (rest := []) ⟨hx, hb, hml, hown, hts⟩ (C_X0_times l D tys nw hn hnw hj htI htR (res := u4) g5) (cwV 2 hts (gu_V mw_15 mw_16 mw_17 mw_18 mw_13) rfl rfl rfl (by decide +kernel) ⟨Nat.le_of_ble_eq_true rfl, Nat.le_of_ble_eq_true rfl⟩) (ct_preV hn hP hK hN (ci := 0) (k := 40) rfl (by decide) rfl) rfl rfl hl.1 rfl (lv_room (Nat.le_of_ble_eq_true rfl)) dX0_matesProduct_25 ⟨Nat.zero_le _, Nat.zero_le _⟩) hS (fun H locs hP hS => ?_)
        refine lv_istore_n (lv' := [(2, .int u4), (3, .int u2), (0, .ref (ad 40)), (1, .int x1), (4, .int x4)]) hx hb dX0_matesProduct_28 rfl hl (by decide) rfl (fun ls hl => ?_)
        refine lv_iinc (v := x4 + 1) (lv' := [(4, .int (x4 + 1)), (2, .int u4), (3, .int u2), (0, .ref (ad 40)), (1, .int x1)]) hx hb dX0_matesProduct_29 hl (k := 4) rfl rfl (by decide) rfl (fun ls hl => ?_)
        refine lv_goto (tgt := 7) hx hb dX0_matesProduct_32 (by decide) ?_
        exact ih u4 u2 (x4 + 1) _ _ _ hP hS (lv_sub hl [3, 4, 1, 2, 0] rfl) hf
  unfold f_X0_matesProduct at hf
  refine lv_iload_n hx hb dX0_matesProduct_0 rfl (lv_at hl 1 rfl) ?_
  refine lv_istore_n (lv' := [(2, .int p0), (0, .ref (ad 40)), (1, .int p0)]) hx hb dX0_matesProduct_1 rfl hl (by decide) rfl (fun ls hl => ?_)
  refine lv_iload_n hx hb dX0_matesProduct_2 rfl (lv_at hl 2 rfl) ?_
  refine lv_istore_n (lv' := [(3, .int p0), (2, .int p0), (0, .ref (ad 40)), (1, .int p0)]) hx hb dX0_matesProduct_3 rfl hl (by decide) rfl (fun ls hl => ?_)
  refine lv_iconst (v := 1) hx hb dX0_matesProduct_4 (by decide) ?_
  refine lv_istore (lv' := [(4, .int 1), (3, .int p0), (2, .int p0), (0, .ref (ad 40)), (1, .int p0)]) hx hb dX0_matesProduct_5 hl (by decide) rfl (fun ls hl => ?_)
  refine L7 p0 _ (fun y6 y7 y8 H locs ls hP hS hl hf => ?_) fu p0 p0 1 _ _ _ hP hS (lv_sub hl [3, 4, 2, 1, 0] rfl) hf
  try dsimp only at hf
  refine lv_iload_n hx hb dX0_matesProduct_35 rfl (lv_at hl 2 rfl) ?_
  obtain rfl := Option.some.inj hf
  exact W.iret (v := y6) hx hb hr (fun t ht hW => ⟨rfl, by rw [ht]; exact hP, hS.F ht⟩) hS.2.2 dX0_matesProduct_36
def f_X0_matesSum_l7 (k7 : Int32 → Int32 → Int32 → Option (Int32)) (fu : Nat) (E : Nat → Int32) (x1 : Int32) : Nat → Int32 → Int32 → Int32 → Option (Int32)
  | 0, _, _, _ => none
  | n + 1, x2, x3, x4 =>
    if (E 0) ≤ x4 then
      k7 x2 x3 x4
    else
      (f_X0_mate E x3).bind (fun u2 =>
      (f_X0_plus x2 u2).bind (fun u4 =>
      f_X0_matesSum_l7 k7 fu E x1 n u4 u2 (x4 + 1)))
def f_X0_matesSum (fu : Nat) (E : Nat → Int32) (p0 : Int32) : Option (Int32) :=
  f_X0_matesSum_l7 (fun y6 y7 y8 =>
    some y6) fu E p0 fu p0 p0 1
set_option maxHeartbeats 4000000 in
set_option maxRecDepth 100000 in
theorem C_X0_matesSum (l : Launch) (D : va_G) (tys : List (ClassId × FieldType)) (nw : List Cond) (hn : nw.all nw_kind = true) (hnw : ∀ w ∈ nw0, w ∈ nw) {ad : Nat → Nat} (hj : ww_inj 46 ad) {cI : ClassId} {cR : ClassId} (htI : tys[0]? = some (cI, .int)) (htR : tys[1]? = some (cR, .object RX2)) {fu : Nat} {M : Fin 20 → Nat → Int32} {E : Nat → Int32} {P : Nat → Fin 20} {C : Nat → Int32} {N : Nat → Int32} {p0 : Int32} {res : Int32} (hf : f_X0_matesSum fu E p0 = some res) :
    Met l yX0_matesSum usX0_matesSum ({ frames := 2, cells := 0, slots := 0, locals := 57 }) (va_Pc [.ref (ad 40), .int p0] (ws_B D tys nw (ww 46 ad (cellC cI cR ad M E P C N)))) (ct_Q D (ww 46 ad (cellC cI cR ad M E P C N)) (ww_A 46 ad) (some (.int res))) 0 0 (ww_A 46 ad) := by
  refine Met.ofW (cc := cX0_matesSum) (maxL := 5) (ret := (some .int)) (by decide) rfl ?_
  intro p e s m args below meth c s₁ B hml hv
  obtain ⟨rfl, hP, hK, hN⟩ := hv
  have hx := B.exec
  have hb := B.bytes
  have hr := B.returns
  have hts := atoms_spec (ws := usX0_matesSum) B.pre
  have hown : s.vm.findClass RX0 = some m.cls := findClass_of_methodNamed B.named
  have hlocks := B.notSynchronized
  have hS : va_S (ww_A 46 ad) s.heap s.heap [] := va_S.rf
  have hl := lv_entry ([.ref (ad 40), .int p0]) (n := 5) (Nat.le_of_ble_eq_true rfl)
  rw [lg_entry_eq]
  generalize (lg_sl ([.ref (ad 40), .int p0]) ++ List.replicate (5 - (lg_sl ([.ref (ad 40), .int p0])).length) Slot.unset).toArray = ls at hl ⊢
  have hl : lv_has ls 5 [(0, .ref (ad 40)), (1, .int p0)] := hl
  have L7 : ∀ (x1 : Int32) (k7 : Int32 → Int32 → Int32 → Option (Int32)), (∀ (x2 : Int32) (x3 : Int32) (x4 : Int32) (H : Heap) (locs : List Loc) (ls : Array Slot), va_P D vwCl (ww 46 ad (cellC cI cR ad M E P C N)) H → va_S (ww_A 46 ad) s.heap H locs → lv_has ls 5 [(0, .ref (ad 40)), (1, .int x1), (2, .int x2), (3, .int x3), (4, .int x4)] →  k7 x2 x3 x4 = some res → W p l e (headSpec usX0_matesSum { frames := 2, cells := 0, slots := 0, locals := 57 }).room s m [.ref (ad 40), .int p0].toArray below meth c H locs 0 0 (MQ below (ct_Q D (ww 46 ad (cellC cI cR ad M E P C N)) (ww_A 46 ad) (some (.int res))) [.ref (ad 40), .int p0].toArray s 0 0 (ww_A 46 ad)) (F0 m 35 ls [])) → ∀ (n : Nat) (x2 : Int32) (x3 : Int32) (x4 : Int32) (H : Heap) (locs : List Loc) (ls : Array Slot), va_P D vwCl (ww 46 ad (cellC cI cR ad M E P C N)) H → va_S (ww_A 46 ad) s.heap H locs → lv_has ls 5 [(0, .ref (ad 40)), (1, .int x1), (2, .int x2), (3, .int x3), (4, .int x4)] →  f_X0_matesSum_l7 k7 fu E x1 n x2 x3 x4 = some res → W p l e (headSpec usX0_matesSum { frames := 2, cells := 0, slots := 0, locals := 57 }).room s m [.ref (ad 40), .int p0].toArray below meth c H locs 0 0 (MQ below (ct_Q D (ww 46 ad (cellC cI cR ad M E P C N)) (ww_A 46 ad) (some (.int res))) [.ref (ad 40), .int p0].toArray s 0 0 (ww_A 46 ad)) (F0 m 7 ls []) := by
    intro x1 k7 hk_7 n
    induction n with
    | zero => intro x2 x3 x4 H locs ls hP hS hl hf; rw [f_X0_matesSum_l7] at hf; cases hf
    | succ n ih =>
      intro x2 x3 x4 H locs ls hP hS hl hf
      rw [f_X0_matesSum_l7] at hf
      refine lv_iload hx hb dX0_matesSum_7 (lv_at hl 4 rfl) ?_
      refine lv_aload_n hx hb dX0_matesSum_9 rfl (lv_at hl 0 rfl) ?_
      refine va_get (ci := 0) (v := .int (E 0)) (C := RX0) (T := TX0) (N := 8) hx hb hts (fun w h => BW_in (in_wsX00 w h)) hown hK hP 40 cc_ext rfl 0 (by decide) (hts (.fieldLink RX0 9 "NumberFieldFactors$Extension" "degree" "I") (BW_in mw_4)) (fun _ h9 => h9) rfl dX0_matesSum_10 ?_
      refine lv_icmp_ge (tgt := 35) hx hb dX0_matesSum_13 (by decide) (fun c1 => ?_) (fun c1 => ?_)
      · rw [if_pos c1] at hf
        exact hk_7 x2 x3 x4 _ _ _ hP hS (lv_sub hl [0, 1, 2, 3, 4] rfl) hf
      · rw [if_neg c1] at hf
        refine lv_aload_n hx hb dX0_matesSum_16 rfl (lv_at hl 0 rfl) ?_
        refine lv_iload_n hx hb dX0_matesSum_17 rfl (lv_at hl 3 rfl) ?_
        obtain ⟨u2, g3, hf⟩ := Option.bind_eq_some_iff.mp hf
        try dsimp only at hf
        refine ct_call (va_runV (As := [.int x3]) (rest := []) ⟨hx, hb, hml, hown, hts⟩ (C_X0_mate l D tys nw hn hnw hj htI htR (res := u2) g3) (cwV 1 hts (gu_V mw_35 mw_36 mw_37 mw_18 mw_29) rfl rfl rfl (by decide +kernel) ⟨Nat.le_of_ble_eq_true rfl, Nat.le_of_ble_eq_true rfl⟩) (ct_preV hn hP hK hN (ci := 0) (k := 40) rfl (by decide) rfl) rfl rfl hl.1 rfl (lv_room (Nat.le_of_ble_eq_true rfl)) dX0_matesSum_18 ⟨Nat.zero_le _, Nat.zero_le _⟩) hS (fun H locs hP hS => ?_)
        refine lv_istore_n (lv' := [(3, .int u2), (0, .ref (ad 40)), (1, .int x1), (2, .int x2), (4, .int x4)]) hx hb dX0_matesSum_21 rfl hl (by decide) rfl (fun ls hl => ?_)
        refine lv_aload_n hx hb dX0_matesSum_22 rfl (lv_at hl 1 rfl) ?_
        refine lv_iload_n hx hb dX0_matesSum_23 rfl (lv_at hl 3 rfl) ?_
        refine lv_iload_n hx hb dX0_matesSum_24 rfl (lv_at hl 0 rfl) ?_
        obtain ⟨u4, g5, hf⟩ := Option.bind_eq_some_iff.mp hf
        try dsimp only at hf
        refine ct_call (va_runV (As := [.int x2, .int u2]) (rest := []) ⟨hx, hb, hml, hown, hts⟩ (C_X0_plus l D tys nw hn hnw hj htI htR (res := u4) g5) (cwV 2 hts (gu_V mw_30 mw_31 mw_32 mw_18 mw_27) rfl rfl rfl (by decide +kernel) ⟨Nat.le_of_ble_eq_true rfl, Nat.le_of_ble_eq_true rfl⟩) (ct_preV hn hP hK hN (ci := 0) (k := 40) rfl (by decide) rfl) rfl rfl hl.1 rfl (lv_room (Nat.le_of_ble_eq_true rfl)) dX0_matesSum_25 ⟨Nat.zero_le _, Nat.zero_le _⟩) hS (fun H locs hP hS => ?_)
        refine lv_istore_n (lv' := [(2, .int u4), (3, .int u2), (0, .ref (ad 40)), (1, .int x1), (4, .int x4)]) hx hb dX0_matesSum_28 rfl hl (by decide) rfl (fun ls hl => ?_)
        refine lv_iinc (v := x4 + 1) (lv' := [(4, .int (x4 + 1)), (2, .int u4), (3, .int u2), (0, .ref (ad 40)), (1, .int x1)]) hx hb dX0_matesSum_29 hl (k := 4) rfl rfl (by decide) rfl (fun ls hl => ?_)
        refine lv_goto (tgt := 7) hx hb dX0_matesSum_32 (by decide) ?_
        exact ih u4 u2 (x4 + 1) _ _ _ hP hS (lv_sub hl [3, 4, 1, 2, 0] rfl) hf
  unfold f_X0_matesSum at hf
  refine lv_iload_n hx hb dX0_matesSum_0 rfl (lv_at hl 1 rfl) ?_
  refine lv_istore_n (lv' := [(2, .int p0), (0, .ref (ad 40)), (1, .int p0)]) hx hb dX0_matesSum_1 rfl hl (by decide) rfl (fun ls hl => ?_)
  refine lv_iload_n hx hb dX0_matesSum_2 rfl (lv_at hl 2 rfl) ?_
  refine lv_istore_n (lv' := [(3, .int p0), (2, .int p0), (0, .ref (ad 40)), (1, .int p0)]) hx hb dX0_matesSum_3 rfl hl (by decide) rfl (fun ls hl => ?_)
  refine lv_iconst (v := 1) hx hb dX0_matesSum_4 (by decide) ?_
  refine lv_istore (lv' := [(4, .int 1), (3, .int p0), (2, .int p0), (0, .ref (ad 40)), (1, .int p0)]) hx hb dX0_matesSum_5 hl (by decide) rfl (fun ls hl => ?_)
  refine L7 p0 _ (fun y6 y7 y8 H locs ls hP hS hl hf => ?_) fu p0 p0 1 _ _ _ hP hS (lv_sub hl [3, 4, 2, 1, 0] rfl) hf
  try dsimp only at hf
  refine lv_iload_n hx hb dX0_matesSum_35 rfl (lv_at hl 2 rfl) ?_
  obtain rfl := Option.some.inj hf
  exact W.iret (v := y6) hx hb hr (fun t ht hW => ⟨rfl, by rw [ht]; exact hP, hS.F ht⟩) hS.2.2 dX0_matesSum_36
def f_X0_differentMates (E : Nat → Int32) (p0 : Int32) : Option (Int32) :=
  (f_X0_mate E p0).bind (fun u1 =>
  if u1 = p0 then
    some 1
  else
    some (E 0))
set_option maxHeartbeats 4000000 in
set_option maxRecDepth 100000 in
theorem C_X0_differentMates (l : Launch) (D : va_G) (tys : List (ClassId × FieldType)) (nw : List Cond) (hn : nw.all nw_kind = true) (hnw : ∀ w ∈ nw0, w ∈ nw) {ad : Nat → Nat} (hj : ww_inj 46 ad) {cI : ClassId} {cR : ClassId} (htI : tys[0]? = some (cI, .int)) (htR : tys[1]? = some (cR, .object RX2)) {M : Fin 20 → Nat → Int32} {E : Nat → Int32} {P : Nat → Fin 20} {C : Nat → Int32} {N : Nat → Int32} {p0 : Int32} {res : Int32} (hf : f_X0_differentMates E p0 = some res) :
    Met l yX0_differentMates usX0_differentMates ({ frames := 2, cells := 0, slots := 0, locals := 57 }) (va_Pc [.ref (ad 40), .int p0] (ws_B D tys nw (ww 46 ad (cellC cI cR ad M E P C N)))) (ct_Q D (ww 46 ad (cellC cI cR ad M E P C N)) (ww_A 46 ad) (some (.int res))) 0 0 (ww_A 46 ad) := by
  refine Met.ofW (cc := cX0_differentMates) (maxL := 2) (ret := (some .int)) (by decide) rfl ?_
  intro p e s m args below meth c s₁ B hml hv
  obtain ⟨rfl, hP, hK, hN⟩ := hv
  have hx := B.exec
  have hb := B.bytes
  have hr := B.returns
  have hts := atoms_spec (ws := usX0_differentMates) B.pre
  have hown : s.vm.findClass RX0 = some m.cls := findClass_of_methodNamed B.named
  have hlocks := B.notSynchronized
  have hS : va_S (ww_A 46 ad) s.heap s.heap [] := va_S.rf
  have hl := lv_entry ([.ref (ad 40), .int p0]) (n := 2) (Nat.le_of_ble_eq_true rfl)
  rw [lg_entry_eq]
  generalize (lg_sl ([.ref (ad 40), .int p0]) ++ List.replicate (2 - (lg_sl ([.ref (ad 40), .int p0])).length) Slot.unset).toArray = ls at hl ⊢
  have hl : lv_has ls 2 [(0, .ref (ad 40)), (1, .int p0)] := hl
  unfold f_X0_differentMates at hf
  refine lv_aload_n hx hb dX0_differentMates_0 rfl (lv_at hl 0 rfl) ?_
  refine lv_iload_n hx hb dX0_differentMates_1 rfl (lv_at hl 1 rfl) ?_
  obtain ⟨u1, g2, hf⟩ := Option.bind_eq_some_iff.mp hf
  try dsimp only at hf
  refine ct_call (va_runV (As := [.int p0]) (rest := []) ⟨hx, hb, hml, hown, hts⟩ (C_X0_mate l D tys nw hn hnw hj htI htR (res := u1) g2) (cwV 1 hts (gu_V mw_35 mw_36 mw_37 mw_18 mw_29) rfl rfl rfl (by decide +kernel) ⟨Nat.le_of_ble_eq_true rfl, Nat.le_of_ble_eq_true rfl⟩) (ct_preV hn hP hK hN (ci := 0) (k := 40) rfl (by decide) rfl) rfl rfl hl.1 rfl (lv_room (Nat.le_of_ble_eq_true rfl)) dX0_differentMates_2 ⟨Nat.zero_le _, Nat.zero_le _⟩) hS (fun H locs hP hS => ?_)
  refine lv_iload_n hx hb dX0_differentMates_5 rfl (lv_at hl 1 rfl) ?_
  refine lv_icmp_ne (tgt := 13) hx hb dX0_differentMates_6 (by decide) (fun c3 => ?_) (fun c3 => ?_)
  · rw [if_neg c3] at hf
    refine lv_aload_n hx hb dX0_differentMates_13 rfl (lv_at hl 0 rfl) ?_
    refine va_get (ci := 0) (v := .int (E 0)) (C := RX0) (T := TX0) (N := 8) hx hb hts (fun w h => BW_in (in_wsX00 w h)) hown hK hP 40 cc_ext rfl 0 (by decide) (hts (.fieldLink RX0 9 "NumberFieldFactors$Extension" "degree" "I") (BW_in mw_4)) (fun _ h9 => h9) rfl dX0_differentMates_14 ?_
    obtain rfl := Option.some.inj hf
    exact W.iret (v := E 0) hx hb hr (fun t ht hW => ⟨rfl, by rw [ht]; exact hP, hS.F ht⟩) hS.2.2 dX0_differentMates_17
  · rw [if_pos c3] at hf
    refine lv_iconst (v := 1) hx hb dX0_differentMates_9 (by decide) ?_
    refine lv_goto (tgt := 17) hx hb dX0_differentMates_10 (by decide) ?_
    obtain rfl := Option.some.inj hf
    exact W.iret (v := 1) hx hb hr (fun t ht hW => ⟨rfl, by rw [ht]; exact hP, hS.F ht⟩) hS.2.2 dX0_differentMates_17
def f_X0_become (fu : Nat) (E : Nat → Int32) (p0 : Int32) (p1 : Int32) (p2 : Int32) (p3 : Int32) : Option (Int32 × (Nat → Int32)) :=
  ((
    if p0 ≤ 1 then
      some 0
    else
      some p2 : Option (Int32))).bind (fun w1 =>
  ((
    if p0 ≤ 2 then
      some 0
    else
      some p3 : Option (Int32))).bind (fun w3 =>
  if p0 ≤ 1 then
    ((
      if p0 = 1 then
        some 101
      else
        ((
          if p0 = 2 then
            some 10201
          else
            some 1030301 : Option (Int32))).bind (fun w8 =>
        some w8) : Option (Int32))).bind (fun w6 =>
    ((
      if p0 = 1 then
        some (jrem (101 - p1) 101)
      else
        some 101 : Option (Int32))).bind (fun w10 =>
    (f_X0_power fu (va_up (va_up (va_up (va_up (va_up (va_up E 0 p0) 1 w6) 2 p1) 3 w1) 4 w3) 5 w10) ((va_up (va_up (va_up (va_up (va_up (va_up E 0 p0) 1 w6) 2 p1) 3 w1) 4 w3) 5 w10) 5) 101).bind (fun u12 =>
    (f_X0_times (va_up (va_up (va_up (va_up (va_up (va_up (va_up E 0 p0) 1 w6) 2 p1) 3 w1) 4 w3) 5 w10) 6 u12) ((va_up (va_up (va_up (va_up (va_up (va_up (va_up E 0 p0) 1 w6) 2 p1) 3 w1) 4 w3) 5 w10) 6 u12) 6) ((va_up (va_up (va_up (va_up (va_up (va_up (va_up E 0 p0) 1 w6) 2 p1) 3 w1) 4 w3) 5 w10) 6 u12) 6)).bind (fun u14 =>
    some (1, va_up (va_up (va_up (va_up (va_up (va_up (va_up (va_up E 0 p0) 1 w6) 2 p1) 3 w1) 4 w3) 5 w10) 6 u12) 7 u14)))))
  else
    (f_X0_hasRoot fu p0 p1 w1 w3).bind (fun u16 =>
    if u16 = 0 then
      ((
        if p0 = 1 then
          some 101
        else
          ((
            if p0 = 2 then
              some 10201
            else
              some 1030301 : Option (Int32))).bind (fun w21 =>
          some w21) : Option (Int32))).bind (fun w19 =>
      ((
        if p0 = 1 then
          some (jrem (101 - p1) 101)
        else
          some 101 : Option (Int32))).bind (fun w23 =>
      (f_X0_power fu (va_up (va_up (va_up (va_up (va_up (va_up E 0 p0) 1 w19) 2 p1) 3 w1) 4 w3) 5 w23) ((va_up (va_up (va_up (va_up (va_up (va_up E 0 p0) 1 w19) 2 p1) 3 w1) 4 w3) 5 w23) 5) 101).bind (fun u25 =>
      (f_X0_times (va_up (va_up (va_up (va_up (va_up (va_up (va_up E 0 p0) 1 w19) 2 p1) 3 w1) 4 w3) 5 w23) 6 u25) ((va_up (va_up (va_up (va_up (va_up (va_up (va_up E 0 p0) 1 w19) 2 p1) 3 w1) 4 w3) 5 w23) 6 u25) 6) ((va_up (va_up (va_up (va_up (va_up (va_up (va_up E 0 p0) 1 w19) 2 p1) 3 w1) 4 w3) 5 w23) 6 u25) 6)).bind (fun u27 =>
      some (1, va_up (va_up (va_up (va_up (va_up (va_up (va_up (va_up E 0 p0) 1 w19) 2 p1) 3 w1) 4 w3) 5 w23) 6 u25) 7 u27)))))
    else
      some (0, E))))
set_option maxHeartbeats 4000000 in
set_option maxRecDepth 100000 in
theorem C_X0_become (l : Launch) (D : va_G) (tys : List (ClassId × FieldType)) (nw : List Cond) (hn : nw.all nw_kind = true) (hnw : ∀ w ∈ nw0, w ∈ nw) {ad : Nat → Nat} (hj : ww_inj 46 ad) {cI : ClassId} {cR : ClassId} (htI : tys[0]? = some (cI, .int)) (htR : tys[1]? = some (cR, .object RX2)) {fu : Nat} {M : Fin 20 → Nat → Int32} {E : Nat → Int32} {P : Nat → Fin 20} {C : Nat → Int32} {N : Nat → Int32} {p0 : Int32} {p1 : Int32} {p2 : Int32} {p3 : Int32} {res : Int32 × (Nat → Int32)} (hf : f_X0_become fu E p0 p1 p2 p3 = some res) :
    Met l yX0_become usX0_become ({ frames := 2, cells := 0, slots := 0, locals := 59 }) (va_Pc [.ref (ad 40), .int p0, .int p1, .int p2, .int p3] (ws_B D tys nw (ww 46 ad (cellC cI cR ad M E P C N)))) (ct_Q D (ww 46 ad (cellC cI cR ad M res.2 P C N)) (ww_A 46 ad) (some (.int res.1))) 0 0 (ww_A 46 ad) := by
  refine Met.ofW (cc := cX0_become) (maxL := 7) (ret := (some .boolean)) (by decide) rfl ?_
  intro p e s m args below meth c s₁ B hml hv
  obtain ⟨rfl, hP, hK, hN⟩ := hv
  have hx := B.exec
  have hb := B.bytes
  have hr := B.returns
  have hts := atoms_spec (ws := usX0_become) B.pre
  have hown : s.vm.findClass RX0 = some m.cls := findClass_of_methodNamed B.named
  have hlocks := B.notSynchronized
  have hS : va_S (ww_A 46 ad) s.heap s.heap [] := va_S.rf
  have hl := lv_entry ([.ref (ad 40), .int p0, .int p1, .int p2, .int p3]) (n := 7) (Nat.le_of_ble_eq_true rfl)
  rw [lg_entry_eq]
  generalize (lg_sl ([.ref (ad 40), .int p0, .int p1, .int p2, .int p3]) ++ List.replicate (7 - (lg_sl ([.ref (ad 40), .int p0, .int p1, .int p2, .int p3])).length) Slot.unset).toArray = ls at hl ⊢
  have hl : lv_has ls 7 [(0, .ref (ad 40)), (1, .int p0), (2, .int p1), (3, .int p2), (4, .int p3)] := hl
  unfold f_X0_become at hf
  refine lv_iload_n hx hb dX0_become_0 rfl (lv_at hl 1 rfl) ?_
  refine lv_iconst (v := 1) hx hb dX0_become_1 (by decide) ?_
  obtain ⟨w1, gw1, hf⟩ := Option.bind_eq_some_iff.mp hf
  try dsimp only at hf
  have hJ10_w1 : ∀ (H : Heap) (locs : List Loc) (ls : Array Slot), va_P D vwCl (ww 46 ad (cellC cI cR ad M E P C N)) H → va_S (ww_A 46 ad) s.heap H locs → lv_has ls 7 [(0, .ref (ad 40)), (1, .int p0), (2, .int p1), (3, .int p2), (4, .int p3)] → W p l e (headSpec usX0_become { frames := 2, cells := 0, slots := 0, locals := 59 }).room s m [.ref (ad 40), .int p0, .int p1, .int p2, .int p3].toArray below meth c H locs 0 0 (MQ below (ct_Q D (ww 46 ad (cellC cI cR ad M res.2 P C N)) (ww_A 46 ad) (some (.int res.1))) [.ref (ad 40), .int p0, .int p1, .int p2, .int p3].toArray s 0 0 (ww_A 46 ad)) (F0 m 10 ls [.int w1]) := by
    intro H locs ls hP hS hl
    refine lv_istore (lv' := [(5, .int w1), (0, .ref (ad 40)), (1, .int p0), (2, .int p1), (3, .int p2), (4, .int p3)]) hx hb dX0_become_10 hl (by decide) rfl (fun ls hl => ?_)
    refine lv_iload_n hx hb dX0_become_12 rfl (lv_at hl 2 rfl) ?_
    refine lv_iconst (v := 2) hx hb dX0_become_13 (by decide) ?_
    obtain ⟨w3, gw3, hf⟩ := Option.bind_eq_some_iff.mp hf
    try dsimp only at hf
    have hJ23_w3 : ∀ (H : Heap) (locs : List Loc) (ls : Array Slot), va_P D vwCl (ww 46 ad (cellC cI cR ad M E P C N)) H → va_S (ww_A 46 ad) s.heap H locs → lv_has ls 7 [(0, .ref (ad 40)), (1, .int p0), (2, .int p1), (3, .int p2), (4, .int p3), (5, .int w1)] → W p l e (headSpec usX0_become { frames := 2, cells := 0, slots := 0, locals := 59 }).room s m [.ref (ad 40), .int p0, .int p1, .int p2, .int p3].toArray below meth c H locs 0 0 (MQ below (ct_Q D (ww 46 ad (cellC cI cR ad M res.2 P C N)) (ww_A 46 ad) (some (.int res.1))) [.ref (ad 40), .int p0, .int p1, .int p2, .int p3].toArray s 0 0 (ww_A 46 ad)) (F0 m 23 ls [.int w3]) := by
      intro H locs ls hP hS hl
      refine lv_istore (lv' := [(6, .int w3), (0, .ref (ad 40)), (1, .int p0), (2, .int p1), (3, .int p2), (4, .int p3), (5, .int w1)]) hx hb dX0_become_23 hl (by decide) rfl (fun ls hl => ?_)
      refine lv_iload_n hx hb dX0_become_25 rfl (lv_at hl 2 rfl) ?_
      refine lv_iconst (v := 1) hx hb dX0_become_26 (by decide) ?_
      refine lv_icmp_le (tgt := 44) hx hb dX0_become_27 (by decide) (fun c5 => ?_) (fun c5 => ?_)
      · rw [if_pos c5] at hf
        refine lv_aload_n hx hb dX0_become_44 rfl (lv_at hl 1 rfl) ?_
        refine lv_iload_n hx hb dX0_become_45 rfl (lv_at hl 2 rfl) ?_
        refine va_put (ci := 0) (v := .int p0) (ty := .int) (C := RX0) (T := TX0) (N := 8) hx hb hts (fun w h => BW_in (in_wsX00 w h)) tyX0 tyX0_ok nmX0 hown hK hP (ww_D hj) hS 40 cc_ext rfl 0 (by decide) (hts (.fieldLink RX0 9 "NumberFieldFactors$Extension" "degree" "I") (BW_in mw_4)) (fun _ h9 => h9) rfl (by decide +kernel) rfl rfl (Nat.le_of_ble_eq_true rfl) dX0_become_46 (fun H locs hP hD hS => ?_)
        have hP := cs_E0 hP
        refine lv_aload_n hx hb dX0_become_49 rfl (lv_at hl 1 rfl) ?_
        refine lv_iload_n hx hb dX0_become_50 rfl (lv_at hl 2 rfl) ?_
        refine lv_iconst (v := 1) hx hb dX0_become_51 (by decide) ?_
        obtain ⟨w6, gw6, hf⟩ := Option.bind_eq_some_iff.mp hf
        try dsimp only at hf
        have hJ73_w6 : ∀ (H : Heap) (locs : List Loc) (ls : Array Slot), va_P D vwCl (ww 46 ad (cellC cI cR ad M (va_up E 0 p0) P C N)) H → va_S (ww_A 46 ad) s.heap H locs → lv_has ls 7 [(0, .ref (ad 40)), (1, .int p0), (2, .int p1), (3, .int p2), (4, .int p3), (5, .int w1), (6, .int w3)] → W p l e (headSpec usX0_become { frames := 2, cells := 0, slots := 0, locals := 59 }).room s m [.ref (ad 40), .int p0, .int p1, .int p2, .int p3].toArray below meth c H locs 0 0 (MQ below (ct_Q D (ww 46 ad (cellC cI cR ad M res.2 P C N)) (ww_A 46 ad) (some (.int res.1))) [.ref (ad 40), .int p0, .int p1, .int p2, .int p3].toArray s 0 0 (ww_A 46 ad)) (F0 m 73 ls [.int w6, .ref (ad 40)]) := by
          intro H locs ls hP hS hl
          refine va_put (ci := 0) (v := .int w6) (ty := .int) (C := RX0) (T := TX0) (N := 8) hx hb hts (fun w h => BW_in (in_wsX00 w h)) tyX0 tyX0_ok nmX0 hown hK hP (ww_D hj) hS 40 cc_ext rfl 1 (by decide) (hts (.fieldLink RX0 15 "NumberFieldFactors$Extension" "size" "I") (BW_in mw_5)) (fun _ h9 => h9) rfl (by decide +kernel) rfl rfl (Nat.le_of_ble_eq_true rfl) dX0_become_73 (fun H locs hP hD hS => ?_)
          have hP := cs_E1 hP
          refine lv_aload_n hx hb dX0_become_76 rfl (lv_at hl 0 rfl) ?_
          refine lv_iload_n hx hb dX0_become_77 rfl (lv_at hl 2 rfl) ?_
          refine va_put (ci := 0) (v := .int p1) (ty := .int) (C := RX0) (T := TX0) (N := 8) hx hb hts (fun w h => BW_in (in_wsX00 w h)) tyX0 tyX0_ok nmX0 hown hK hP (ww_D hj) hS 40 cc_ext rfl 2 (by decide) (hts (.fieldLink RX0 18 "NumberFieldFactors$Extension" "low0" "I") (BW_in mw_6)) (fun _ h9 => h9) rfl (by decide +kernel) rfl rfl (Nat.le_of_ble_eq_true rfl) dX0_become_78 (fun H locs hP hD hS => ?_)
          have hP := cs_E2 hP
          refine lv_aload_n hx hb dX0_become_81 rfl (lv_at hl 0 rfl) ?_
          refine lv_iload hx hb dX0_become_82 (lv_at hl 5 rfl) ?_
          refine va_put (ci := 0) (v := .int w1) (ty := .int) (C := RX0) (T := TX0) (N := 8) hx hb hts (fun w h => BW_in (in_wsX00 w h)) tyX0 tyX0_ok nmX0 hown hK hP (ww_D hj) hS 40 cc_ext rfl 3 (by decide) (hts (.fieldLink RX0 21 "NumberFieldFactors$Extension" "low1" "I") (BW_in mw_7)) (fun _ h9 => h9) rfl (by decide +kernel) rfl rfl (Nat.le_of_ble_eq_true rfl) dX0_become_84 (fun H locs hP hD hS => ?_)
          have hP := cs_E3 hP
          refine lv_aload_n hx hb dX0_become_87 rfl (lv_at hl 0 rfl) ?_
          refine lv_iload hx hb dX0_become_88 (lv_at hl 6 rfl) ?_
          refine va_put (ci := 0) (v := .int w3) (ty := .int) (C := RX0) (T := TX0) (N := 8) hx hb hts (fun w h => BW_in (in_wsX00 w h)) tyX0 tyX0_ok nmX0 hown hK hP (ww_D hj) hS 40 cc_ext rfl 4 (by decide) (hts (.fieldLink RX0 24 "NumberFieldFactors$Extension" "low2" "I") (BW_in mw_8)) (fun _ h9 => h9) rfl (by decide +kernel) rfl rfl (Nat.le_of_ble_eq_true rfl) dX0_become_90 (fun H locs hP hD hS => ?_)
          have hP := cs_E4 hP
          refine lv_aload_n hx hb dX0_become_93 rfl (lv_at hl 0 rfl) ?_
          refine lv_iload_n hx hb dX0_become_94 rfl (lv_at hl 1 rfl) ?_
          refine lv_iconst (v := 1) hx hb dX0_become_95 (by decide) ?_
          obtain ⟨w10, gw10, hf⟩ := Option.bind_eq_some_iff.mp hf
          try dsimp only at hf
          have hJ111_w10 : ∀ (H : Heap) (locs : List Loc) (ls : Array Slot), va_P D vwCl (ww 46 ad (cellC cI cR ad M (va_up (va_up (va_up (va_up (va_up E 0 p0) 1 w6) 2 p1) 3 w1) 4 w3) P C N)) H → va_S (ww_A 46 ad) s.heap H locs → lv_has ls 7 [(0, .ref (ad 40)), (1, .int p0), (2, .int p1), (3, .int p2), (4, .int p3), (5, .int w1), (6, .int w3)] → W p l e (headSpec usX0_become { frames := 2, cells := 0, slots := 0, locals := 59 }).room s m [.ref (ad 40), .int p0, .int p1, .int p2, .int p3].toArray below meth c H locs 0 0 (MQ below (ct_Q D (ww 46 ad (cellC cI cR ad M res.2 P C N)) (ww_A 46 ad) (some (.int res.1))) [.ref (ad 40), .int p0, .int p1, .int p2, .int p3].toArray s 0 0 (ww_A 46 ad)) (F0 m 111 ls [.int w10, .ref (ad 40)]) := by
            intro H locs ls hP hS hl
            refine va_put (ci := 0) (v := .int w10) (ty := .int) (C := RX0) (T := TX0) (N := 8) hx hb hts (fun w h => BW_in (in_wsX00 w h)) tyX0 tyX0_ok nmX0 hown hK hP (ww_D hj) hS 40 cc_ext rfl 5 (by decide) (hts (.fieldLink RX0 27 "NumberFieldFactors$Extension" "t" "I") (BW_in mw_9)) (fun _ h9 => h9) rfl (by decide +kernel) rfl rfl (Nat.le_of_ble_eq_true rfl) dX0_become_111 (fun H locs hP hD hS => ?_)
            have hP := cs_E5 hP
            refine lv_aload_n hx hb dX0_become_114 rfl (lv_at hl 0 rfl) ?_
            refine lv_aload_n hx hb dX0_become_115 rfl (lv_at hl 0 rfl) ?_
            refine lv_aload_n hx hb dX0_become_116 rfl (lv_at hl 0 rfl) ?_
            refine va_get (ci := 0) (v := .int ((va_up (va_up (va_up (va_up (va_up (va_up E 0 p0) 1 w6) 2 p1) 3 w1) 4 w3) 5 w10) 5)) (C := RX0) (T := TX0) (N := 8) hx hb hts (fun w h => BW_in (in_wsX00 w h)) hown hK hP 40 cc_ext rfl 5 (by decide) (hts (.fieldLink RX0 27 "NumberFieldFactors$Extension" "t" "I") (BW_in mw_9)) (fun _ h9 => h9) rfl dX0_become_117 ?_
            refine lv_bipush (v := 101) hx hb dX0_become_120 (by decide) ?_
            obtain ⟨u12, g13, hf⟩ := Option.bind_eq_some_iff.mp hf
            try dsimp only at hf
            refine ct_call (va_runV (As := [.int ((va_up (va_up (va_up (va_up (va_up (va_up E 0 p0) 1 w6) 2 p1) 3 w1) 4 w3) 5 w10) 5), .int 101]) (rest := [.ref (ad 40)]) ⟨hx, hb, hml, hown, hts⟩ (C_X0_power l D tys nw hn hnw hj htI htR (res := u12) g13) (cwV 2 hts (gu_V mw_23 mw_24 mw_25 mw_18 mw_14) rfl rfl rfl (by decide +kernel) ⟨Nat.le_of_ble_eq_true rfl, Nat.le_of_ble_eq_true rfl⟩) (ct_preV hn hP hK hN (ci := 0) (k := 40) rfl (by decide) rfl) rfl rfl hl.1 rfl (lv_room (Nat.le_of_ble_eq_true rfl)) dX0_become_122 ⟨Nat.zero_le _, Nat.zero_le _⟩) hS (fun H locs hP hS => ?_)
            refine va_put (ci := 0) (v := .int u12) (ty := .int) (C := RX0) (T := TX0) (N := 8) hx hb hts (fun w h => BW_in (in_wsX00 w h)) tyX0 tyX0_ok nmX0 hown hK hP (ww_D hj) hS 40 cc_ext rfl 6 (by decide) (hts (.fieldLink RX0 30 "NumberFieldFactors$Extension" "mateOfT" "I") (BW_in mw_10)) (fun _ h9 => h9) rfl (by decide +kernel) rfl rfl (Nat.le_of_ble_eq_true rfl) dX0_become_125 (fun H locs hP hD hS => ?_)
            have hP := cs_E6 hP
            refine lv_aload_n hx hb dX0_become_128 rfl (lv_at hl 0 rfl) ?_
            refine lv_aload_n hx hb dX0_become_129 rfl (lv_at hl 0 rfl) ?_
            refine lv_aload_n hx hb dX0_become_130 rfl (lv_at hl 0 rfl) ?_
            refine va_get (ci := 0) (v := .int ((va_up (va_up (va_up (va_up (va_up (va_up (va_up E 0 p0) 1 w6) 2 p1) 3 w1) 4 w3) 5 w10) 6 u12) 6)) (C := RX0) (T := TX0) (N := 8) hx hb hts (fun w h => BW_in (in_wsX00 w h)) hown hK hP 40 cc_ext rfl 6 (by decide) (hts (.fieldLink RX0 30 "NumberFieldFactors$Extension" "mateOfT" "I") (BW_in mw_10)) (fun _ h9 => h9) rfl dX0_become_131 ?_
            refine lv_aload_n hx hb dX0_become_134 rfl (lv_at hl 0 rfl) ?_
            refine va_get (ci := 0) (v := .int ((va_up (va_up (va_up (va_up (va_up (va_up (va_up E 0 p0) 1 w6) 2 p1) 3 w1) 4 w3) 5 w10) 6 u12) 6)) (C := RX0) (T := TX0) (N := 8) hx hb hts (fun w h => BW_in (in_wsX00 w h)) hown hK hP 40 cc_ext rfl 6 (by decide) (hts (.fieldLink RX0 30 "NumberFieldFactors$Extension" "mateOfT" "I") (BW_in mw_10)) (fun _ h9 => h9) rfl dX0_become_135 ?_
            obtain ⟨u14, g15, hf⟩ := Option.bind_eq_some_iff.mp hf
            try dsimp only at hf
            refine ct_call (va_runV (As := [.int ((va_up (va_up (va_up (va_up (va_up (va_up (va_up E 0 p0) 1 w6) 2 p1) 3 w1) 4 w3) 5 w10) 6 u12) 6), .int ((va_up (va_up (va_up (va_up (va_up (va_up (va_up E 0 p0) 1 w6) 2 p1) 3 w1) 4 w3) 5 w10) 6 u12) 6)]) (rest := [.ref (ad 40)]) ⟨hx, hb, hml, hown, hts⟩ (C_X0_times l D tys nw hn hnw hj htI htR (res := u14) g15) (cwV 2 hts (gu_V mw_15 mw_16 mw_17 mw_18 mw_13) rfl rfl rfl (by decide +kernel) ⟨Nat.le_of_ble_eq_true rfl, Nat.le_of_ble_eq_true rfl⟩) (ct_preV hn hP hK hN (ci := 0) (k := 40) rfl (by decide) rfl) rfl rfl hl.1 rfl (lv_room (Nat.le_of_ble_eq_true rfl)) dX0_become_138 ⟨Nat.zero_le _, Nat.zero_le _⟩) hS (fun H locs hP hS => ?_)
            refine va_put (ci := 0) (v := .int u14) (ty := .int) (C := RX0) (T := TX0) (N := 8) hx hb hts (fun w h => BW_in (in_wsX00 w h)) tyX0 tyX0_ok nmX0 hown hK hP (ww_D hj) hS 40 cc_ext rfl 7 (by decide) (hts (.fieldLink RX0 33 "NumberFieldFactors$Extension" "mateOfTSquared" "I") (BW_in mw_11)) (fun _ h9 => h9) rfl (by decide +kernel) rfl rfl (Nat.le_of_ble_eq_true rfl) dX0_become_141 (fun H locs hP hD hS => ?_)
            have hP := cs_E7 hP
            refine lv_iconst (v := 1) hx hb dX0_become_144 (by decide) ?_
            obtain rfl := Option.some.inj hf
            exact W.zret (v := 1) (ty := .boolean) hx hb hr (by decide) (fun t ht hW => ⟨rfl, by rw [ht]; exact hP, hS.F ht⟩) hS.2.2 dX0_become_145
          refine lv_icmp_ne (tgt := 109) hx hb dX0_become_96 (by decide) (fun c11 => ?_) (fun c11 => ?_)
          · rw [if_neg c11] at gw10
            refine lv_bipush (v := 101) hx hb dX0_become_109 (by decide) ?_
            obtain rfl := Option.some.inj gw10
            exact hJ111_w10 _ _ _ hP hS (lv_sub hl [0, 1, 2, 3, 4, 5, 6] rfl)
          · rw [if_pos c11] at gw10
            refine lv_bipush (v := 101) hx hb dX0_become_99 (by decide) ?_
            refine lv_iload_n hx hb dX0_become_101 rfl (lv_at hl 2 rfl) ?_
            refine lv_isub hx hb dX0_become_102 ?_
            refine lv_bipush (v := 101) hx hb dX0_become_103 (by decide) ?_
            refine jv_irem hx hb dX0_become_105 (by decide) ?_
            refine lv_goto (tgt := 111) hx hb dX0_become_106 (by decide) ?_
            obtain rfl := Option.some.inj gw10
            exact hJ111_w10 _ _ _ hP hS (lv_sub hl [0, 1, 2, 3, 4, 5, 6] rfl)
        refine lv_icmp_ne (tgt := 60) hx hb dX0_become_52 (by decide) (fun c7 => ?_) (fun c7 => ?_)
        · rw [if_neg c7] at gw6
          refine lv_iload_n hx hb dX0_become_60 rfl (lv_at hl 2 rfl) ?_
          refine lv_iconst (v := 2) hx hb dX0_become_61 (by decide) ?_
          obtain ⟨w8, gw8, gw6⟩ := Option.bind_eq_some_iff.mp gw6
          try dsimp only at gw6
          have hJ73_w8 : ∀ (H : Heap) (locs : List Loc) (ls : Array Slot), va_P D vwCl (ww 46 ad (cellC cI cR ad M (va_up E 0 p0) P C N)) H → va_S (ww_A 46 ad) s.heap H locs → lv_has ls 7 [(0, .ref (ad 40)), (1, .int p0), (2, .int p1), (3, .int p2), (4, .int p3), (5, .int w1), (6, .int w3)] → W p l e (headSpec usX0_become { frames := 2, cells := 0, slots := 0, locals := 59 }).room s m [.ref (ad 40), .int p0, .int p1, .int p2, .int p3].toArray below meth c H locs 0 0 (MQ below (ct_Q D (ww 46 ad (cellC cI cR ad M res.2 P C N)) (ww_A 46 ad) (some (.int res.1))) [.ref (ad 40), .int p0, .int p1, .int p2, .int p3].toArray s 0 0 (ww_A 46 ad)) (F0 m 73 ls [.int w8, .ref (ad 40)]) := by
            intro H locs ls hP hS hl
            obtain rfl := Option.some.inj gw6
            exact hJ73_w6 _ _ _ hP hS (lv_sub hl [0, 1, 2, 3, 4, 5, 6] rfl)
          refine lv_icmp_ne (tgt := 71) hx hb dX0_become_62 (by decide) (fun c9 => ?_) (fun c9 => ?_)
          · rw [if_neg c9] at gw8
            refine lv_ldc (v := 1030301) hx hb hown (hts (.constant RX0 40 (1030301)) (BW_in mw_20)) dX0_become_71 ?_
            obtain rfl := Option.some.inj gw8
            exact hJ73_w8 _ _ _ hP hS (lv_sub hl [1, 2, 3, 4, 5, 6, 0] rfl)
          · rw [if_pos c9] at gw8
            refine lv_sipush (v := 10201) hx hb dX0_become_65 (by decide) ?_
            refine lv_goto (tgt := 73) hx hb dX0_become_68 (by decide) ?_
            obtain rfl := Option.some.inj gw8
            exact hJ73_w8 _ _ _ hP hS (lv_sub hl [1, 2, 3, 4, 5, 6, 0] rfl)
        · rw [if_pos c7] at gw6
          refine lv_bipush (v := 101) hx hb dX0_become_55 (by decide) ?_
          refine lv_goto (tgt := 73) hx hb dX0_become_57 (by decide) ?_
          obtain rfl := Option.some.inj gw6
          exact hJ73_w6 _ _ _ hP hS (lv_sub hl [1, 2, 3, 4, 5, 6, 0] rfl)
      · rw [if_neg c5] at hf
        refine lv_iload_n hx hb dX0_become_30 rfl (lv_at hl 2 rfl) ?_
        refine lv_iload_n hx hb dX0_become_31 rfl (lv_at hl 3 rfl) ?_
        refine lv_iload hx hb dX0_become_32 (lv_at hl 6 rfl) ?_
        refine lv_iload hx hb dX0_become_34 (lv_at hl 0 rfl) ?_
        obtain ⟨u16, g17, hf⟩ := Option.bind_eq_some_iff.mp hf
        try dsimp only at hf
        refine ct_call (va_runS (As := [.int p0, .int p1, .int w1, .int w3]) (rest := []) ⟨hx, hb, hml, hown, hts⟩ (C_X0_hasRoot l D tys nw hn hnw hj htI htR (res := u16) g17) (cwS 4 hts (gu_S mw_21 mw_22 mw_18 mw_12) rfl rfl rfl (by decide +kernel) ⟨Nat.le_of_ble_eq_true rfl, Nat.le_of_ble_eq_true rfl⟩) (ct_preS hn hP hK hN) rfl rfl hl.1 rfl (lv_room (Nat.le_of_ble_eq_true rfl)) dX0_become_36 ⟨Nat.zero_le _, Nat.zero_le _⟩) hS (fun H locs hP hS => ?_)
        refine lv_if_eq (tgt := 44) hx hb dX0_become_39 (by decide) (fun c18 => ?_) (fun c18 => ?_)
        · rw [if_pos c18] at hf
          refine lv_aload_n hx hb dX0_become_44 rfl (lv_at hl 1 rfl) ?_
          refine lv_iload_n hx hb dX0_become_45 rfl (lv_at hl 2 rfl) ?_
          refine va_put (ci := 0) (v := .int p0) (ty := .int) (C := RX0) (T := TX0) (N := 8) hx hb hts (fun w h => BW_in (in_wsX00 w h)) tyX0 tyX0_ok nmX0 hown hK hP (ww_D hj) hS 40 cc_ext rfl 0 (by decide) (hts (.fieldLink RX0 9 "NumberFieldFactors$Extension" "degree" "I") (BW_in mw_4)) (fun _ h9 => h9) rfl (by decide +kernel) rfl rfl (Nat.le_of_ble_eq_true rfl) dX0_become_46 (fun H locs hP hD hS => ?_)
          have hP := cs_E0 hP
          refine lv_aload_n hx hb dX0_become_49 rfl (lv_at hl 1 rfl) ?_
          refine lv_iload_n hx hb dX0_become_50 rfl (lv_at hl 2 rfl) ?_
          refine lv_iconst (v := 1) hx hb dX0_become_51 (by decide) ?_
          obtain ⟨w19, gw19, hf⟩ := Option.bind_eq_some_iff.mp hf
          try dsimp only at hf
          have hJ73_w19 : ∀ (H : Heap) (locs : List Loc) (ls : Array Slot), va_P D vwCl (ww 46 ad (cellC cI cR ad M (va_up E 0 p0) P C N)) H → va_S (ww_A 46 ad) s.heap H locs → lv_has ls 7 [(0, .ref (ad 40)), (1, .int p0), (2, .int p1), (3, .int p2), (4, .int p3), (5, .int w1), (6, .int w3)] → W p l e (headSpec usX0_become { frames := 2, cells := 0, slots := 0, locals := 59 }).room s m [.ref (ad 40), .int p0, .int p1, .int p2, .int p3].toArray below meth c H locs 0 0 (MQ below (ct_Q D (ww 46 ad (cellC cI cR ad M res.2 P C N)) (ww_A 46 ad) (some (.int res.1))) [.ref (ad 40), .int p0, .int p1, .int p2, .int p3].toArray s 0 0 (ww_A 46 ad)) (F0 m 73 ls [.int w19, .ref (ad 40)]) := by
            intro H locs ls hP hS hl
            refine va_put (ci := 0) (v := .int w19) (ty := .int) (C := RX0) (T := TX0) (N := 8) hx hb hts (fun w h => BW_in (in_wsX00 w h)) tyX0 tyX0_ok nmX0 hown hK hP (ww_D hj) hS 40 cc_ext rfl 1 (by decide) (hts (.fieldLink RX0 15 "NumberFieldFactors$Extension" "size" "I") (BW_in mw_5)) (fun _ h9 => h9) rfl (by decide +kernel) rfl rfl (Nat.le_of_ble_eq_true rfl) dX0_become_73 (fun H locs hP hD hS => ?_)
            have hP := cs_E1 hP
            refine lv_aload_n hx hb dX0_become_76 rfl (lv_at hl 0 rfl) ?_
            refine lv_iload_n hx hb dX0_become_77 rfl (lv_at hl 2 rfl) ?_
            refine va_put (ci := 0) (v := .int p1) (ty := .int) (C := RX0) (T := TX0) (N := 8) hx hb hts (fun w h => BW_in (in_wsX00 w h)) tyX0 tyX0_ok nmX0 hown hK hP (ww_D hj) hS 40 cc_ext rfl 2 (by decide) (hts (.fieldLink RX0 18 "NumberFieldFactors$Extension" "low0" "I") (BW_in mw_6)) (fun _ h9 => h9) rfl (by decide +kernel) rfl rfl (Nat.le_of_ble_eq_true rfl) dX0_become_78 (fun H locs hP hD hS => ?_)
            have hP := cs_E2 hP
            refine lv_aload_n hx hb dX0_become_81 rfl (lv_at hl 0 rfl) ?_
            refine lv_iload hx hb dX0_become_82 (lv_at hl 5 rfl) ?_
            refine va_put (ci := 0) (v := .int w1) (ty := .int) (C := RX0) (T := TX0) (N := 8) hx hb hts (fun w h => BW_in (in_wsX00 w h)) tyX0 tyX0_ok nmX0 hown hK hP (ww_D hj) hS 40 cc_ext rfl 3 (by decide) (hts (.fieldLink RX0 21 "NumberFieldFactors$Extension" "low1" "I") (BW_in mw_7)) (fun _ h9 => h9) rfl (by decide +kernel) rfl rfl (Nat.le_of_ble_eq_true rfl) dX0_become_84 (fun H locs hP hD hS => ?_)
            have hP := cs_E3 hP
            refine lv_aload_n hx hb dX0_become_87 rfl (lv_at hl 0 rfl) ?_
            refine lv_iload hx hb dX0_become_88 (lv_at hl 6 rfl) ?_
            refine va_put (ci := 0) (v := .int w3) (ty := .int) (C := RX0) (T := TX0) (N := 8) hx hb hts (fun w h => BW_in (in_wsX00 w h)) tyX0 tyX0_ok nmX0 hown hK hP (ww_D hj) hS 40 cc_ext rfl 4 (by decide) (hts (.fieldLink RX0 24 "NumberFieldFactors$Extension" "low2" "I") (BW_in mw_8)) (fun _ h9 => h9) rfl (by decide +kernel) rfl rfl (Nat.le_of_ble_eq_true rfl) dX0_become_90 (fun H locs hP hD hS => ?_)
            have hP := cs_E4 hP
            refine lv_aload_n hx hb dX0_become_93 rfl (lv_at hl 0 rfl) ?_
            refine lv_iload_n hx hb dX0_become_94 rfl (lv_at hl 1 rfl) ?_
            refine lv_iconst (v := 1) hx hb dX0_become_95 (by decide) ?_
            obtain ⟨w23, gw23, hf⟩ := Option.bind_eq_some_iff.mp hf
            try dsimp only at hf
            have hJ111_w23 : ∀ (H : Heap) (locs : List Loc) (ls : Array Slot), va_P D vwCl (ww 46 ad (cellC cI cR ad M (va_up (va_up (va_up (va_up (va_up E 0 p0) 1 w19) 2 p1) 3 w1) 4 w3) P C N)) H → va_S (ww_A 46 ad) s.heap H locs → lv_has ls 7 [(0, .ref (ad 40)), (1, .int p0), (2, .int p1), (3, .int p2), (4, .int p3), (5, .int w1), (6, .int w3)] → W p l e (headSpec usX0_become { frames := 2, cells := 0, slots := 0, locals := 59 }).room s m [.ref (ad 40), .int p0, .int p1, .int p2, .int p3].toArray below meth c H locs 0 0 (MQ below (ct_Q D (ww 46 ad (cellC cI cR ad M res.2 P C N)) (ww_A 46 ad) (some (.int res.1))) [.ref (ad 40), .int p0, .int p1, .int p2, .int p3].toArray s 0 0 (ww_A 46 ad)) (F0 m 111 ls [.int w23, .ref (ad 40)]) := by
              intro H locs ls hP hS hl
              refine va_put (ci := 0) (v := .int w23) (ty := .int) (C := RX0) (T := TX0) (N := 8) hx hb hts (fun w h => BW_in (in_wsX00 w h)) tyX0 tyX0_ok nmX0 hown hK hP (ww_D hj) hS 40 cc_ext rfl 5 (by decide) (hts (.fieldLink RX0 27 "NumberFieldFactors$Extension" "t" "I") (BW_in mw_9)) (fun _ h9 => h9) rfl (by decide +kernel) rfl rfl (Nat.le_of_ble_eq_true rfl) dX0_become_111 (fun H locs hP hD hS => ?_)
              have hP := cs_E5 hP
              refine lv_aload_n hx hb dX0_become_114 rfl (lv_at hl 0 rfl) ?_
              refine lv_aload_n hx hb dX0_become_115 rfl (lv_at hl 0 rfl) ?_
              refine lv_aload_n hx hb dX0_become_116 rfl (lv_at hl 0 rfl) ?_
              refine va_get (ci := 0) (v := .int ((va_up (va_up (va_up (va_up (va_up (va_up E 0 p0) 1 w19) 2 p1) 3 w1) 4 w3) 5 w23) 5)) (C := RX0) (T := TX0) (N := 8) hx hb hts (fun w h => BW_in (in_wsX00 w h)) hown hK hP 40 cc_ext rfl 5 (by decide) (hts (.fieldLink RX0 27 "NumberFieldFactors$Extension" "t" "I") (BW_in mw_9)) (fun _ h9 => h9) rfl dX0_become_117 ?_
              refine lv_bipush (v := 101) hx hb dX0_become_120 (by decide) ?_
              obtain ⟨u25, g26, hf⟩ := Option.bind_eq_some_iff.mp hf
              try dsimp only at hf
              refine ct_call (va_runV (As := [.int ((va_up (va_up (va_up (va_up (va_up (va_up E 0 p0) 1 w19) 2 p1) 3 w1) 4 w3) 5 w23) 5), .int 101]) (rest := [.ref (ad 40)]) ⟨hx, hb, hml, hown, hts⟩ (C_X0_power l D tys nw hn hnw hj htI htR (res := u25) g26) (cwV 2 hts (gu_V mw_23 mw_24 mw_25 mw_18 mw_14) rfl rfl rfl (by decide +kernel) ⟨Nat.le_of_ble_eq_true rfl, Nat.le_of_ble_eq_true rfl⟩) (ct_preV hn hP hK hN (ci := 0) (k := 40) rfl (by decide) rfl) rfl rfl hl.1 rfl (lv_room (Nat.le_of_ble_eq_true rfl)) dX0_become_122 ⟨Nat.zero_le _, Nat.zero_le _⟩) hS (fun H locs hP hS => ?_)
              refine va_put (ci := 0) (v := .int u25) (ty := .int) (C := RX0) (T := TX0) (N := 8) hx hb hts (fun w h => BW_in (in_wsX00 w h)) tyX0 tyX0_ok nmX0 hown hK hP (ww_D hj) hS 40 cc_ext rfl 6 (by decide) (hts (.fieldLink RX0 30 "NumberFieldFactors$Extension" "mateOfT" "I") (BW_in mw_10)) (fun _ h9 => h9) rfl (by decide +kernel) rfl rfl (Nat.le_of_ble_eq_true rfl) dX0_become_125 (fun H locs hP hD hS => ?_)
              have hP := cs_E6 hP
              refine lv_aload_n hx hb dX0_become_128 rfl (lv_at hl 0 rfl) ?_
              refine lv_aload_n hx hb dX0_become_129 rfl (lv_at hl 0 rfl) ?_
              refine lv_aload_n hx hb dX0_become_130 rfl (lv_at hl 0 rfl) ?_
              refine va_get (ci := 0) (v := .int ((va_up (va_up (va_up (va_up (va_up (va_up (va_up E 0 p0) 1 w19) 2 p1) 3 w1) 4 w3) 5 w23) 6 u25) 6)) (C := RX0) (T := TX0) (N := 8) hx hb hts (fun w h => BW_in (in_wsX00 w h)) hown hK hP 40 cc_ext rfl 6 (by decide) (hts (.fieldLink RX0 30 "NumberFieldFactors$Extension" "mateOfT" "I") (BW_in mw_10)) (fun _ h9 => h9) rfl dX0_become_131 ?_
              refine lv_aload_n hx hb dX0_become_134 rfl (lv_at hl 0 rfl) ?_
              refine va_get (ci := 0) (v := .int ((va_up (va_up (va_up (va_up (va_up (va_up (va_up E 0 p0) 1 w19) 2 p1) 3 w1) 4 w3) 5 w23) 6 u25) 6)) (C := RX0) (T := TX0) (N := 8) hx hb hts (fun w h => BW_in (in_wsX00 w h)) hown hK hP 40 cc_ext rfl 6 (by decide) (hts (.fieldLink RX0 30 "NumberFieldFactors$Extension" "mateOfT" "I") (BW_in mw_10)) (fun _ h9 => h9) rfl dX0_become_135 ?_
              obtain ⟨u27, g28, hf⟩ := Option.bind_eq_some_iff.mp hf
              try dsimp only at hf
              refine ct_call (va_runV (As := [.int ((va_up (va_up (va_up (va_up (va_up (va_up (va_up E 0 p0) 1 w19) 2 p1) 3 w1) 4 w3) 5 w23) 6 u25) 6), .int ((va_up (va_up (va_up (va_up (va_up (va_up (va_up E 0 p0) 1 w19) 2 p1) 3 w1) 4 w3) 5 w23) 6 u25) 6)]) (rest := [.ref (ad 40)]) ⟨hx, hb, hml, hown, hts⟩ (C_X0_times l D tys nw hn hnw hj htI htR (res := u27) g28) (cwV 2 hts (gu_V mw_15 mw_16 mw_17 mw_18 mw_13) rfl rfl rfl (by decide +kernel) ⟨Nat.le_of_ble_eq_true rfl, Nat.le_of_ble_eq_true rfl⟩) (ct_preV hn hP hK hN (ci := 0) (k := 40) rfl (by decide) rfl) rfl rfl hl.1 rfl (lv_room (Nat.le_of_ble_eq_true rfl)) dX0_become_138 ⟨Nat.zero_le _, Nat.zero_le _⟩) hS (fun H locs hP hS => ?_)
              refine va_put (ci := 0) (v := .int u27) (ty := .int) (C := RX0) (T := TX0) (N := 8) hx hb hts (fun w h => BW_in (in_wsX00 w h)) tyX0 tyX0_ok nmX0 hown hK hP (ww_D hj) hS 40 cc_ext rfl 7 (by decide) (hts (.fieldLink RX0 33 "NumberFieldFactors$Extension" "mateOfTSquared" "I") (BW_in mw_11)) (fun _ h9 => h9) rfl (by decide +kernel) rfl rfl (Nat.le_of_ble_eq_true rfl) dX0_become_141 (fun H locs hP hD hS => ?_)
              have hP := cs_E7 hP
              refine lv_iconst (v := 1) hx hb dX0_become_144 (by decide) ?_
              obtain rfl := Option.some.inj hf
              exact W.zret (v := 1) (ty := .boolean) hx hb hr (by decide) (fun t ht hW => ⟨rfl, by rw [ht]; exact hP, hS.F ht⟩) hS.2.2 dX0_become_145
            refine lv_icmp_ne (tgt := 109) hx hb dX0_become_96 (by decide) (fun c24 => ?_) (fun c24 => ?_)
            · rw [if_neg c24] at gw23
              refine lv_bipush (v := 101) hx hb dX0_become_109 (by decide) ?_
              obtain rfl := Option.some.inj gw23
              exact hJ111_w23 _ _ _ hP hS (lv_sub hl [0, 1, 2, 3, 4, 5, 6] rfl)
            · rw [if_pos c24] at gw23
              refine lv_bipush (v := 101) hx hb dX0_become_99 (by decide) ?_
              refine lv_iload_n hx hb dX0_become_101 rfl (lv_at hl 2 rfl) ?_
              refine lv_isub hx hb dX0_become_102 ?_
              refine lv_bipush (v := 101) hx hb dX0_become_103 (by decide) ?_
              refine jv_irem hx hb dX0_become_105 (by decide) ?_
              refine lv_goto (tgt := 111) hx hb dX0_become_106 (by decide) ?_
              obtain rfl := Option.some.inj gw23
              exact hJ111_w23 _ _ _ hP hS (lv_sub hl [0, 1, 2, 3, 4, 5, 6] rfl)
          refine lv_icmp_ne (tgt := 60) hx hb dX0_become_52 (by decide) (fun c20 => ?_) (fun c20 => ?_)
          · rw [if_neg c20] at gw19
            refine lv_iload_n hx hb dX0_become_60 rfl (lv_at hl 2 rfl) ?_
            refine lv_iconst (v := 2) hx hb dX0_become_61 (by decide) ?_
            obtain ⟨w21, gw21, gw19⟩ := Option.bind_eq_some_iff.mp gw19
            try dsimp only at gw19
            have hJ73_w21 : ∀ (H : Heap) (locs : List Loc) (ls : Array Slot), va_P D vwCl (ww 46 ad (cellC cI cR ad M (va_up E 0 p0) P C N)) H → va_S (ww_A 46 ad) s.heap H locs → lv_has ls 7 [(0, .ref (ad 40)), (1, .int p0), (2, .int p1), (3, .int p2), (4, .int p3), (5, .int w1), (6, .int w3)] → W p l e (headSpec usX0_become { frames := 2, cells := 0, slots := 0, locals := 59 }).room s m [.ref (ad 40), .int p0, .int p1, .int p2, .int p3].toArray below meth c H locs 0 0 (MQ below (ct_Q D (ww 46 ad (cellC cI cR ad M res.2 P C N)) (ww_A 46 ad) (some (.int res.1))) [.ref (ad 40), .int p0, .int p1, .int p2, .int p3].toArray s 0 0 (ww_A 46 ad)) (F0 m 73 ls [.int w21, .ref (ad 40)]) := by
              intro H locs ls hP hS hl
              obtain rfl := Option.some.inj gw19
              exact hJ73_w19 _ _ _ hP hS (lv_sub hl [0, 1, 2, 3, 4, 5, 6] rfl)
            refine lv_icmp_ne (tgt := 71) hx hb dX0_become_62 (by decide) (fun c22 => ?_) (fun c22 => ?_)
            · rw [if_neg c22] at gw21
              refine lv_ldc (v := 1030301) hx hb hown (hts (.constant RX0 40 (1030301)) (BW_in mw_20)) dX0_become_71 ?_
              obtain rfl := Option.some.inj gw21
              exact hJ73_w21 _ _ _ hP hS (lv_sub hl [1, 2, 3, 4, 5, 6, 0] rfl)
            · rw [if_pos c22] at gw21
              refine lv_sipush (v := 10201) hx hb dX0_become_65 (by decide) ?_
              refine lv_goto (tgt := 73) hx hb dX0_become_68 (by decide) ?_
              obtain rfl := Option.some.inj gw21
              exact hJ73_w21 _ _ _ hP hS (lv_sub hl [1, 2, 3, 4, 5, 6, 0] rfl)
          · rw [if_pos c20] at gw19
            refine lv_bipush (v := 101) hx hb dX0_become_55 (by decide) ?_
            refine lv_goto (tgt := 73) hx hb dX0_become_57 (by decide) ?_
            obtain rfl := Option.some.inj gw19
            exact hJ73_w19 _ _ _ hP hS (lv_sub hl [1, 2, 3, 4, 5, 6, 0] rfl)
        · rw [if_neg c18] at hf
          refine lv_iconst (v := 0) hx hb dX0_become_42 (by decide) ?_
          obtain rfl := Option.some.inj hf
          exact W.zret (v := 0) (ty := .boolean) hx hb hr (by decide) (fun t ht hW => ⟨rfl, by rw [ht]; exact hP, hS.F ht⟩) hS.2.2 dX0_become_43
    refine lv_icmp_le (tgt := 22) hx hb dX0_become_14 (by decide) (fun c4 => ?_) (fun c4 => ?_)
    · rw [if_pos c4] at gw3
      refine lv_iconst (v := 0) hx hb dX0_become_22 (by decide) ?_
      obtain rfl := Option.some.inj gw3
      exact hJ23_w3 _ _ _ hP hS (lv_sub hl [1, 2, 3, 4, 5, 0] rfl)
    · rw [if_neg c4] at gw3
      refine lv_iload hx hb dX0_become_17 (lv_at hl 5 rfl) ?_
      refine lv_goto (tgt := 23) hx hb dX0_become_19 (by decide) ?_
      obtain rfl := Option.some.inj gw3
      exact hJ23_w3 _ _ _ hP hS (lv_sub hl [1, 2, 3, 4, 5, 0] rfl)
  refine lv_icmp_le (tgt := 9) hx hb dX0_become_2 (by decide) (fun c2 => ?_) (fun c2 => ?_)
  · rw [if_pos c2] at gw1
    refine lv_iconst (v := 0) hx hb dX0_become_9 (by decide) ?_
    obtain rfl := Option.some.inj gw1
    exact hJ10_w1 _ _ _ hP hS (lv_sub hl [0, 1, 2, 3, 4] rfl)
  · rw [if_neg c2] at gw1
    refine lv_iload_n hx hb dX0_become_5 rfl (lv_at hl 3 rfl) ?_
    refine lv_goto (tgt := 10) hx hb dX0_become_6 (by decide) ?_
    obtain rfl := Option.some.inj gw1
    exact hJ10_w1 _ _ _ hP hS (lv_sub hl [0, 1, 2, 3, 4] rfl)
