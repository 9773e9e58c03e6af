def f_X0_hasRoot_l3 (k3 : Int32 → Option (Int32)) (fu : Nat) (x0 : Int32) (x1 : Int32) (x2 : Int32) (x3 : Int32) : Nat → Int32 → Option (Int32)
  | 0, _ => none
  | n + 1, x4 =>
    if 101 ≤ x4 then
      k3 x4
    else
      if x0 = 2 then
        if (jrem (((jrem ((1 * x4) + x2) 101) * x4) + x1) 101) = 0 then
          some 1
        else
          f_X0_hasRoot_l3 k3 fu x0 x1 x2 x3 n (x4 + 1)
      else
        nm (jrem (x4 + x3) 101) (fun v3 =>
        if (jrem (((jrem ((v3 * x4) + x2) 101) * x4) + x1) 101) = 0 then
          some 1
        else
          f_X0_hasRoot_l3 k3 fu x0 x1 x2 x3 n (x4 + 1))
def f_X0_hasRoot (fu : Nat) (p0 : Int32) (p1 : Int32) (p2 : Int32) (p3 : Int32) : Option (Int32) :=
  f_X0_hasRoot_l3 (fun y6 =>
    some 0) fu p0 p1 p2 p3 fu 0
set_option maxHeartbeats 4000000 in
set_option maxRecDepth 100000 in
theorem C_X0_hasRoot (l : Launch) (D : va_G) (tys : List (ClassId × FieldType)) (nw : List Cond) (hn : nw.all nw_kind = true) (hnw : ∀ w ∈ nw0, w ∈ nw) {ad : Nat → Nat} (hj : ww_inj 46 ad) {cI : ClassId} {cR : ClassId} (htI : tys[0]? = some (cI, .int)) (htR : tys[1]? = some (cR, .object RX2)) {fu : Nat} {M : Fin 20 → Nat → Int32} {E : Nat → Int32} {P : Nat → Fin 20} {C : Nat → Int32} {N : Nat → Int32} {p0 : Int32} {p1 : Int32} {p2 : Int32} {p3 : Int32} {res : Int32} (hf : f_X0_hasRoot fu p0 p1 p2 p3 = some res) :
    Met l yX0_hasRoot wsX0_hasRoot ({ frames := 0, cells := 0, slots := 0, locals := 0 }) (va_Pc [.int p0, .int p1, .int p2, .int p3] (ws_B D tys nw (ww 46 ad (cellC cI cR ad M E P C N)))) (ct_Q D (ww 46 ad (cellC cI cR ad M E P C N)) (ww_A 46 ad) (some (.int res))) 0 0 (ww_A 46 ad) := by
  refine Met.ofW (cc := cX0_hasRoot) (maxL := 6) (ret := (some .boolean)) (by decide) rfl ?_
  intro p e s m args below meth c s₁ B hml hv
  obtain ⟨rfl, hP, hK, hN⟩ := hv
  have hx := B.exec
  have hb := B.bytes
  have hr := B.returns
  have hts := atoms_spec (ws := wsX0_hasRoot) B.pre
  have hown : s.vm.findClass RX0 = some m.cls := findClass_of_methodNamed B.named
  have hlocks := B.notSynchronized
  have hS : va_S (ww_A 46 ad) s.heap s.heap [] := va_S.rf
  have hl := lv_entry ([.int p0, .int p1, .int p2, .int p3]) (n := 6) (Nat.le_of_ble_eq_true rfl)
  rw [lg_entry_eq]
  generalize (lg_sl ([.int p0, .int p1, .int p2, .int p3]) ++ List.replicate (6 - (lg_sl ([.int p0, .int p1, .int p2, .int p3])).length) Slot.unset).toArray = ls at hl ⊢
  have hl : lv_has ls 6 [(0, .int p0), (1, .int p1), (2, .int p2), (3, .int p3)] := hl
  have L3 : ∀ (x0 : Int32) (x1 : Int32) (x2 : Int32) (x3 : Int32) (k3 : Int32 → Option (Int32)), (∀ (x4 : Int32) (H : Heap) (locs : List Loc) (ls : Array Slot), va_P D vwCl (ww 46 ad (cellC cI cR ad M E P C N)) H → va_S (ww_A 46 ad) s.heap H locs → lv_has ls 6 [(0, .int x0), (1, .int x1), (2, .int x2), (3, .int x3), (4, .int x4)] →  k3 x4 = some res → W p l e (headSpec wsX0_hasRoot { frames := 0, cells := 0, slots := 0, locals := 0 }).room s m [.int p0, .int p1, .int p2, .int p3].toArray below meth c H locs 0 0 (MQ below (ct_Q D (ww 46 ad (cellC cI cR ad M E P C N)) (ww_A 46 ad) (some (.int res))) [.int p0, .int p1, .int p2, .int p3].toArray s 0 0 (ww_A 46 ad)) (F0 m 57 ls [])) → ∀ (n : Nat) (x4 : Int32) (H : Heap) (locs : List Loc) (ls : Array Slot), va_P D vwCl (ww 46 ad (cellC cI cR ad M E P C N)) H → va_S (ww_A 46 ad) s.heap H locs → lv_has ls 6 [(0, .int x0), (1, .int x1), (2, .int x2), (3, .int x3), (4, .int x4)] →  f_X0_hasRoot_l3 k3 fu x0 x1 x2 x3 n x4 = some res → W p l e (headSpec wsX0_hasRoot { frames := 0, cells := 0, slots := 0, locals := 0 }).room s m [.int p0, .int p1, .int p2, .int p3].toArray below meth c H locs 0 0 (MQ below (ct_Q D (ww 46 ad (cellC cI cR ad M E P C N)) (ww_A 46 ad) (some (.int res))) [.int p0, .int p1, .int p2, .int p3].toArray s 0 0 (ww_A 46 ad)) (F0 m 3 ls []) := by
    intro x0 x1 x2 x3 k3 hk_3 n
    induction n with
    | zero => intro x4 H locs ls hP hS hl hf; rw [f_X0_hasRoot_l3] at hf; cases hf
    | succ n ih =>
      intro x4 H locs ls hP hS hl hf
      rw [f_X0_hasRoot_l3] at hf
      refine lv_iload hx hb dX0_hasRoot_3 (lv_at hl 4 rfl) ?_
      refine lv_bipush (v := 101) hx hb dX0_hasRoot_5 (by decide) ?_
      refine lv_icmp_ge (tgt := 57) hx hb dX0_hasRoot_7 (by decide) (fun c1 => ?_) (fun c1 => ?_)
      · rw [if_pos c1] at hf
        exact hk_3 x4 _ _ _ hP hS (lv_sub hl [0, 1, 2, 3, 4] rfl) hf
      · rw [if_neg c1] at hf
        refine lv_iload_n hx hb dX0_hasRoot_10 rfl (lv_at hl 0 rfl) ?_
        refine lv_iconst (v := 2) hx hb dX0_hasRoot_11 (by decide) ?_
        refine lv_icmp_ne (tgt := 19) hx hb dX0_hasRoot_12 (by decide) (fun c2 => ?_) (fun c2 => ?_)
        · rw [if_neg c2] at hf
          refine lv_iload hx hb dX0_hasRoot_19 (lv_at hl 4 rfl) ?_
          refine lv_iload_n hx hb dX0_hasRoot_21 rfl (lv_at hl 3 rfl) ?_
          refine lv_iadd hx hb dX0_hasRoot_22 ?_
          refine lv_bipush (v := 101) hx hb dX0_hasRoot_23 (by decide) ?_
          refine jv_irem hx hb dX0_hasRoot_25 (by decide) ?_
          obtain ⟨v3, ev3, hf⟩ := nm_elim hf
          try dsimp only at hf
          refine tp_I ev3 ?_
          refine lv_istore (lv' := [(5, .int v3), (0, .int x0), (1, .int x1), (2, .int x2), (3, .int x3), (4, .int x4)]) hx hb dX0_hasRoot_26 hl (by decide) rfl (fun ls hl => ?_)
          refine lv_iload hx hb dX0_hasRoot_28 (lv_at hl 0 rfl) ?_
          refine lv_iload hx hb dX0_hasRoot_30 (lv_at hl 5 rfl) ?_
          refine lv_imul hx hb dX0_hasRoot_32 ?_
          refine lv_iload_n hx hb dX0_hasRoot_33 rfl (lv_at hl 3 rfl) ?_
          refine lv_iadd hx hb dX0_hasRoot_34 ?_
          refine lv_bipush (v := 101) hx hb dX0_hasRoot_35 (by decide) ?_
          refine jv_irem hx hb dX0_hasRoot_37 (by decide) ?_
          refine lv_iload hx hb dX0_hasRoot_38 (lv_at hl 5 rfl) ?_
          refine lv_imul hx hb dX0_hasRoot_40 ?_
          refine lv_iload_n hx hb dX0_hasRoot_41 rfl (lv_at hl 2 rfl) ?_
          refine lv_iadd hx hb dX0_hasRoot_42 ?_
          refine lv_bipush (v := 101) hx hb dX0_hasRoot_43 (by decide) ?_
          refine jv_irem hx hb dX0_hasRoot_45 (by decide) ?_
          refine lv_if_ne (tgt := 51) hx hb dX0_hasRoot_46 (by decide) (fun c4 => ?_) (fun c4 => ?_)
          · rw [if_neg c4] at hf
            refine lv_iinc (v := x4 + 1) (lv' := [(4, .int (x4 + 1)), (5, .int v3), (0, .int x0), (1, .int x1), (2, .int x2), (3, .int x3)]) hx hb dX0_hasRoot_51 hl (k := 5) rfl rfl (by decide) rfl (fun ls hl => ?_)
            refine lv_goto (tgt := 3) hx hb dX0_hasRoot_54 (by decide) ?_
            exact ih (x4 + 1) _ _ _ hP hS (lv_sub hl [2, 3, 4, 5, 0] rfl) hf
          · rw [if_pos c4] at hf
            refine lv_iconst (v := 1) hx hb dX0_hasRoot_49 (by decide) ?_
            obtain rfl := Option.some.inj hf
            exact W.zret (v := 1) (ty := .boolean) hx hb hr (by decide) (fun t ht hW => ⟨rfl, by rw [ht]; exact hP, hS.F ht⟩) hS.2.2 dX0_hasRoot_50
        · rw [if_pos c2] at hf
          refine lv_iconst (v := 1) hx hb dX0_hasRoot_15 (by decide) ?_
          refine lv_goto (tgt := 26) hx hb dX0_hasRoot_16 (by decide) ?_
          refine lv_istore (lv' := [(5, .int 1), (0, .int x0), (1, .int x1), (2, .int x2), (3, .int x3), (4, .int x4)]) hx hb dX0_hasRoot_26 hl (by decide) rfl (fun ls hl => ?_)
          refine lv_iload hx hb dX0_hasRoot_28 (lv_at hl 0 rfl) ?_
          refine lv_iload hx hb dX0_hasRoot_30 (lv_at hl 5 rfl) ?_
          refine lv_imul hx hb dX0_hasRoot_32 ?_
          refine lv_iload_n hx hb dX0_hasRoot_33 rfl (lv_at hl 3 rfl) ?_
          refine lv_iadd hx hb dX0_hasRoot_34 ?_
          refine lv_bipush (v := 101) hx hb dX0_hasRoot_35 (by decide) ?_
          refine jv_irem hx hb dX0_hasRoot_37 (by decide) ?_
          refine lv_iload hx hb dX0_hasRoot_38 (lv_at hl 5 rfl) ?_
          refine lv_imul hx hb dX0_hasRoot_40 ?_
          refine lv_iload_n hx hb dX0_hasRoot_41 rfl (lv_at hl 2 rfl) ?_
          refine lv_iadd hx hb dX0_hasRoot_42 ?_
          refine lv_bipush (v := 101) hx hb dX0_hasRoot_43 (by decide) ?_
          refine jv_irem hx hb dX0_hasRoot_45 (by decide) ?_
          refine lv_if_ne (tgt := 51) hx hb dX0_hasRoot_46 (by decide) (fun c5 => ?_) (fun c5 => ?_)
          · rw [if_neg c5] at hf
            refine lv_iinc (v := x4 + 1) (lv' := [(4, .int (x4 + 1)), (5, .int 1), (0, .int x0), (1, .int x1), (2, .int x2), (3, .int x3)]) hx hb dX0_hasRoot_51 hl (k := 5) rfl rfl (by decide) rfl (fun ls hl => ?_)
            refine lv_goto (tgt := 3) hx hb dX0_hasRoot_54 (by decide) ?_
            exact ih (x4 + 1) _ _ _ hP hS (lv_sub hl [2, 3, 4, 5, 0] rfl) hf
          · rw [if_pos c5] at hf
            refine lv_iconst (v := 1) hx hb dX0_hasRoot_49 (by decide) ?_
            obtain rfl := Option.some.inj hf
            exact W.zret (v := 1) (ty := .boolean) hx hb hr (by decide) (fun t ht hW => ⟨rfl, by rw [ht]; exact hP, hS.F ht⟩) hS.2.2 dX0_hasRoot_50
  unfold f_X0_hasRoot at hf
  refine lv_iconst (v := 0) hx hb dX0_hasRoot_0 (by decide) ?_
  refine lv_istore (lv' := [(4, .int 0), (0, .int p0), (1, .int p1), (2, .int p2), (3, .int p3)]) hx hb dX0_hasRoot_1 hl (by decide) rfl (fun ls hl => ?_)
  refine L3 p0 p1 p2 p3 _ (fun y6 H locs ls hP hS hl hf => ?_) fu 0 _ _ _ hP hS (lv_sub hl [1, 2, 3, 4, 0] rfl) hf
  try dsimp only at hf
  refine lv_iconst (v := 0) hx hb dX0_hasRoot_57 (by decide) ?_
  obtain rfl := Option.some.inj hf
  exact W.zret (v := 0) (ty := .boolean) hx hb hr (by decide) (fun t ht hW => ⟨rfl, by rw [ht]; exact hP, hS.F ht⟩) hS.2.2 dX0_hasRoot_58
def f_X0_modulusAt (E : Nat → Int32) (p0 : Int32) : Option (Int32) :=
  if p0 = (E 0) then
    some 1
  else
    if p0 = 0 then
      some (E 2)
    else
    if p0 = 1 then
      some (E 3)
    else
    if p0 = 2 then
      some (E 4)
    else
    some 0
set_option maxHeartbeats 4000000 in
set_option maxRecDepth 100000 in
theorem C_X0_modulusAt (l : Launch) (D : va_G) (tys : List (ClassId × FieldType)) (nw : List Cond) (hn : nw.all nw_kind = true) (hnw : ∀ w ∈ nw0, w ∈ nw) {ad : Nat → Nat} (hj : ww_inj 46 ad) {cI : ClassId} {cR : ClassId} (htI : tys[0]? = some (cI, .int)) (htR : tys[1]? = some (cR, .object RX2)) {M : Fin 20 → Nat → Int32} {E : Nat → Int32} {P : Nat → Fin 20} {C : Nat → Int32} {N : Nat → Int32} {p0 : Int32} {res : Int32} (hf : f_X0_modulusAt E p0 = some res) :
    Met l yX0_modulusAt wsX0_modulusAt ({ frames := 0, cells := 0, slots := 0, locals := 0 }) (va_Pc [.ref (ad 40), .int p0] (ws_B D tys nw (ww 46 ad (cellC cI cR ad M E P C N)))) (ct_Q D (ww 46 ad (cellC cI cR ad M E P C N)) (ww_A 46 ad) (some (.int res))) 0 0 (ww_A 46 ad) := by
  refine Met.ofW (cc := cX0_modulusAt) (maxL := 2) (ret := (some .int)) (by decide) rfl ?_
  intro p e s m args below meth c s₁ B hml hv
  obtain ⟨rfl, hP, hK, hN⟩ := hv
  have hx := B.exec
  have hb := B.bytes
  have hr := B.returns
  have hts := atoms_spec (ws := wsX0_modulusAt) B.pre
  have hown : s.vm.findClass RX0 = some m.cls := findClass_of_methodNamed B.named
  have hlocks := B.notSynchronized
  have hS : va_S (ww_A 46 ad) s.heap s.heap [] := va_S.rf
  have hl := lv_entry ([.ref (ad 40), .int p0]) (n := 2) (Nat.le_of_ble_eq_true rfl)
  rw [lg_entry_eq]
  generalize (lg_sl ([.ref (ad 40), .int p0]) ++ List.replicate (2 - (lg_sl ([.ref (ad 40), .int p0])).length) Slot.unset).toArray = ls at hl ⊢
  have hl : lv_has ls 2 [(0, .ref (ad 40)), (1, .int p0)] := hl
  unfold f_X0_modulusAt at hf
  refine lv_iload_n hx hb dX0_modulusAt_0 rfl (lv_at hl 1 rfl) ?_
  refine lv_aload_n hx hb dX0_modulusAt_1 rfl (lv_at hl 0 rfl) ?_
  refine va_get (ci := 0) (v := .int (E 0)) (C := RX0) (T := TX0) (N := 8) hx hb hts (by decide +kernel) hown hK hP 40 cc_ext rfl 0 (by decide) (hts (.fieldLink RX0 9 "NumberFieldFactors$Extension" "degree" "I") (by decide +kernel)) (fun _ h9 => h9) rfl dX0_modulusAt_2 ?_
  refine lv_icmp_ne (tgt := 10) hx hb dX0_modulusAt_5 (by decide) (fun c1 => ?_) (fun c1 => ?_)
  · rw [if_neg c1] at hf
    refine lv_iload_n hx hb dX0_modulusAt_10 rfl (lv_at hl 1 rfl) ?_
    by_cases c2 : p0 = 0
    · rw [if_pos c2] at hf
      refine lv_tableIn (off := 25) (tgt := 36) hx hb dX0_modulusAt_11 (by rw [c2]; decide) (by rw [c2]; decide) (by rw [c2]; rfl) (by decide) ?_
      refine lv_aload_n hx hb dX0_modulusAt_36 rfl (lv_at hl 0 rfl) ?_
      refine va_get (ci := 0) (v := .int (E 2)) (C := RX0) (T := TX0) (N := 8) hx hb hts (by decide +kernel) hown hK hP 40 cc_ext rfl 2 (by decide) (hts (.fieldLink RX0 18 "NumberFieldFactors$Extension" "low0" "I") (by decide +kernel)) (fun _ h9 => h9) rfl dX0_modulusAt_37 ?_
      obtain rfl := Option.some.inj hf
      exact W.iret (v := E 2) hx hb hr (fun t ht hW => ⟨rfl, by rw [ht]; exact hP, hS.F ht⟩) hS.2.2 dX0_modulusAt_40
    rw [if_neg c2] at hf
    by_cases c3 : p0 = 1
    · rw [if_pos c3] at hf
      refine lv_tableIn (off := 30) (tgt := 41) hx hb dX0_modulusAt_11 (by rw [c3]; decide) (by rw [c3]; decide) (by rw [c3]; rfl) (by decide) ?_
      refine lv_aload_n hx hb dX0_modulusAt_41 rfl (lv_at hl 0 rfl) ?_
      refine va_get (ci := 0) (v := .int (E 3)) (C := RX0) (T := TX0) (N := 8) hx hb hts (by decide +kernel) hown hK hP 40 cc_ext rfl 3 (by decide) (hts (.fieldLink RX0 21 "NumberFieldFactors$Extension" "low1" "I") (by decide +kernel)) (fun _ h9 => h9) rfl dX0_modulusAt_42 ?_
      obtain rfl := Option.some.inj hf
      exact W.iret (v := E 3) hx hb hr (fun t ht hW => ⟨rfl, by rw [ht]; exact hP, hS.F ht⟩) hS.2.2 dX0_modulusAt_45
    rw [if_neg c3] at hf
    by_cases c4 : p0 = 2
    · rw [if_pos c4] at hf
      refine lv_tableIn (off := 35) (tgt := 46) hx hb dX0_modulusAt_11 (by rw [c4]; decide) (by rw [c4]; decide) (by rw [c4]; rfl) (by decide) ?_
      refine lv_aload_n hx hb dX0_modulusAt_46 rfl (lv_at hl 0 rfl) ?_
      refine va_get (ci := 0) (v := .int (E 4)) (C := RX0) (T := TX0) (N := 8) hx hb hts (by decide +kernel) hown hK hP 40 cc_ext rfl 4 (by decide) (hts (.fieldLink RX0 24 "NumberFieldFactors$Extension" "low2" "I") (by decide +kernel)) (fun _ h9 => h9) rfl dX0_modulusAt_47 ?_
      obtain rfl := Option.some.inj hf
      exact W.iret (v := E 4) hx hb hr (fun t ht hW => ⟨rfl, by rw [ht]; exact hP, hS.F ht⟩) hS.2.2 dX0_modulusAt_50
    rw [if_neg c4] at hf
    refine lv_tableOut (tgt := 51) hx hb dX0_modulusAt_11 (by have ec2 : (p0).toInt ≠ 0 := fun h => c2 (Int32.toInt_inj.mp (h.trans (by decide))); have ec3 : (p0).toInt ≠ 1 := fun h => c3 (Int32.toInt_inj.mp (h.trans (by decide))); have ec4 : (p0).toInt ≠ 2 := fun h => c4 (Int32.toInt_inj.mp (h.trans (by decide))); omega) (by decide) ?_
    refine lv_iconst (v := 0) hx hb dX0_modulusAt_51 (by decide) ?_
    obtain rfl := Option.some.inj hf
    exact W.iret (v := 0) hx hb hr (fun t ht hW => ⟨rfl, by rw [ht]; exact hP, hS.F ht⟩) hS.2.2 dX0_modulusAt_52
  · rw [if_pos c1] at hf
    refine lv_iconst (v := 1) hx hb dX0_modulusAt_8 (by decide) ?_
    obtain rfl := Option.some.inj hf
    exact W.iret (v := 1) hx hb hr (fun t ht hW => ⟨rfl, by rw [ht]; exact hP, hS.F ht⟩) hS.2.2 dX0_modulusAt_9
def f_X0_plus (p0 : Int32) (p1 : Int32) : Option (Int32) :=
  nm (jrem ((jrem p0 101) + (jrem p1 101)) 101) (fun v1 =>
  nm (jrem ((jrem (p0 / 101) 101) + (jrem (p1 / 101) 101)) 101) (fun v2 =>
  nm (jrem ((p0 / 10201) + (p1 / 10201)) 101) (fun v3 =>
  some ((v1 + (101 * v2)) + (10201 * v3)))))
set_option maxHeartbeats 4000000 in
set_option maxRecDepth 100000 in
theorem C_X0_plus (l : Launch) (D : va_G) (tys : List (ClassId × FieldType)) (nw : List Cond) (hn : nw.all nw_kind = true) (hnw : ∀ w ∈ nw0, w ∈ nw) {ad : Nat → Nat} (hj : ww_inj 46 ad) {cI : ClassId} {cR : ClassId} (htI : tys[0]? = some (cI, .int)) (htR : tys[1]? = some (cR, .object RX2)) {M : Fin 20 → Nat → Int32} {E : Nat → Int32} {P : Nat → Fin 20} {C : Nat → Int32} {N : Nat → Int32} {p0 : Int32} {p1 : Int32} {res : Int32} (hf : f_X0_plus p0 p1 = some res) :
    Met l yX0_plus wsX0_plus ({ frames := 0, cells := 0, slots := 0, locals := 0 }) (va_Pc [.ref (ad 40), .int p0, .int p1] (ws_B D tys nw (ww 46 ad (cellC cI cR ad M E P C N)))) (ct_Q D (ww 46 ad (cellC cI cR ad M E P C N)) (ww_A 46 ad) (some (.int res))) 0 0 (ww_A 46 ad) := by
  refine Met.ofW (cc := cX0_plus) (maxL := 6) (ret := (some .int)) (by decide) rfl ?_
  intro p e s m args below meth c s₁ B hml hv
  obtain ⟨rfl, hP, hK, hN⟩ := hv
  have hx := B.exec
  have hb := B.bytes
  have hr := B.returns
  have hts := atoms_spec (ws := wsX0_plus) B.pre
  have hown : s.vm.findClass RX0 = some m.cls := findClass_of_methodNamed B.named
  have hlocks := B.notSynchronized
  have hS : va_S (ww_A 46 ad) s.heap s.heap [] := va_S.rf
  have hl := lv_entry ([.ref (ad 40), .int p0, .int p1]) (n := 6) (Nat.le_of_ble_eq_true rfl)
  rw [lg_entry_eq]
  generalize (lg_sl ([.ref (ad 40), .int p0, .int p1]) ++ List.replicate (6 - (lg_sl ([.ref (ad 40), .int p0, .int p1])).length) Slot.unset).toArray = ls at hl ⊢
  have hl : lv_has ls 6 [(0, .ref (ad 40)), (1, .int p0), (2, .int p1)] := hl
  unfold f_X0_plus at hf
  refine lv_iload_n hx hb dX0_plus_0 rfl (lv_at hl 1 rfl) ?_
  refine lv_bipush (v := 101) hx hb dX0_plus_1 (by decide) ?_
  refine jv_irem hx hb dX0_plus_3 (by decide) ?_
  refine lv_iload_n hx hb dX0_plus_4 rfl (lv_at hl 2 rfl) ?_
  refine lv_bipush (v := 101) hx hb dX0_plus_5 (by decide) ?_
  refine jv_irem hx hb dX0_plus_7 (by decide) ?_
  refine lv_iadd hx hb dX0_plus_8 ?_
  refine lv_bipush (v := 101) hx hb dX0_plus_9 (by decide) ?_
  refine jv_irem hx hb dX0_plus_11 (by decide) ?_
  obtain ⟨v1, ev1, hf⟩ := nm_elim hf
  try dsimp only at hf
  refine tp_I ev1 ?_
  refine lv_istore_n (lv' := [(3, .int v1), (0, .ref (ad 40)), (1, .int p0), (2, .int p1)]) hx hb dX0_plus_12 rfl hl (by decide) rfl (fun ls hl => ?_)
  refine lv_iload_n hx hb dX0_plus_13 rfl (lv_at hl 2 rfl) ?_
  refine lv_bipush (v := 101) hx hb dX0_plus_14 (by decide) ?_
  refine lv_idiv hx hb dX0_plus_16 (by decide) ?_
  refine lv_bipush (v := 101) hx hb dX0_plus_17 (by decide) ?_
  refine jv_irem hx hb dX0_plus_19 (by decide) ?_
  refine lv_iload_n hx hb dX0_plus_20 rfl (lv_at hl 3 rfl) ?_
  refine lv_bipush (v := 101) hx hb dX0_plus_21 (by decide) ?_
  refine lv_idiv hx hb dX0_plus_23 (by decide) ?_
  refine lv_bipush (v := 101) hx hb dX0_plus_24 (by decide) ?_
  refine jv_irem hx hb dX0_plus_26 (by decide) ?_
  refine lv_iadd hx hb dX0_plus_27 ?_
  refine lv_bipush (v := 101) hx hb dX0_plus_28 (by decide) ?_
  refine jv_irem hx hb dX0_plus_30 (by decide) ?_
  obtain ⟨v2, ev2, hf⟩ := nm_elim hf
  try dsimp only at hf
  refine tp_I ev2 ?_
  refine lv_istore (lv' := [(4, .int v2), (3, .int v1), (0, .ref (ad 40)), (1, .int p0), (2, .int p1)]) hx hb dX0_plus_31 hl (by decide) rfl (fun ls hl => ?_)
  refine lv_iload_n hx hb dX0_plus_33 rfl (lv_at hl 3 rfl) ?_
  refine lv_sipush (v := 10201) hx hb dX0_plus_34 (by decide) ?_
  refine lv_idiv hx hb dX0_plus_37 (by decide) ?_
  refine lv_iload_n hx hb dX0_plus_38 rfl (lv_at hl 4 rfl) ?_
  refine lv_sipush (v := 10201) hx hb dX0_plus_39 (by decide) ?_
  refine lv_idiv hx hb dX0_plus_42 (by decide) ?_
  refine lv_iadd hx hb dX0_plus_43 ?_
  refine lv_bipush (v := 101) hx hb dX0_plus_44 (by decide) ?_
  refine jv_irem hx hb dX0_plus_46 (by decide) ?_
  obtain ⟨v3, ev3, hf⟩ := nm_elim hf
  try dsimp only at hf
  refine tp_I ev3 ?_
  refine lv_istore (lv' := [(5, .int v3), (4, .int v2), (3, .int v1), (0, .ref (ad 40)), (1, .int p0), (2, .int p1)]) hx hb dX0_plus_47 hl (by decide) rfl (fun ls hl => ?_)
  refine lv_iload_n hx hb dX0_plus_49 rfl (lv_at hl 2 rfl) ?_
  refine lv_bipush (v := 101) hx hb dX0_plus_50 (by decide) ?_
  refine lv_iload hx hb dX0_plus_52 (lv_at hl 1 rfl) ?_
  refine lv_imul hx hb dX0_plus_54 ?_
  refine lv_iadd hx hb dX0_plus_55 ?_
  refine lv_sipush (v := 10201) hx hb dX0_plus_56 (by decide) ?_
  refine lv_iload hx hb dX0_plus_59 (lv_at hl 0 rfl) ?_
  refine lv_imul hx hb dX0_plus_61 ?_
  refine lv_iadd hx hb dX0_plus_62 ?_
  obtain rfl := Option.some.inj hf
  exact W.iret (v := (v1 + (101 * v2)) + (10201 * v3)) hx hb hr (fun t ht hW => ⟨rfl, by rw [ht]; exact hP, hS.F ht⟩) hS.2.2 dX0_plus_63
def f_X0_minus (p0 : Int32) (p1 : Int32) : Option (Int32) :=
  nm (jrem (((jrem p0 101) - (jrem p1 101)) + 101) 101) (fun v1 =>
  nm (jrem (((jrem (p0 / 101) 101) - (jrem (p1 / 101) 101)) + 101) 101) (fun v2 =>
  nm (jrem (((p0 / 10201) - (p1 / 10201)) + 101) 101) (fun v3 =>
  some ((v1 + (101 * v2)) + (10201 * v3)))))
set_option maxHeartbeats 4000000 in
set_option maxRecDepth 100000 in
theorem C_X0_minus (l : Launch) (D : va_G) (tys : List (ClassId × FieldType)) (nw : List Cond) (hn : nw.all nw_kind = true) (hnw : ∀ w ∈ nw0, w ∈ nw) {ad : Nat → Nat} (hj : ww_inj 46 ad) {cI : ClassId} {cR : ClassId} (htI : tys[0]? = some (cI, .int)) (htR : tys[1]? = some (cR, .object RX2)) {M : Fin 20 → Nat → Int32} {E : Nat → Int32} {P : Nat → Fin 20} {C : Nat → Int32} {N : Nat → Int32} {p0 : Int32} {p1 : Int32} {res : Int32} (hf : f_X0_minus p0 p1 = some res) :
    Met l yX0_minus wsX0_minus ({ frames := 0, cells := 0, slots := 0, locals := 0 }) (va_Pc [.ref (ad 40), .int p0, .int p1] (ws_B D tys nw (ww 46 ad (cellC cI cR ad M E P C N)))) (ct_Q D (ww 46 ad (cellC cI cR ad M E P C N)) (ww_A 46 ad) (some (.int res))) 0 0 (ww_A 46 ad) := by
  refine Met.ofW (cc := cX0_minus) (maxL := 6) (ret := (some .int)) (by decide) rfl ?_
  intro p e s m args below meth c s₁ B hml hv
  obtain ⟨rfl, hP, hK, hN⟩ := hv
  have hx := B.exec
  have hb := B.bytes
  have hr := B.returns
  have hts := atoms_spec (ws := wsX0_minus) B.pre
  have hown : s.vm.findClass RX0 = some m.cls := findClass_of_methodNamed B.named
  have hlocks := B.notSynchronized
  have hS : va_S (ww_A 46 ad) s.heap s.heap [] := va_S.rf
  have hl := lv_entry ([.ref (ad 40), .int p0, .int p1]) (n := 6) (Nat.le_of_ble_eq_true rfl)
  rw [lg_entry_eq]
  generalize (lg_sl ([.ref (ad 40), .int p0, .int p1]) ++ List.replicate (6 - (lg_sl ([.ref (ad 40), .int p0, .int p1])).length) Slot.unset).toArray = ls at hl ⊢
  have hl : lv_has ls 6 [(0, .ref (ad 40)), (1, .int p0), (2, .int p1)] := hl
  unfold f_X0_minus at hf
  refine lv_iload_n hx hb dX0_minus_0 rfl (lv_at hl 1 rfl) ?_
  refine lv_bipush (v := 101) hx hb dX0_minus_1 (by decide) ?_
  refine jv_irem hx hb dX0_minus_3 (by decide) ?_
  refine lv_iload_n hx hb dX0_minus_4 rfl (lv_at hl 2 rfl) ?_
  refine lv_bipush (v := 101) hx hb dX0_minus_5 (by decide) ?_
  refine jv_irem hx hb dX0_minus_7 (by decide) ?_
  refine lv_isub hx hb dX0_minus_8 ?_
  refine lv_bipush (v := 101) hx hb dX0_minus_9 (by decide) ?_
  refine lv_iadd hx hb dX0_minus_11 ?_
  refine lv_bipush (v := 101) hx hb dX0_minus_12 (by decide) ?_
  refine jv_irem hx hb dX0_minus_14 (by decide) ?_
  obtain ⟨v1, ev1, hf⟩ := nm_elim hf
  try dsimp only at hf
  refine tp_I ev1 ?_
  refine lv_istore_n (lv' := [(3, .int v1), (0, .ref (ad 40)), (1, .int p0), (2, .int p1)]) hx hb dX0_minus_15 rfl hl (by decide) rfl (fun ls hl => ?_)
  refine lv_iload_n hx hb dX0_minus_16 rfl (lv_at hl 2 rfl) ?_
  refine lv_bipush (v := 101) hx hb dX0_minus_17 (by decide) ?_
  refine lv_idiv hx hb dX0_minus_19 (by decide) ?_
  refine lv_bipush (v := 101) hx hb dX0_minus_20 (by decide) ?_
  refine jv_irem hx hb dX0_minus_22 (by decide) ?_
  refine lv_iload_n hx hb dX0_minus_23 rfl (lv_at hl 3 rfl) ?_
  refine lv_bipush (v := 101) hx hb dX0_minus_24 (by decide) ?_
  refine lv_idiv hx hb dX0_minus_26 (by decide) ?_
  refine lv_bipush (v := 101) hx hb dX0_minus_27 (by decide) ?_
  refine jv_irem hx hb dX0_minus_29 (by decide) ?_
  refine lv_isub hx hb dX0_minus_30 ?_
  refine lv_bipush (v := 101) hx hb dX0_minus_31 (by decide) ?_
  refine lv_iadd hx hb dX0_minus_33 ?_
  refine lv_bipush (v := 101) hx hb dX0_minus_34 (by decide) ?_
  refine jv_irem hx hb dX0_minus_36 (by decide) ?_
  obtain ⟨v2, ev2, hf⟩ := nm_elim hf
  try dsimp only at hf
  refine tp_I ev2 ?_
  refine lv_istore (lv' := [(4, .int v2), (3, .int v1), (0, .ref (ad 40)), (1, .int p0), (2, .int p1)]) hx hb dX0_minus_37 hl (by decide) rfl (fun ls hl => ?_)
  refine lv_iload_n hx hb dX0_minus_39 rfl (lv_at hl 3 rfl) ?_
  refine lv_sipush (v := 10201) hx hb dX0_minus_40 (by decide) ?_
  refine lv_idiv hx hb dX0_minus_43 (by decide) ?_
  refine lv_iload_n hx hb dX0_minus_44 rfl (lv_at hl 4 rfl) ?_
  refine lv_sipush (v := 10201) hx hb dX0_minus_45 (by decide) ?_
  refine lv_idiv hx hb dX0_minus_48 (by decide) ?_
  refine lv_isub hx hb dX0_minus_49 ?_
  refine lv_bipush (v := 101) hx hb dX0_minus_50 (by decide) ?_
  refine lv_iadd hx hb dX0_minus_52 ?_
  refine lv_bipush (v := 101) hx hb dX0_minus_53 (by decide) ?_
  refine jv_irem hx hb dX0_minus_55 (by decide) ?_
  obtain ⟨v3, ev3, hf⟩ := nm_elim hf
  try dsimp only at hf
  refine tp_I ev3 ?_
  refine lv_istore (lv' := [(5, .int v3), (4, .int v2), (3, .int v1), (0, .ref (ad 40)), (1, .int p0), (2, .int p1)]) hx hb dX0_minus_56 hl (by decide) rfl (fun ls hl => ?_)
  refine lv_iload_n hx hb dX0_minus_58 rfl (lv_at hl 2 rfl) ?_
  refine lv_bipush (v := 101) hx hb dX0_minus_59 (by decide) ?_
  refine lv_iload hx hb dX0_minus_61 (lv_at hl 1 rfl) ?_
  refine lv_imul hx hb dX0_minus_63 ?_
  refine lv_iadd hx hb dX0_minus_64 ?_
  refine lv_sipush (v := 10201) hx hb dX0_minus_65 (by decide) ?_
  refine lv_iload hx hb dX0_minus_68 (lv_at hl 0 rfl) ?_
  refine lv_imul hx hb dX0_minus_70 ?_
  refine lv_iadd hx hb dX0_minus_71 ?_
  obtain rfl := Option.some.inj hf
  exact W.iret (v := (v1 + (101 * v2)) + (10201 * v3)) hx hb hr (fun t ht hW => ⟨rfl, by rw [ht]; exact hP, hS.F ht⟩) hS.2.2 dX0_minus_72
def f_X0_times (E : Nat → Int32) (p0 : Int32) (p1 : Int32) : Option (Int32) :=
  if 101 ≤ p0 then
    nm (jrem p0 101) (fun v2 =>
    nm (jrem (p0 / 101) 101) (fun v3 =>
    nm (p0 / 10201) (fun v4 =>
    nm (jrem p1 101) (fun v5 =>
    nm (jrem (p1 / 101) 101) (fun v6 =>
    nm (p1 / 10201) (fun v7 =>
    nm (v2 * v5) (fun v8 =>
    nm ((v2 * v6) + (v3 * v5)) (fun v9 =>
    nm (((v2 * v7) + (v3 * v6)) + (v4 * v5)) (fun v10 =>
    if (E 0) = 2 then
      nm (jrem (101 - (jrem v10 101)) 101) (fun v18 =>
      nm (v9 + (v18 * (E 3))) (fun v19 =>
      nm (v8 + (v18 * (E 2))) (fun v20 =>
      some ((jrem v20 101) + (101 * (jrem v19 101))))))
    else
      nm (jrem (101 - (jrem (v4 * v7) 101)) 101) (fun v12 =>
      nm (((v3 * v7) + (v4 * v6)) + (v12 * (E 4))) (fun v13 =>
      nm (jrem (101 - (jrem v13 101)) 101) (fun v14 =>
      nm (v10 + ((v12 * (E 3)) + (v14 * (E 4)))) (fun v15 =>
      nm (v9 + ((v12 * (E 2)) + (v14 * (E 3)))) (fun v16 =>
      nm (v8 + (v14 * (E 2))) (fun v17 =>
      some (((jrem v17 101) + (101 * (jrem v16 101))) + (10201 * (jrem v15 101))))))))))))))))))
  else
    if 101 ≤ p1 then
      nm (jrem p0 101) (fun v22 =>
      nm (jrem (p0 / 101) 101) (fun v23 =>
      nm (p0 / 10201) (fun v24 =>
      nm (jrem p1 101) (fun v25 =>
      nm (jrem (p1 / 101) 101) (fun v26 =>
      nm (p1 / 10201) (fun v27 =>
      nm (v22 * v25) (fun v28 =>
      nm ((v22 * v26) + (v23 * v25)) (fun v29 =>
      nm (((v22 * v27) + (v23 * v26)) + (v24 * v25)) (fun v30 =>
      if (E 0) = 2 then
        nm (jrem (101 - (jrem v30 101)) 101) (fun v38 =>
        nm (v29 + (v38 * (E 3))) (fun v39 =>
        nm (v28 + (v38 * (E 2))) (fun v40 =>
        some ((jrem v40 101) + (101 * (jrem v39 101))))))
      else
        nm (jrem (101 - (jrem (v24 * v27) 101)) 101) (fun v32 =>
        nm (((v23 * v27) + (v24 * v26)) + (v32 * (E 4))) (fun v33 =>
        nm (jrem (101 - (jrem v33 101)) 101) (fun v34 =>
        nm (v30 + ((v32 * (E 3)) + (v34 * (E 4)))) (fun v35 =>
        nm (v29 + ((v32 * (E 2)) + (v34 * (E 3)))) (fun v36 =>
        nm (v28 + (v34 * (E 2))) (fun v37 =>
        some (((jrem v37 101) + (101 * (jrem v36 101))) + (10201 * (jrem v35 101))))))))))))))))))
    else
      some (jrem (p0 * p1) 101)
set_option maxHeartbeats 4000000 in
set_option maxRecDepth 100000 in
theorem C_X0_times (l : Launch) (D : va_G) (tys : List (ClassId × FieldType)) (nw : List Cond) (hn : nw.all nw_kind = true) (hnw : ∀ w ∈ nw0, w ∈ nw) {ad : Nat → Nat} (hj : ww_inj 46 ad) {cI : ClassId} {cR : ClassId} (htI : tys[0]? = some (cI, .int)) (htR : tys[1]? = some (cR, .object RX2)) {M : Fin 20 → Nat → Int32} {E : Nat → Int32} {P : Nat → Fin 20} {C : Nat → Int32} {N : Nat → Int32} {p0 : Int32} {p1 : Int32} {res : Int32} (hf : f_X0_times E p0 p1 = some res) :
    Met l yX0_times wsX0_times ({ frames := 0, cells := 0, slots := 0, locals := 0 }) (va_Pc [.ref (ad 40), .int p0, .int p1] (ws_B D tys nw (ww 46 ad (cellC cI cR ad M E P C N)))) (ct_Q D (ww 46 ad (cellC cI cR ad M E P C N)) (ww_A 46 ad) (some (.int res))) 0 0 (ww_A 46 ad) := by
  refine Met.ofW (cc := cX0_times) (maxL := 15) (ret := (some .int)) (by decide) rfl ?_
  intro p e s m args below meth c s₁ B hml hv
  obtain ⟨rfl, hP, hK, hN⟩ := hv
  have hx := B.exec
  have hb := B.bytes
  have hr := B.returns
  have hts := atoms_spec (ws := wsX0_times) B.pre
  have hown : s.vm.findClass RX0 = some m.cls := findClass_of_methodNamed B.named
  have hlocks := B.notSynchronized
  have hS : va_S (ww_A 46 ad) s.heap s.heap [] := va_S.rf
  have hl := lv_entry ([.ref (ad 40), .int p0, .int p1]) (n := 15) (Nat.le_of_ble_eq_true rfl)
  rw [lg_entry_eq]
  generalize (lg_sl ([.ref (ad 40), .int p0, .int p1]) ++ List.replicate (15 - (lg_sl ([.ref (ad 40), .int p0, .int p1])).length) Slot.unset).toArray = ls at hl ⊢
  have hl : lv_has ls 15 [(0, .ref (ad 40)), (1, .int p0), (2, .int p1)] := hl
  unfold f_X0_times at hf
  refine lv_iload_n hx hb dX0_times_0 rfl (lv_at hl 1 rfl) ?_
  refine lv_bipush (v := 101) hx hb dX0_times_1 (by decide) ?_
  refine lv_icmp_ge (tgt := 19) hx hb dX0_times_3 (by decide) (fun c1 => ?_) (fun c1 => ?_)
  · rw [if_pos c1] at hf
    refine lv_iload_n hx hb dX0_times_19 rfl (lv_at hl 1 rfl) ?_
    refine lv_bipush (v := 101) hx hb dX0_times_20 (by decide) ?_
    refine jv_irem hx hb dX0_times_22 (by decide) ?_
    obtain ⟨v2, ev2, hf⟩ := nm_elim hf
    try dsimp only at hf
    refine tp_I ev2 ?_
    refine lv_istore_n (lv' := [(3, .int v2), (0, .ref (ad 40)), (1, .int p0), (2, .int p1)]) hx hb dX0_times_23 rfl hl (by decide) rfl (fun ls hl => ?_)
    refine lv_iload_n hx hb dX0_times_24 rfl (lv_at hl 2 rfl) ?_
    refine lv_bipush (v := 101) hx hb dX0_times_25 (by decide) ?_
    refine lv_idiv hx hb dX0_times_27 (by decide) ?_
    refine lv_bipush (v := 101) hx hb dX0_times_28 (by decide) ?_
    refine jv_irem hx hb dX0_times_30 (by decide) ?_
    obtain ⟨v3, ev3, hf⟩ := nm_elim hf
    try dsimp only at hf
    refine tp_I ev3 ?_
    refine lv_istore (lv' := [(4, .int v3), (3, .int v2), (0, .ref (ad 40)), (1, .int p0), (2, .int p1)]) hx hb dX0_times_31 hl (by decide) rfl (fun ls hl => ?_)
    refine lv_iload_n hx hb dX0_times_33 rfl (lv_at hl 3 rfl) ?_
    refine lv_sipush (v := 10201) hx hb dX0_times_34 (by decide) ?_
    refine lv_idiv hx hb dX0_times_37 (by decide) ?_
    obtain ⟨v4, ev4, hf⟩ := nm_elim hf
    try dsimp only at hf
    refine tp_I ev4 ?_
    refine lv_istore (lv' := [(5, .int v4), (4, .int v3), (3, .int v2), (0, .ref (ad 40)), (1, .int p0), (2, .int p1)]) hx hb dX0_times_38 hl (by decide) rfl (fun ls hl => ?_)
    refine lv_iload_n hx hb dX0_times_40 rfl (lv_at hl 5 rfl) ?_
    refine lv_bipush (v := 101) hx hb dX0_times_41 (by decide) ?_
    refine jv_irem hx hb dX0_times_43 (by decide) ?_
    obtain ⟨v5, ev5, hf⟩ := nm_elim hf
    try dsimp only at hf
    refine tp_I ev5 ?_
    refine lv_istore (lv' := [(6, .int v5), (5, .int v4), (4, .int v3), (3, .int v2), (0, .ref (ad 40)), (1, .int p0), (2, .int p1)]) hx hb dX0_times_44 hl (by decide) rfl (fun ls hl => ?_)
    refine lv_iload_n hx hb dX0_times_46 rfl (lv_at hl 6 rfl) ?_
    refine lv_bipush (v := 101) hx hb dX0_times_47 (by decide) ?_
    refine lv_idiv hx hb dX0_times_49 (by decide) ?_
    refine lv_bipush (v := 101) hx hb dX0_times_50 (by decide) ?_
    refine jv_irem hx hb dX0_times_52 (by decide) ?_
    obtain ⟨v6, ev6, hf⟩ := nm_elim hf
    try dsimp only at hf
    refine tp_I ev6 ?_
    refine lv_istore (lv' := [(7, .int v6), (6, .int v5), (5, .int v4), (4, .int v3), (3, .int v2), (0, .ref (ad 40)), (1, .int p0), (2, .int p1)]) hx hb dX0_times_53 hl (by decide) rfl (fun ls hl => ?_)
    refine lv_iload_n hx hb dX0_times_55 rfl (lv_at hl 7 rfl) ?_
    refine lv_sipush (v := 10201) hx hb dX0_times_56 (by decide) ?_
    refine lv_idiv hx hb dX0_times_59 (by decide) ?_
    obtain ⟨v7, ev7, hf⟩ := nm_elim hf
    try dsimp only at hf
    refine tp_I ev7 ?_
    refine lv_istore (lv' := [(8, .int v7), (7, .int v6), (6, .int v5), (5, .int v4), (4, .int v3), (3, .int v2), (0, .ref (ad 40)), (1, .int p0), (2, .int p1)]) hx hb dX0_times_60 hl (by decide) rfl (fun ls hl => ?_)
    refine lv_iload_n hx hb dX0_times_62 rfl (lv_at hl 5 rfl) ?_
    refine lv_iload hx hb dX0_times_63 (lv_at hl 2 rfl) ?_
    refine lv_imul hx hb dX0_times_65 ?_
    obtain ⟨v8, ev8, hf⟩ := nm_elim hf
    try dsimp only at hf
    refine tp_I ev8 ?_
    refine lv_istore (lv' := [(9, .int v8), (8, .int v7), (7, .int v6), (6, .int v5), (5, .int v4), (4, .int v3), (3, .int v2), (0, .ref (ad 40)), (1, .int p0), (2, .int p1)]) hx hb dX0_times_66 hl (by decide) rfl (fun ls hl => ?_)
    refine lv_iload_n hx hb dX0_times_68 rfl (lv_at hl 6 rfl) ?_
    refine lv_iload hx hb dX0_times_69 (lv_at hl 2 rfl) ?_
    refine lv_imul hx hb dX0_times_71 ?_
    refine lv_iload hx hb dX0_times_72 (lv_at hl 5 rfl) ?_
    refine lv_iload hx hb dX0_times_74 (lv_at hl 3 rfl) ?_
    refine lv_imul hx hb dX0_times_76 ?_
    refine lv_iadd hx hb dX0_times_77 ?_
    obtain ⟨v9, ev9, hf⟩ := nm_elim hf
    try dsimp only at hf
    refine tp_I ev9 ?_
    refine lv_istore (lv' := [(10, .int v9), (9, .int v8), (8, .int v7), (7, .int v6), (6, .int v5), (5, .int v4), (4, .int v3), (3, .int v2), (0, .ref (ad 40)), (1, .int p0), (2, .int p1)]) hx hb dX0_times_78 hl (by decide) rfl (fun ls hl => ?_)
    refine lv_iload_n hx hb dX0_times_80 rfl (lv_at hl 7 rfl) ?_
    refine lv_iload hx hb dX0_times_81 (lv_at hl 2 rfl) ?_
    refine lv_imul hx hb dX0_times_83 ?_
    refine lv_iload hx hb dX0_times_84 (lv_at hl 6 rfl) ?_
    refine lv_iload hx hb dX0_times_86 (lv_at hl 3 rfl) ?_
    refine lv_imul hx hb dX0_times_88 ?_
    refine lv_iadd hx hb dX0_times_89 ?_
    refine lv_iload hx hb dX0_times_90 (lv_at hl 5 rfl) ?_
    refine lv_iload hx hb dX0_times_92 (lv_at hl 4 rfl) ?_
    refine lv_imul hx hb dX0_times_94 ?_
    refine lv_iadd hx hb dX0_times_95 ?_
    obtain ⟨v10, ev10, hf⟩ := nm_elim hf
    try dsimp only at hf
    refine tp_I ev10 ?_
    refine lv_istore (lv' := [(11, .int v10), (10, .int v9), (9, .int v8), (8, .int v7), (7, .int v6), (6, .int v5), (5, .int v4), (4, .int v3), (3, .int v2), (0, .ref (ad 40)), (1, .int p0), (2, .int p1)]) hx hb dX0_times_96 hl (by decide) rfl (fun ls hl => ?_)
    refine lv_aload_n hx hb dX0_times_98 rfl (lv_at hl 9 rfl) ?_
    refine va_get (ci := 0) (v := .int (E 0)) (C := RX0) (T := TX0) (N := 8) hx hb hts (by decide +kernel) hown hK hP 40 cc_ext rfl 0 (by decide) (hts (.fieldLink RX0 9 "NumberFieldFactors$Extension" "degree" "I") (by decide +kernel)) (fun _ h9 => h9) rfl dX0_times_99 ?_
    refine lv_iconst (v := 2) hx hb dX0_times_102 (by decide) ?_
    refine lv_icmp_ne (tgt := 158) hx hb dX0_times_103 (by decide) (fun c11 => ?_) (fun c11 => ?_)
    · rw [if_neg c11] at hf
      refine lv_bipush (v := 101) hx hb dX0_times_158 (by decide) ?_
      refine lv_iload hx hb dX0_times_160 (lv_at hl 6 rfl) ?_
      refine lv_iload hx hb dX0_times_162 (lv_at hl 3 rfl) ?_
      refine lv_imul hx hb dX0_times_164 ?_
      refine lv_bipush (v := 101) hx hb dX0_times_165 (by decide) ?_
      refine jv_irem hx hb dX0_times_167 (by decide) ?_
      refine lv_isub hx hb dX0_times_168 ?_
      refine lv_bipush (v := 101) hx hb dX0_times_169 (by decide) ?_
      refine jv_irem hx hb dX0_times_171 (by decide) ?_
      obtain ⟨v12, ev12, hf⟩ := nm_elim hf
      try dsimp only at hf
      refine tp_I ev12 ?_
      refine lv_istore (lv' := [(12, .int v12), (11, .int v10), (10, .int v9), (9, .int v8), (8, .int v7), (7, .int v6), (6, .int v5), (5, .int v4), (4, .int v3), (3, .int v2), (0, .ref (ad 40)), (1, .int p0), (2, .int p1)]) hx hb dX0_times_172 hl (by decide) rfl (fun ls hl => ?_)
      refine lv_iload hx hb dX0_times_174 (lv_at hl 8 rfl) ?_
      refine lv_iload hx hb dX0_times_176 (lv_at hl 4 rfl) ?_
      refine lv_imul hx hb dX0_times_178 ?_
      refine lv_iload hx hb dX0_times_179 (lv_at hl 7 rfl) ?_
      refine lv_iload hx hb dX0_times_181 (lv_at hl 5 rfl) ?_
      refine lv_imul hx hb dX0_times_183 ?_
      refine lv_iadd hx hb dX0_times_184 ?_
      refine lv_iload hx hb dX0_times_185 (lv_at hl 0 rfl) ?_
      refine lv_aload_n hx hb dX0_times_187 rfl (lv_at hl 10 rfl) ?_
      refine va_get (ci := 0) (v := .int (E 4)) (C := RX0) (T := TX0) (N := 8) hx hb hts (by decide +kernel) hown hK hP 40 cc_ext rfl 4 (by decide) (hts (.fieldLink RX0 24 "NumberFieldFactors$Extension" "low2" "I") (by decide +kernel)) (fun _ h9 => h9) rfl dX0_times_188 ?_
      refine lv_imul hx hb dX0_times_191 ?_
      refine lv_iadd hx hb dX0_times_192 ?_
      obtain ⟨v13, ev13, hf⟩ := nm_elim hf
      try dsimp only at hf
      refine tp_I ev13 ?_
      refine lv_istore (lv' := [(13, .int v13), (12, .int v12), (11, .int v10), (10, .int v9), (9, .int v8), (8, .int v7), (7, .int v6), (6, .int v5), (5, .int v4), (4, .int v3), (3, .int v2), (0, .ref (ad 40)), (1, .int p0), (2, .int p1)]) hx hb dX0_times_193 hl (by decide) rfl (fun ls hl => ?_)
      refine lv_bipush (v := 101) hx hb dX0_times_195 (by decide) ?_
      refine lv_iload hx hb dX0_times_197 (lv_at hl 0 rfl) ?_
      refine lv_bipush (v := 101) hx hb dX0_times_199 (by decide) ?_
      refine jv_irem hx hb dX0_times_201 (by decide) ?_
      refine lv_isub hx hb dX0_times_202 ?_
      refine lv_bipush (v := 101) hx hb dX0_times_203 (by decide) ?_
      refine jv_irem hx hb dX0_times_205 (by decide) ?_
      obtain ⟨v14, ev14, hf⟩ := nm_elim hf
      try dsimp only at hf
      refine tp_I ev14 ?_
      refine lv_istore (lv' := [(14, .int v14), (13, .int v13), (12, .int v12), (11, .int v10), (10, .int v9), (9, .int v8), (8, .int v7), (7, .int v6), (6, .int v5), (5, .int v4), (4, .int v3), (3, .int v2), (0, .ref (ad 40)), (1, .int p0), (2, .int p1)]) hx hb dX0_times_206 hl (by decide) rfl (fun ls hl => ?_)
      refine lv_iload hx hb dX0_times_208 (lv_at hl 3 rfl) ?_
      refine lv_iload hx hb dX0_times_210 (lv_at hl 2 rfl) ?_
      refine lv_aload_n hx hb dX0_times_212 rfl (lv_at hl 12 rfl) ?_
      refine va_get (ci := 0) (v := .int (E 3)) (C := RX0) (T := TX0) (N := 8) hx hb hts (by decide +kernel) hown hK hP 40 cc_ext rfl 3 (by decide) (hts (.fieldLink RX0 21 "NumberFieldFactors$Extension" "low1" "I") (by decide +kernel)) (fun _ h9 => h9) rfl dX0_times_213 ?_
      refine lv_imul hx hb dX0_times_216 ?_
      refine lv_iload hx hb dX0_times_217 (lv_at hl 0 rfl) ?_
      refine lv_aload_n hx hb dX0_times_219 rfl (lv_at hl 12 rfl) ?_
      refine va_get (ci := 0) (v := .int (E 4)) (C := RX0) (T := TX0) (N := 8) hx hb hts (by decide +kernel) hown hK hP 40 cc_ext rfl 4 (by decide) (hts (.fieldLink RX0 24 "NumberFieldFactors$Extension" "low2" "I") (by decide +kernel)) (fun _ h9 => h9) rfl dX0_times_220 ?_
      refine lv_imul hx hb dX0_times_223 ?_
      refine lv_iadd hx hb dX0_times_224 ?_
      refine lv_iadd hx hb dX0_times_225 ?_
      obtain ⟨v15, ev15, hf⟩ := nm_elim hf
      try dsimp only at hf
      refine tp_I ev15 ?_
      refine lv_istore (lv' := [(11, .int v15), (14, .int v14), (13, .int v13), (12, .int v12), (10, .int v9), (9, .int v8), (8, .int v7), (7, .int v6), (6, .int v5), (5, .int v4), (4, .int v3), (3, .int v2), (0, .ref (ad 40)), (1, .int p0), (2, .int p1)]) hx hb dX0_times_226 hl (by decide) rfl (fun ls hl => ?_)
      refine lv_iload hx hb dX0_times_228 (lv_at hl 4 rfl) ?_
      refine lv_iload hx hb dX0_times_230 (lv_at hl 3 rfl) ?_
      refine lv_aload_n hx hb dX0_times_232 rfl (lv_at hl 12 rfl) ?_
      refine va_get (ci := 0) (v := .int (E 2)) (C := RX0) (T := TX0) (N := 8) hx hb hts (by decide +kernel) hown hK hP 40 cc_ext rfl 2 (by decide) (hts (.fieldLink RX0 18 "NumberFieldFactors$Extension" "low0" "I") (by decide +kernel)) (fun _ h9 => h9) rfl dX0_times_233 ?_
      refine lv_imul hx hb dX0_times_236 ?_
      refine lv_iload hx hb dX0_times_237 (lv_at hl 1 rfl) ?_
      refine lv_aload_n hx hb dX0_times_239 rfl (lv_at hl 12 rfl) ?_
      refine va_get (ci := 0) (v := .int (E 3)) (C := RX0) (T := TX0) (N := 8) hx hb hts (by decide +kernel) hown hK hP 40 cc_ext rfl 3 (by decide) (hts (.fieldLink RX0 21 "NumberFieldFactors$Extension" "low1" "I") (by decide +kernel)) (fun _ h9 => h9) rfl dX0_times_240 ?_
      refine lv_imul hx hb dX0_times_243 ?_
      refine lv_iadd hx hb dX0_times_244 ?_
      refine lv_iadd hx hb dX0_times_245 ?_
      obtain ⟨v16, ev16, hf⟩ := nm_elim hf
      try dsimp only at hf
      refine tp_I ev16 ?_
      refine lv_istore (lv' := [(10, .int v16), (11, .int v15), (14, .int v14), (13, .int v13), (12, .int v12), (9, .int v8), (8, .int v7), (7, .int v6), (6, .int v5), (5, .int v4), (4, .int v3), (3, .int v2), (0, .ref (ad 40)), (1, .int p0), (2, .int p1)]) hx hb dX0_times_246 hl (by decide) rfl (fun ls hl => ?_)
      refine lv_iload hx hb dX0_times_248 (lv_at hl 5 rfl) ?_
      refine lv_iload hx hb dX0_times_250 (lv_at hl 2 rfl) ?_
      refine lv_aload_n hx hb dX0_times_252 rfl (lv_at hl 12 rfl) ?_
      refine va_get (ci := 0) (v := .int (E 2)) (C := RX0) (T := TX0) (N := 8) hx hb hts (by decide +kernel) hown hK hP 40 cc_ext rfl 2 (by decide) (hts (.fieldLink RX0 18 "NumberFieldFactors$Extension" "low0" "I") (by decide +kernel)) (fun _ h9 => h9) rfl dX0_times_253 ?_
      refine lv_imul hx hb dX0_times_256 ?_
      refine lv_iadd hx hb dX0_times_257 ?_
      obtain ⟨v17, ev17, hf⟩ := nm_elim hf
      try dsimp only at hf
      refine tp_I ev17 ?_
      refine lv_istore (lv' := [(9, .int v17), (10, .int v16), (11, .int v15), (14, .int v14), (13, .int v13), (12, .int v12), (8, .int v7), (7, .int v6), (6, .int v5), (5, .int v4), (4, .int v3), (3, .int v2), (0, .ref (ad 40)), (1, .int p0), (2, .int p1)]) hx hb dX0_times_258 hl (by decide) rfl (fun ls hl => ?_)
      refine lv_iload hx hb dX0_times_260 (lv_at hl 0 rfl) ?_
      refine lv_bipush (v := 101) hx hb dX0_times_262 (by decide) ?_
      refine jv_irem hx hb dX0_times_264 (by decide) ?_
      refine lv_bipush (v := 101) hx hb dX0_times_265 (by decide) ?_
      refine lv_iload hx hb dX0_times_267 (lv_at hl 1 rfl) ?_
      refine lv_bipush (v := 101) hx hb dX0_times_269 (by decide) ?_
      refine jv_irem hx hb dX0_times_271 (by decide) ?_
      refine lv_imul hx hb dX0_times_272 ?_
      refine lv_iadd hx hb dX0_times_273 ?_
      refine lv_sipush (v := 10201) hx hb dX0_times_274 (by decide) ?_
      refine lv_iload hx hb dX0_times_277 (lv_at hl 2 rfl) ?_
      refine lv_bipush (v := 101) hx hb dX0_times_279 (by decide) ?_
      refine jv_irem hx hb dX0_times_281 (by decide) ?_
      refine lv_imul hx hb dX0_times_282 ?_
      refine lv_iadd hx hb dX0_times_283 ?_
      obtain rfl := Option.some.inj hf
      exact W.iret (v := ((jrem v17 101) + (101 * (jrem v16 101))) + (10201 * (jrem v15 101))) hx hb hr (fun t ht hW => ⟨rfl, by rw [ht]; exact hP, hS.F ht⟩) hS.2.2 dX0_times_284
    · rw [if_pos c11] at hf
      refine lv_bipush (v := 101) hx hb dX0_times_106 (by decide) ?_
      refine lv_iload hx hb dX0_times_108 (lv_at hl 0 rfl) ?_
      refine lv_bipush (v := 101) hx hb dX0_times_110 (by decide) ?_
      refine jv_irem hx hb dX0_times_112 (by decide) ?_
      refine lv_isub hx hb dX0_times_113 ?_
      refine lv_bipush (v := 101) hx hb dX0_times_114 (by decide) ?_
      refine jv_irem hx hb dX0_times_116 (by decide) ?_
      obtain ⟨v18, ev18, hf⟩ := nm_elim hf
      try dsimp only at hf
      refine tp_I ev18 ?_
      refine lv_istore (lv' := [(12, .int v18), (11, .int v10), (10, .int v9), (9, .int v8), (8, .int v7), (7, .int v6), (6, .int v5), (5, .int v4), (4, .int v3), (3, .int v2), (0, .ref (ad 40)), (1, .int p0), (2, .int p1)]) hx hb dX0_times_117 hl (by decide) rfl (fun ls hl => ?_)
      refine lv_iload hx hb dX0_times_119 (lv_at hl 2 rfl) ?_
      refine lv_iload hx hb dX0_times_121 (lv_at hl 0 rfl) ?_
      refine lv_aload_n hx hb dX0_times_123 rfl (lv_at hl 10 rfl) ?_
      refine va_get (ci := 0) (v := .int (E 3)) (C := RX0) (T := TX0) (N := 8) hx hb hts (by decide +kernel) hown hK hP 40 cc_ext rfl 3 (by decide) (hts (.fieldLink RX0 21 "NumberFieldFactors$Extension" "low1" "I") (by decide +kernel)) (fun _ h9 => h9) rfl dX0_times_124 ?_
      refine lv_imul hx hb dX0_times_127 ?_
      refine lv_iadd hx hb dX0_times_128 ?_
      obtain ⟨v19, ev19, hf⟩ := nm_elim hf
      try dsimp only at hf
      refine tp_I ev19 ?_
      refine lv_istore (lv' := [(10, .int v19), (12, .int v18), (11, .int v10), (9, .int v8), (8, .int v7), (7, .int v6), (6, .int v5), (5, .int v4), (4, .int v3), (3, .int v2), (0, .ref (ad 40)), (1, .int p0), (2, .int p1)]) hx hb dX0_times_129 hl (by decide) rfl (fun ls hl => ?_)
      refine lv_iload hx hb dX0_times_131 (lv_at hl 3 rfl) ?_
      refine lv_iload hx hb dX0_times_133 (lv_at hl 1 rfl) ?_
      refine lv_aload_n hx hb dX0_times_135 rfl (lv_at hl 10 rfl) ?_
      refine va_get (ci := 0) (v := .int (E 2)) (C := RX0) (T := TX0) (N := 8) hx hb hts (by decide +kernel) hown hK hP 40 cc_ext rfl 2 (by decide) (hts (.fieldLink RX0 18 "NumberFieldFactors$Extension" "low0" "I") (by decide +kernel)) (fun _ h9 => h9) rfl dX0_times_136 ?_
      refine lv_imul hx hb dX0_times_139 ?_
      refine lv_iadd hx hb dX0_times_140 ?_
      obtain ⟨v20, ev20, hf⟩ := nm_elim hf
      try dsimp only at hf
      refine tp_I ev20 ?_
      refine lv_istore (lv' := [(9, .int v20), (10, .int v19), (12, .int v18), (11, .int v10), (8, .int v7), (7, .int v6), (6, .int v5), (5, .int v4), (4, .int v3), (3, .int v2), (0, .ref (ad 40)), (1, .int p0), (2, .int p1)]) hx hb dX0_times_141 hl (by decide) rfl (fun ls hl => ?_)
      refine lv_iload hx hb dX0_times_143 (lv_at hl 0 rfl) ?_
      refine lv_bipush (v := 101) hx hb dX0_times_145 (by decide) ?_
      refine jv_irem hx hb dX0_times_147 (by decide) ?_
      refine lv_bipush (v := 101) hx hb dX0_times_148 (by decide) ?_
      refine lv_iload hx hb dX0_times_150 (lv_at hl 1 rfl) ?_
      refine lv_bipush (v := 101) hx hb dX0_times_152 (by decide) ?_
      refine jv_irem hx hb dX0_times_154 (by decide) ?_
      refine lv_imul hx hb dX0_times_155 ?_
      refine lv_iadd hx hb dX0_times_156 ?_
      obtain rfl := Option.some.inj hf
      exact W.iret (v := (jrem v20 101) + (101 * (jrem v19 101))) hx hb hr (fun t ht hW => ⟨rfl, by rw [ht]; exact hP, hS.F ht⟩) hS.2.2 dX0_times_157
  · rw [if_neg c1] at hf
    refine lv_iload_n hx hb dX0_times_6 rfl (lv_at hl 2 rfl) ?_
    refine lv_bipush (v := 101) hx hb dX0_times_7 (by decide) ?_
    refine lv_icmp_ge (tgt := 19) hx hb dX0_times_9 (by decide) (fun c21 => ?_) (fun c21 => ?_)
    · rw [if_pos c21] at hf
      refine lv_iload_n hx hb dX0_times_19 rfl (lv_at hl 1 rfl) ?_
      refine lv_bipush (v := 101) hx hb dX0_times_20 (by decide) ?_
      refine jv_irem hx hb dX0_times_22 (by decide) ?_
      obtain ⟨v22, ev22, hf⟩ := nm_elim hf
      try dsimp only at hf
      refine tp_I ev22 ?_
      refine lv_istore_n (lv' := [(3, .int v22), (0, .ref (ad 40)), (1, .int p0), (2, .int p1)]) hx hb dX0_times_23 rfl hl (by decide) rfl (fun ls hl => ?_)
      refine lv_iload_n hx hb dX0_times_24 rfl (lv_at hl 2 rfl) ?_
      refine lv_bipush (v := 101) hx hb dX0_times_25 (by decide) ?_
      refine lv_idiv hx hb dX0_times_27 (by decide) ?_
      refine lv_bipush (v := 101) hx hb dX0_times_28 (by decide) ?_
      refine jv_irem hx hb dX0_times_30 (by decide) ?_
      obtain ⟨v23, ev23, hf⟩ := nm_elim hf
      try dsimp only at hf
      refine tp_I ev23 ?_
      refine lv_istore (lv' := [(4, .int v23), (3, .int v22), (0, .ref (ad 40)), (1, .int p0), (2, .int p1)]) hx hb dX0_times_31 hl (by decide) rfl (fun ls hl => ?_)
      refine lv_iload_n hx hb dX0_times_33 rfl (lv_at hl 3 rfl) ?_
      refine lv_sipush (v := 10201) hx hb dX0_times_34 (by decide) ?_
      refine lv_idiv hx hb dX0_times_37 (by decide) ?_
      obtain ⟨v24, ev24, hf⟩ := nm_elim hf
      try dsimp only at hf
      refine tp_I ev24 ?_
      refine lv_istore (lv' := [(5, .int v24), (4, .int v23), (3, .int v22), (0, .ref (ad 40)), (1, .int p0), (2, .int p1)]) hx hb dX0_times_38 hl (by decide) rfl (fun ls hl => ?_)
      refine lv_iload_n hx hb dX0_times_40 rfl (lv_at hl 5 rfl) ?_
      refine lv_bipush (v := 101) hx hb dX0_times_41 (by decide) ?_
      refine jv_irem hx hb dX0_times_43 (by decide) ?_
      obtain ⟨v25, ev25, hf⟩ := nm_elim hf
      try dsimp only at hf
      refine tp_I ev25 ?_
      refine lv_istore (lv' := [(6, .int v25), (5, .int v24), (4, .int v23), (3, .int v22), (0, .ref (ad 40)), (1, .int p0), (2, .int p1)]) hx hb dX0_times_44 hl (by decide) rfl (fun ls hl => ?_)
      refine lv_iload_n hx hb dX0_times_46 rfl (lv_at hl 6 rfl) ?_
      refine lv_bipush (v := 101) hx hb dX0_times_47 (by decide) ?_
      refine lv_idiv hx hb dX0_times_49 (by decide) ?_
      refine lv_bipush (v := 101) hx hb dX0_times_50 (by decide) ?_
      refine jv_irem hx hb dX0_times_52 (by decide) ?_
      obtain ⟨v26, ev26, hf⟩ := nm_elim hf
      try dsimp only at hf
      refine tp_I ev26 ?_
      refine lv_istore (lv' := [(7, .int v26), (6, .int v25), (5, .int v24), (4, .int v23), (3, .int v22), (0, .ref (ad 40)), (1, .int p0), (2, .int p1)]) hx hb dX0_times_53 hl (by decide) rfl (fun ls hl => ?_)
      refine lv_iload_n hx hb dX0_times_55 rfl (lv_at hl 7 rfl) ?_
      refine lv_sipush (v := 10201) hx hb dX0_times_56 (by decide) ?_
      refine lv_idiv hx hb dX0_times_59 (by decide) ?_
      obtain ⟨v27, ev27, hf⟩ := nm_elim hf
      try dsimp only at hf
      refine tp_I ev27 ?_
      refine lv_istore (lv' := [(8, .int v27), (7, .int v26), (6, .int v25), (5, .int v24), (4, .int v23), (3, .int v22), (0, .ref (ad 40)), (1, .int p0), (2, .int p1)]) hx hb dX0_times_60 hl (by decide) rfl (fun ls hl => ?_)
      refine lv_iload_n hx hb dX0_times_62 rfl (lv_at hl 5 rfl) ?_
      refine lv_iload hx hb dX0_times_63 (lv_at hl 2 rfl) ?_
      refine lv_imul hx hb dX0_times_65 ?_
      obtain ⟨v28, ev28, hf⟩ := nm_elim hf
      try dsimp only at hf
      refine tp_I ev28 ?_
      refine lv_istore (lv' := [(9, .int v28), (8, .int v27), (7, .int v26), (6, .int v25), (5, .int v24), (4, .int v23), (3, .int v22), (0, .ref (ad 40)), (1, .int p0), (2, .int p1)]) hx hb dX0_times_66 hl (by decide) rfl (fun ls hl => ?_)
      refine lv_iload_n hx hb dX0_times_68 rfl (lv_at hl 6 rfl) ?_
      refine lv_iload hx hb dX0_times_69 (lv_at hl 2 rfl) ?_
      refine lv_imul hx hb dX0_times_71 ?_
      refine lv_iload hx hb dX0_times_72 (lv_at hl 5 rfl) ?_
      refine lv_iload hx hb dX0_times_74 (lv_at hl 3 rfl) ?_
      refine lv_imul hx hb dX0_times_76 ?_
      refine lv_iadd hx hb dX0_times_77 ?_
      obtain ⟨v29, ev29, hf⟩ := nm_elim hf
      try dsimp only at hf
      refine tp_I ev29 ?_
      refine lv_istore (lv' := [(10, .int v29), (9, .int v28), (8, .int v27), (7, .int v26), (6, .int v25), (5, .int v24), (4, .int v23), (3, .int v22), (0, .ref (ad 40)), (1, .int p0), (2, .int p1)]) hx hb dX0_times_78 hl (by decide) rfl (fun ls hl => ?_)
      refine lv_iload_n hx hb dX0_times_80 rfl (lv_at hl 7 rfl) ?_
      refine lv_iload hx hb dX0_times_81 (lv_at hl 2 rfl) ?_
      refine lv_imul hx hb dX0_times_83 ?_
      refine lv_iload hx hb dX0_times_84 (lv_at hl 6 rfl) ?_
      refine lv_iload hx hb dX0_times_86 (lv_at hl 3 rfl) ?_
      refine lv_imul hx hb dX0_times_88 ?_
      refine lv_iadd hx hb dX0_times_89 ?_
      refine lv_iload hx hb dX0_times_90 (lv_at hl 5 rfl) ?_
      refine lv_iload hx hb dX0_times_92 (lv_at hl 4 rfl) ?_
      refine lv_imul hx hb dX0_times_94 ?_
      refine lv_iadd hx hb dX0_times_95 ?_
      obtain ⟨v30, ev30, hf⟩ := nm_elim hf
      try dsimp only at hf
      refine tp_I ev30 ?_
      refine lv_istore (lv' := [(11, .int v30), (10, .int v29), (9, .int v28), (8, .int v27), (7, .int v26), (6, .int v25), (5, .int v24), (4, .int v23), (3, .int v22), (0, .ref (ad 40)), (1, .int p0), (2, .int p1)]) hx hb dX0_times_96 hl (by decide) rfl (fun ls hl => ?_)
      refine lv_aload_n hx hb dX0_times_98 rfl (lv_at hl 9 rfl) ?_
      refine va_get (ci := 0) (v := .int (E 0)) (C := RX0) (T := TX0) (N := 8) hx hb hts (by decide +kernel) hown hK hP 40 cc_ext rfl 0 (by decide) (hts (.fieldLink RX0 9 "NumberFieldFactors$Extension" "degree" "I") (by decide +kernel)) (fun _ h9 => h9) rfl dX0_times_99 ?_
      refine lv_iconst (v := 2) hx hb dX0_times_102 (by decide) ?_
      refine lv_icmp_ne (tgt := 158) hx hb dX0_times_103 (by decide) (fun c31 => ?_) (fun c31 => ?_)
      · rw [if_neg c31] at hf
        refine lv_bipush (v := 101) hx hb dX0_times_158 (by decide) ?_
        refine lv_iload hx hb dX0_times_160 (lv_at hl 6 rfl) ?_
        refine lv_iload hx hb dX0_times_162 (lv_at hl 3 rfl) ?_
        refine lv_imul hx hb dX0_times_164 ?_
        refine lv_bipush (v := 101) hx hb dX0_times_165 (by decide) ?_
        refine jv_irem hx hb dX0_times_167 (by decide) ?_
        refine lv_isub hx hb dX0_times_168 ?_
        refine lv_bipush (v := 101) hx hb dX0_times_169 (by decide) ?_
        refine jv_irem hx hb dX0_times_171 (by decide) ?_
        obtain ⟨v32, ev32, hf⟩ := nm_elim hf
        try dsimp only at hf
        refine tp_I ev32 ?_
        refine lv_istore (lv' := [(12, .int v32), (11, .int v30), (10, .int v29), (9, .int v28), (8, .int v27), (7, .int v26), (6, .int v25), (5, .int v24), (4, .int v23), (3, .int v22), (0, .ref (ad 40)), (1, .int p0), (2, .int p1)]) hx hb dX0_times_172 hl (by decide) rfl (fun ls hl => ?_)
        refine lv_iload hx hb dX0_times_174 (lv_at hl 8 rfl) ?_
        refine lv_iload hx hb dX0_times_176 (lv_at hl 4 rfl) ?_
        refine lv_imul hx hb dX0_times_178 ?_
        refine lv_iload hx hb dX0_times_179 (lv_at hl 7 rfl) ?_
        refine lv_iload hx hb dX0_times_181 (lv_at hl 5 rfl) ?_
        refine lv_imul hx hb dX0_times_183 ?_
        refine lv_iadd hx hb dX0_times_184 ?_
        refine lv_iload hx hb dX0_times_185 (lv_at hl 0 rfl) ?_
        refine lv_aload_n hx hb dX0_times_187 rfl (lv_at hl 10 rfl) ?_
        refine va_get (ci := 0) (v := .int (E 4)) (C := RX0) (T := TX0) (N := 8) hx hb hts (by decide +kernel) hown hK hP 40 cc_ext rfl 4 (by decide) (hts (.fieldLink RX0 24 "NumberFieldFactors$Extension" "low2" "I") (by decide +kernel)) (fun _ h9 => h9) rfl dX0_times_188 ?_
        refine lv_imul hx hb dX0_times_191 ?_
        refine lv_iadd hx hb dX0_times_192 ?_
        obtain ⟨v33, ev33, hf⟩ := nm_elim hf
        try dsimp only at hf
        refine tp_I ev33 ?_
        refine lv_istore (lv' := [(13, .int v33), (12, .int v32), (11, .int v30), (10, .int v29), (9, .int v28), (8, .int v27), (7, .int v26), (6, .int v25), (5, .int v24), (4, .int v23), (3, .int v22), (0, .ref (ad 40)), (1, .int p0), (2, .int p1)]) hx hb dX0_times_193 hl (by decide) rfl (fun ls hl => ?_)
        refine lv_bipush (v := 101) hx hb dX0_times_195 (by decide) ?_
        refine lv_iload hx hb dX0_times_197 (lv_at hl 0 rfl) ?_
        refine lv_bipush (v := 101) hx hb dX0_times_199 (by decide) ?_
        refine jv_irem hx hb dX0_times_201 (by decide) ?_
        refine lv_isub hx hb dX0_times_202 ?_
        refine lv_bipush (v := 101) hx hb dX0_times_203 (by decide) ?_
        refine jv_irem hx hb dX0_times_205 (by decide) ?_
        obtain ⟨v34, ev34, hf⟩ := nm_elim hf
        try dsimp only at hf
        refine tp_I ev34 ?_
        refine lv_istore (lv' := [(14, .int v34), (13, .int v33), (12, .int v32), (11, .int v30), (10, .int v29), (9, .int v28), (8, .int v27), (7, .int v26), (6, .int v25), (5, .int v24), (4, .int v23), (3, .int v22), (0, .ref (ad 40)), (1, .int p0), (2, .int p1)]) hx hb dX0_times_206 hl (by decide) rfl (fun ls hl => ?_)
        refine lv_iload hx hb dX0_times_208 (lv_at hl 3 rfl) ?_
        refine lv_iload hx hb dX0_times_210 (lv_at hl 2 rfl) ?_
        refine lv_aload_n hx hb dX0_times_212 rfl (lv_at hl 12 rfl) ?_
        refine va_get (ci := 0) (v := .int (E 3)) (C := RX0) (T := TX0) (N := 8) hx hb hts (by decide +kernel) hown hK hP 40 cc_ext rfl 3 (by decide) (hts (.fieldLink RX0 21 "NumberFieldFactors$Extension" "low1" "I") (by decide +kernel)) (fun _ h9 => h9) rfl dX0_times_213 ?_
        refine lv_imul hx hb dX0_times_216 ?_
        refine lv_iload hx hb dX0_times_217 (lv_at hl 0 rfl) ?_
        refine lv_aload_n hx hb dX0_times_219 rfl (lv_at hl 12 rfl) ?_
        refine va_get (ci := 0) (v := .int (E 4)) (C := RX0) (T := TX0) (N := 8) hx hb hts (by decide +kernel) hown hK hP 40 cc_ext rfl 4 (by decide) (hts (.fieldLink RX0 24 "NumberFieldFactors$Extension" "low2" "I") (by decide +kernel)) (fun _ h9 => h9) rfl dX0_times_220 ?_
        refine lv_imul hx hb dX0_times_223 ?_
        refine lv_iadd hx hb dX0_times_224 ?_
        refine lv_iadd hx hb dX0_times_225 ?_
        obtain ⟨v35, ev35, hf⟩ := nm_elim hf
        try dsimp only at hf
        refine tp_I ev35 ?_
        refine lv_istore (lv' := [(11, .int v35), (14, .int v34), (13, .int v33), (12, .int v32), (10, .int v29), (9, .int v28), (8, .int v27), (7, .int v26), (6, .int v25), (5, .int v24), (4, .int v23), (3, .int v22), (0, .ref (ad 40)), (1, .int p0), (2, .int p1)]) hx hb dX0_times_226 hl (by decide) rfl (fun ls hl => ?_)
        refine lv_iload hx hb dX0_times_228 (lv_at hl 4 rfl) ?_
        refine lv_iload hx hb dX0_times_230 (lv_at hl 3 rfl) ?_
        refine lv_aload_n hx hb dX0_times_232 rfl (lv_at hl 12 rfl) ?_
        refine va_get (ci := 0) (v := .int (E 2)) (C := RX0) (T := TX0) (N := 8) hx hb hts (by decide +kernel) hown hK hP 40 cc_ext rfl 2 (by decide) (hts (.fieldLink RX0 18 "NumberFieldFactors$Extension" "low0" "I") (by decide +kernel)) (fun _ h9 => h9) rfl dX0_times_233 ?_
        refine lv_imul hx hb dX0_times_236 ?_
        refine lv_iload hx hb dX0_times_237 (lv_at hl 1 rfl) ?_
        refine lv_aload_n hx hb dX0_times_239 rfl (lv_at hl 12 rfl) ?_
        refine va_get (ci := 0) (v := .int (E 3)) (C := RX0) (T := TX0) (N := 8) hx hb hts (by decide +kernel) hown hK hP 40 cc_ext rfl 3 (by decide) (hts (.fieldLink RX0 21 "NumberFieldFactors$Extension" "low1" "I") (by decide +kernel)) (fun _ h9 => h9) rfl dX0_times_240 ?_
        refine lv_imul hx hb dX0_times_243 ?_
        refine lv_iadd hx hb dX0_times_244 ?_
        refine lv_iadd hx hb dX0_times_245 ?_
        obtain ⟨v36, ev36, hf⟩ := nm_elim hf
        try dsimp only at hf
        refine tp_I ev36 ?_
        refine lv_istore (lv' := [(10, .int v36), (11, .int v35), (14, .int v34), (13, .int v33), (12, .int v32), (9, .int v28), (8, .int v27), (7, .int v26), (6, .int v25), (5, .int v24), (4, .int v23), (3, .int v22), (0, .ref (ad 40)), (1, .int p0), (2, .int p1)]) hx hb dX0_times_246 hl (by decide) rfl (fun ls hl => ?_)
        refine lv_iload hx hb dX0_times_248 (lv_at hl 5 rfl) ?_
        refine lv_iload hx hb dX0_times_250 (lv_at hl 2 rfl) ?_
        refine lv_aload_n hx hb dX0_times_252 rfl (lv_at hl 12 rfl) ?_
        refine va_get (ci := 0) (v := .int (E 2)) (C := RX0) (T := TX0) (N := 8) hx hb hts (by decide +kernel) hown hK hP 40 cc_ext rfl 2 (by decide) (hts (.fieldLink RX0 18 "NumberFieldFactors$Extension" "low0" "I") (by decide +kernel)) (fun _ h9 => h9) rfl dX0_times_253 ?_
        refine lv_imul hx hb dX0_times_256 ?_
        refine lv_iadd hx hb dX0_times_257 ?_
        obtain ⟨v37, ev37, hf⟩ := nm_elim hf
        try dsimp only at hf
        refine tp_I ev37 ?_
        refine lv_istore (lv' := [(9, .int v37), (10, .int v36), (11, .int v35), (14, .int v34), (13, .int v33), (12, .int v32), (8, .int v27), (7, .int v26), (6, .int v25), (5, .int v24), (4, .int v23), (3, .int v22), (0, .ref (ad 40)), (1, .int p0), (2, .int p1)]) hx hb dX0_times_258 hl (by decide) rfl (fun ls hl => ?_)
        refine lv_iload hx hb dX0_times_260 (lv_at hl 0 rfl) ?_
        refine lv_bipush (v := 101) hx hb dX0_times_262 (by decide) ?_
        refine jv_irem hx hb dX0_times_264 (by decide) ?_
        refine lv_bipush (v := 101) hx hb dX0_times_265 (by decide) ?_
        refine lv_iload hx hb dX0_times_267 (lv_at hl 1 rfl) ?_
        refine lv_bipush (v := 101) hx hb dX0_times_269 (by decide) ?_
        refine jv_irem hx hb dX0_times_271 (by decide) ?_
        refine lv_imul hx hb dX0_times_272 ?_
        refine lv_iadd hx hb dX0_times_273 ?_
        refine lv_sipush (v := 10201) hx hb dX0_times_274 (by decide) ?_
        refine lv_iload hx hb dX0_times_277 (lv_at hl 2 rfl) ?_
        refine lv_bipush (v := 101) hx hb dX0_times_279 (by decide) ?_
        refine jv_irem hx hb dX0_times_281 (by decide) ?_
        refine lv_imul hx hb dX0_times_282 ?_
        refine lv_iadd hx hb dX0_times_283 ?_
        obtain rfl := Option.some.inj hf
        exact W.iret (v := ((jrem v37 101) + (101 * (jrem v36 101))) + (10201 * (jrem v35 101))) hx hb hr (fun t ht hW => ⟨rfl, by rw [ht]; exact hP, hS.F ht⟩) hS.2.2 dX0_times_284
      · rw [if_pos c31] at hf
        refine lv_bipush (v := 101) hx hb dX0_times_106 (by decide) ?_
        refine lv_iload hx hb dX0_times_108 (lv_at hl 0 rfl) ?_
        refine lv_bipush (v := 101) hx hb dX0_times_110 (by decide) ?_
        refine jv_irem hx hb dX0_times_112 (by decide) ?_
        refine lv_isub hx hb dX0_times_113 ?_
        refine lv_bipush (v := 101) hx hb dX0_times_114 (by decide) ?_
        refine jv_irem hx hb dX0_times_116 (by decide) ?_
        obtain ⟨v38, ev38, hf⟩ := nm_elim hf
        try dsimp only at hf
        refine tp_I ev38 ?_
        refine lv_istore (lv' := [(12, .int v38), (11, .int v30), (10, .int v29), (9, .int v28), (8, .int v27), (7, .int v26), (6, .int v25), (5, .int v24), (4, .int v23), (3, .int v22), (0, .ref (ad 40)), (1, .int p0), (2, .int p1)]) hx hb dX0_times_117 hl (by decide) rfl (fun ls hl => ?_)
        refine lv_iload hx hb dX0_times_119 (lv_at hl 2 rfl) ?_
        refine lv_iload hx hb dX0_times_121 (lv_at hl 0 rfl) ?_
        refine lv_aload_n hx hb dX0_times_123 rfl (lv_at hl 10 rfl) ?_
        refine va_get (ci := 0) (v := .int (E 3)) (C := RX0) (T := TX0) (N := 8) hx hb hts (by decide +kernel) hown hK hP 40 cc_ext rfl 3 (by decide) (hts (.fieldLink RX0 21 "NumberFieldFactors$Extension" "low1" "I") (by decide +kernel)) (fun _ h9 => h9) rfl dX0_times_124 ?_
        refine lv_imul hx hb dX0_times_127 ?_
        refine lv_iadd hx hb dX0_times_128 ?_
        obtain ⟨v39, ev39, hf⟩ := nm_elim hf
        try dsimp only at hf
        refine tp_I ev39 ?_
        refine lv_istore (lv' := [(10, .int v39), (12, .int v38), (11, .int v30), (9, .int v28), (8, .int v27), (7, .int v26), (6, .int v25), (5, .int v24), (4, .int v23), (3, .int v22), (0, .ref (ad 40)), (1, .int p0), (2, .int p1)]) hx hb dX0_times_129 hl (by decide) rfl (fun ls hl => ?_)
        refine lv_iload hx hb dX0_times_131 (lv_at hl 3 rfl) ?_
        refine lv_iload hx hb dX0_times_133 (lv_at hl 1 rfl) ?_
        refine lv_aload_n hx hb dX0_times_135 rfl (lv_at hl 10 rfl) ?_
        refine va_get (ci := 0) (v := .int (E 2)) (C := RX0) (T := TX0) (N := 8) hx hb hts (by decide +kernel) hown hK hP 40 cc_ext rfl 2 (by decide) (hts (.fieldLink RX0 18 "NumberFieldFactors$Extension" "low0" "I") (by decide +kernel)) (fun _ h9 => h9) rfl dX0_times_136 ?_
        refine lv_imul hx hb dX0_times_139 ?_
        refine lv_iadd hx hb dX0_times_140 ?_
        obtain ⟨v40, ev40, hf⟩ := nm_elim hf
        try dsimp only at hf
        refine tp_I ev40 ?_
        refine lv_istore (lv' := [(9, .int v40), (10, .int v39), (12, .int v38), (11, .int v30), (8, .int v27), (7, .int v26), (6, .int v25), (5, .int v24), (4, .int v23), (3, .int v22), (0, .ref (ad 40)), (1, .int p0), (2, .int p1)]) hx hb dX0_times_141 hl (by decide) rfl (fun ls hl => ?_)
        refine lv_iload hx hb dX0_times_143 (lv_at hl 0 rfl) ?_
        refine lv_bipush (v := 101) hx hb dX0_times_145 (by decide) ?_
        refine jv_irem hx hb dX0_times_147 (by decide) ?_
        refine lv_bipush (v := 101) hx hb dX0_times_148 (by decide) ?_
        refine lv_iload hx hb dX0_times_150 (lv_at hl 1 rfl) ?_
        refine lv_bipush (v := 101) hx hb dX0_times_152 (by decide) ?_
        refine jv_irem hx hb dX0_times_154 (by decide) ?_
        refine lv_imul hx hb dX0_times_155 ?_
        refine lv_iadd hx hb dX0_times_156 ?_
        obtain rfl := Option.some.inj hf
        exact W.iret (v := (jrem v40 101) + (101 * (jrem v39 101))) hx hb hr (fun t ht hW => ⟨rfl, by rw [ht]; exact hP, hS.F ht⟩) hS.2.2 dX0_times_157
    · rw [if_neg c21] at hf
      refine lv_iload_n hx hb dX0_times_12 rfl (lv_at hl 1 rfl) ?_
      refine lv_iload_n hx hb dX0_times_13 rfl (lv_at hl 2 rfl) ?_
      refine lv_imul hx hb dX0_times_14 ?_
      refine lv_bipush (v := 101) hx hb dX0_times_15 (by decide) ?_
      refine jv_irem hx hb dX0_times_17 (by decide) ?_
      obtain rfl := Option.some.inj hf
      exact W.iret (v := jrem (p0 * p1) 101) hx hb hr (fun t ht hW => ⟨rfl, by rw [ht]; exact hP, hS.F ht⟩) hS.2.2 dX0_times_18
def f_X0_power_l8 (k8 : Int32 → Int32 → Int32 → Option (Int32)) (fu : Nat) (E : Nat → Int32) (x1 : Int32) (x2 : Int32) : Nat → Int32 → Int32 → Int32 → Option (Int32)
  | 0, _, _, _ => none
  | n + 1, x3, x4, x5 =>
    if x5 ≤ 0 then
      k8 x3 x4 x5
    else
      if (x5 &&& 1) = 1 then
        (f_X0_times E x3 x4).bind (fun u6 =>
        (f_X0_times E x4 x4).bind (fun u8 =>
        nm (x5 >>> (1 &&& 31)) (fun v10 =>
        f_X0_power_l8 k8 fu E x1 x2 n u6 u8 v10)))
      else
        (f_X0_times E x4 x4).bind (fun u3 =>
        nm (x5 >>> (1 &&& 31)) (fun v5 =>
        f_X0_power_l8 k8 fu E x1 x2 n x3 u3 v5))
def f_X0_power (fu : Nat) (E : Nat → Int32) (p0 : Int32) (p1 : Int32) : Option (Int32) :=
  f_X0_power_l8 (fun y11 y12 y13 =>
    some y11) fu E p0 p1 fu 1 p0 p1
set_option maxHeartbeats 4000000 in
set_option maxRecDepth 100000 in
theorem C_X0_power (l : Launch) (D : va_G) (tys : List (ClassId × FieldType)) (nw : List Cond) (hn : nw.all nw_kind = true) (hnw : ∀ w ∈ nw0, w ∈ nw) {ad : Nat → Nat} (hj : ww_inj 46 ad) {cI : ClassId} {cR : ClassId} (htI : tys[0]? = some (cI, .int)) (htR : tys[1]? = some (cR, .object RX2)) {fu : Nat} {M : Fin 20 → Nat → Int32} {E : Nat → Int32} {P : Nat → Fin 20} {C : Nat → Int32} {N : Nat → Int32} {p0 : Int32} {p1 : Int32} {res : Int32} (hf : f_X0_power fu E p0 p1 = some res) :
    Met l yX0_power wsX0_power ({ frames := 1, cells := 0, slots := 0, locals := 34 }) (va_Pc [.ref (ad 40), .int p0, .int p1] (ws_B D tys nw (ww 46 ad (cellC cI cR ad M E P C N)))) (ct_Q D (ww 46 ad (cellC cI cR ad M E P C N)) (ww_A 46 ad) (some (.int res))) 0 0 (ww_A 46 ad) := by
  refine Met.ofW (cc := cX0_power) (maxL := 6) (ret := (some .int)) (by decide) rfl ?_
  intro p e s m args below meth c s₁ B hml hv
  obtain ⟨rfl, hP, hK, hN⟩ := hv
  have hx := B.exec
  have hb := B.bytes
  have hr := B.returns
  have hts := atoms_spec (ws := wsX0_power) B.pre
  have hown : s.vm.findClass RX0 = some m.cls := findClass_of_methodNamed B.named
  have hlocks := B.notSynchronized
  have hS : va_S (ww_A 46 ad) s.heap s.heap [] := va_S.rf
  have hl := lv_entry ([.ref (ad 40), .int p0, .int p1]) (n := 6) (Nat.le_of_ble_eq_true rfl)
  rw [lg_entry_eq]
  generalize (lg_sl ([.ref (ad 40), .int p0, .int p1]) ++ List.replicate (6 - (lg_sl ([.ref (ad 40), .int p0, .int p1])).length) Slot.unset).toArray = ls at hl ⊢
  have hl : lv_has ls 6 [(0, .ref (ad 40)), (1, .int p0), (2, .int p1)] := hl
  have L8 : ∀ (x1 : Int32) (x2 : Int32) (k8 : Int32 → Int32 → Int32 → Option (Int32)), (∀ (x3 : Int32) (x4 : Int32) (x5 : Int32) (H : Heap) (locs : List Loc) (ls : Array Slot), va_P D vwCl (ww 46 ad (cellC cI cR ad M E P C N)) H → va_S (ww_A 46 ad) s.heap H locs → lv_has ls 6 [(0, .ref (ad 40)), (1, .int x1), (2, .int x2), (3, .int x3), (4, .int x4), (5, .int x5)] →  k8 x3 x4 x5 = some res → W p l e (headSpec wsX0_power { frames := 1, cells := 0, slots := 0, locals := 34 }).room s m [.ref (ad 40), .int p0, .int p1].toArray below meth c H locs 0 0 (MQ below (ct_Q D (ww 46 ad (cellC cI cR ad M E P C N)) (ww_A 46 ad) (some (.int res))) [.ref (ad 40), .int p0, .int p1].toArray s 0 0 (ww_A 46 ad)) (F0 m 48 ls [])) → ∀ (n : Nat) (x3 : Int32) (x4 : Int32) (x5 : Int32) (H : Heap) (locs : List Loc) (ls : Array Slot), va_P D vwCl (ww 46 ad (cellC cI cR ad M E P C N)) H → va_S (ww_A 46 ad) s.heap H locs → lv_has ls 6 [(0, .ref (ad 40)), (1, .int x1), (2, .int x2), (3, .int x3), (4, .int x4), (5, .int x5)] →  f_X0_power_l8 k8 fu E x1 x2 n x3 x4 x5 = some res → W p l e (headSpec wsX0_power { frames := 1, cells := 0, slots := 0, locals := 34 }).room s m [.ref (ad 40), .int p0, .int p1].toArray below meth c H locs 0 0 (MQ below (ct_Q D (ww 46 ad (cellC cI cR ad M E P C N)) (ww_A 46 ad) (some (.int res))) [.ref (ad 40), .int p0, .int p1].toArray s 0 0 (ww_A 46 ad)) (F0 m 8 ls []) := by
    intro x1 x2 k8 hk_8 n
    induction n with
    | zero => intro x3 x4 x5 H locs ls hP hS hl hf; rw [f_X0_power_l8] at hf; cases hf
    | succ n ih =>
      intro x3 x4 x5 H locs ls hP hS hl hf
      rw [f_X0_power_l8] at hf
      refine lv_iload hx hb dX0_power_8 (lv_at hl 5 rfl) ?_
      refine lv_if_le (tgt := 48) hx hb dX0_power_10 (by decide) (fun c1 => ?_) (fun c1 => ?_)
      · rw [if_pos c1] at hf
        exact hk_8 x3 x4 x5 _ _ _ hP hS (lv_sub hl [0, 1, 2, 3, 4, 5] rfl) hf
      · rw [if_neg c1] at hf
        refine lv_iload hx hb dX0_power_13 (lv_at hl 5 rfl) ?_
        refine lv_iconst (v := 1) hx hb dX0_power_15 (by decide) ?_
        refine lv_iand hx hb dX0_power_16 ?_
        refine lv_iconst (v := 1) hx hb dX0_power_17 (by decide) ?_
        refine lv_icmp_ne (tgt := 29) hx hb dX0_power_18 (by decide) (fun c2 => ?_) (fun c2 => ?_)
        · rw [if_neg c2] at hf
          refine lv_aload_n hx hb dX0_power_29 rfl (lv_at hl 0 rfl) ?_
          refine lv_iload hx hb dX0_power_30 (lv_at hl 4 rfl) ?_
          refine lv_iload hx hb dX0_power_32 (lv_at hl 4 rfl) ?_
          obtain ⟨u3, g4, hf⟩ := Option.bind_eq_some_iff.mp hf
          try dsimp only at hf
          refine ct_call (va_runV (As := [.int x4, .int x4]) (rest := []) ⟨hx, hb, hml, hown, hts⟩ (C_X0_times l D tys nw hn hnw hj htI htR (res := u3) g4) (cwV 2 hts gX0_power_X0_times rfl rfl rfl (by decide +kernel) ⟨Nat.le_of_ble_eq_true rfl, Nat.le_of_ble_eq_true rfl⟩) (ct_preV hn hP hK hN (ci := 0) (k := 40) rfl (by decide) rfl) rfl rfl hl.1 rfl (lv_room (Nat.le_of_ble_eq_true rfl)) dX0_power_34 ⟨Nat.zero_le _, Nat.zero_le _⟩) hS (fun H locs hP hS => ?_)
          refine lv_istore (lv' := [(4, .int u3), (0, .ref (ad 40)), (1, .int x1), (2, .int x2), (3, .int x3), (5, .int x5)]) hx hb dX0_power_37 hl (by decide) rfl (fun ls hl => ?_)
          refine lv_iload hx hb dX0_power_39 (lv_at hl 5 rfl) ?_
          refine lv_iconst (v := 1) hx hb dX0_power_41 (by decide) ?_
          refine lv_ishr hx hb dX0_power_42 ?_
          obtain ⟨v5, ev5, hf⟩ := nm_elim hf
          try dsimp only at hf
          refine tp_I ev5 ?_
          refine lv_istore (lv' := [(5, .int v5), (4, .int u3), (0, .ref (ad 40)), (1, .int x1), (2, .int x2), (3, .int x3)]) hx hb dX0_power_43 hl (by decide) rfl (fun ls hl => ?_)
          refine lv_goto (tgt := 8) hx hb dX0_power_45 (by decide) ?_
          exact ih x3 u3 v5 _ _ _ hP hS (lv_sub hl [2, 3, 4, 5, 1, 0] rfl) hf
        · rw [if_pos c2] at hf
          refine lv_aload_n hx hb dX0_power_21 rfl (lv_at hl 0 rfl) ?_
          refine lv_iload_n hx hb dX0_power_22 rfl (lv_at hl 3 rfl) ?_
          refine lv_iload hx hb dX0_power_23 (lv_at hl 4 rfl) ?_
          obtain ⟨u6, g7, hf⟩ := Option.bind_eq_some_iff.mp hf
          try dsimp only at hf
          refine ct_call (va_runV (As := [.int x3, .int x4]) (rest := []) ⟨hx, hb, hml, hown, hts⟩ (C_X0_times l D tys nw hn hnw hj htI htR (res := u6) g7) (cwV 2 hts gX0_power_X0_times rfl rfl rfl (by decide +kernel) ⟨Nat.le_of_ble_eq_true rfl, Nat.le_of_ble_eq_true rfl⟩) (ct_preV hn hP hK hN (ci := 0) (k := 40) rfl (by decide) rfl) rfl rfl hl.1 rfl (lv_room (Nat.le_of_ble_eq_true rfl)) dX0_power_25 ⟨Nat.zero_le _, Nat.zero_le _⟩) hS (fun H locs hP hS => ?_)
          refine lv_istore_n (lv' := [(3, .int u6), (0, .ref (ad 40)), (1, .int x1), (2, .int x2), (4, .int x4), (5, .int x5)]) hx hb dX0_power_28 rfl hl (by decide) rfl (fun ls hl => ?_)
          refine lv_aload_n hx hb dX0_power_29 rfl (lv_at hl 1 rfl) ?_
          refine lv_iload hx hb dX0_power_30 (lv_at hl 4 rfl) ?_
          refine lv_iload hx hb dX0_power_32 (lv_at hl 4 rfl) ?_
          obtain ⟨u8, g9, hf⟩ := Option.bind_eq_some_iff.mp hf
          try dsimp only at hf
          refine ct_call (va_runV (As := [.int x4, .int x4]) (rest := []) ⟨hx, hb, hml, hown, hts⟩ (C_X0_times l D tys nw hn hnw hj htI htR (res := u8) g9) (cwV 2 hts gX0_power_X0_times rfl rfl rfl (by decide +kernel) ⟨Nat.le_of_ble_eq_true rfl, Nat.le_of_ble_eq_true rfl⟩) (ct_preV hn hP hK hN (ci := 0) (k := 40) rfl (by decide) rfl) rfl rfl hl.1 rfl (lv_room (Nat.le_of_ble_eq_true rfl)) dX0_power_34 ⟨Nat.zero_le _, Nat.zero_le _⟩) hS (fun H locs hP hS => ?_)
          refine lv_istore (lv' := [(4, .int u8), (3, .int u6), (0, .ref (ad 40)), (1, .int x1), (2, .int x2), (5, .int x5)]) hx hb dX0_power_37 hl (by decide) rfl (fun ls hl => ?_)
          refine lv_iload hx hb dX0_power_39 (lv_at hl 5 rfl) ?_
          refine lv_iconst (v := 1) hx hb dX0_power_41 (by decide) ?_
          refine lv_ishr hx hb dX0_power_42 ?_
          obtain ⟨v10, ev10, hf⟩ := nm_elim hf
          try dsimp only at hf
          refine tp_I ev10 ?_
          refine lv_istore (lv' := [(5, .int v10), (4, .int u8), (3, .int u6), (0, .ref (ad 40)), (1, .int x1), (2, .int x2)]) hx hb dX0_power_43 hl (by decide) rfl (fun ls hl => ?_)
          refine lv_goto (tgt := 8) hx hb dX0_power_45 (by decide) ?_
          exact ih u6 u8 v10 _ _ _ hP hS (lv_sub hl [3, 4, 5, 2, 1, 0] rfl) hf
  unfold f_X0_power at hf
  refine lv_iconst (v := 1) hx hb dX0_power_0 (by decide) ?_
  refine lv_istore_n (lv' := [(3, .int 1), (0, .ref (ad 40)), (1, .int p0), (2, .int p1)]) hx hb dX0_power_1 rfl hl (by decide) rfl (fun ls hl => ?_)
  refine lv_iload_n hx hb dX0_power_2 rfl (lv_at hl 2 rfl) ?_
  refine lv_istore (lv' := [(4, .int p0), (3, .int 1), (0, .ref (ad 40)), (1, .int p0), (2, .int p1)]) hx hb dX0_power_3 hl (by decide) rfl (fun ls hl => ?_)
  refine lv_iload_n hx hb dX0_power_5 rfl (lv_at hl 4 rfl) ?_
  refine lv_istore (lv' := [(5, .int p1), (4, .int p0), (3, .int 1), (0, .ref (ad 40)), (1, .int p0), (2, .int p1)]) hx hb dX0_power_6 hl (by decide) rfl (fun ls hl => ?_)
  refine L8 p0 p1 _ (fun y11 y12 y13 H locs ls hP hS hl hf => ?_) fu 1 p0 p1 _ _ _ hP hS (lv_sub hl [3, 4, 5, 2, 1, 0] rfl) hf
  try dsimp only at hf
  refine lv_iload_n hx hb dX0_power_48 rfl (lv_at hl 3 rfl) ?_
  obtain rfl := Option.some.inj hf
  exact W.iret (v := y11) hx hb hr (fun t ht hW => ⟨rfl, by rw [ht]; exact hP, hS.F ht⟩) hS.2.2 dX0_power_49
def f_X0_mate (E : Nat → Int32) (p0 : Int32) : Option (Int32) :=
  (f_X0_times E (p0 / 10201) (E 7)).bind (fun u1 =>
  (f_X0_times E (jrem (p0 / 101) 101) (E 6)).bind (fun u3 =>
  (f_X0_plus u3 u1).bind (fun u5 =>
  (f_X0_plus (jrem p0 101) u5).bind (fun u7 =>
  some u7))))
set_option maxHeartbeats 4000000 in
set_option maxRecDepth 100000 in
theorem C_X0_mate (l : Launch) (D : va_G) (tys : List (ClassId × FieldType)) (nw : List Cond) (hn : nw.all nw_kind = true) (hnw : ∀ w ∈ nw0, w ∈ nw) {ad : Nat → Nat} (hj : ww_inj 46 ad) {cI : ClassId} {cR : ClassId} (htI : tys[0]? = some (cI, .int)) (htR : tys[1]? = some (cR, .object RX2)) {M : Fin 20 → Nat → Int32} {E : Nat → Int32} {P : Nat → Fin 20} {C : Nat → Int32} {N : Nat → Int32} {p0 : Int32} {res : Int32} (hf : f_X0_mate E p0 = some res) :
    Met l yX0_mate wsX0_mate ({ frames := 1, cells := 0, slots := 0, locals := 34 }) (va_Pc [.ref (ad 40), .int p0] (ws_B D tys nw (ww 46 ad (cellC cI cR ad M E P C N)))) (ct_Q D (ww 46 ad (cellC cI cR ad M E P C N)) (ww_A 46 ad) (some (.int res))) 0 0 (ww_A 46 ad) := by
  refine Met.ofW (cc := cX0_mate) (maxL := 4) (ret := (some .int)) (by decide) rfl ?_
  intro p e s m args below meth c s₁ B hml hv
  obtain ⟨rfl, hP, hK, hN⟩ := hv
  have hx := B.exec
  have hb := B.bytes
  have hr := B.returns
  have hts := atoms_spec (ws := wsX0_mate) B.pre
  have hown : s.vm.findClass RX0 = some m.cls := findClass_of_methodNamed B.named
  have hlocks := B.notSynchronized
  have hS : va_S (ww_A 46 ad) s.heap s.heap [] := va_S.rf
  have hl := lv_entry ([.ref (ad 40), .int p0]) (n := 4) (Nat.le_of_ble_eq_true rfl)
  rw [lg_entry_eq]
  generalize (lg_sl ([.ref (ad 40), .int p0]) ++ List.replicate (4 - (lg_sl ([.ref (ad 40), .int p0])).length) Slot.unset).toArray = ls at hl ⊢
  have hl : lv_has ls 4 [(0, .ref (ad 40)), (1, .int p0)] := hl
  unfold f_X0_mate at hf
  refine lv_aload_n hx hb dX0_mate_0 rfl (lv_at hl 0 rfl) ?_
  refine lv_iload_n hx hb dX0_mate_1 rfl (lv_at hl 1 rfl) ?_
  refine lv_sipush (v := 10201) hx hb dX0_mate_2 (by decide) ?_
  refine lv_idiv hx hb dX0_mate_5 (by decide) ?_
  refine lv_aload_n hx hb dX0_mate_6 rfl (lv_at hl 0 rfl) ?_
  refine va_get (ci := 0) (v := .int (E 7)) (C := RX0) (T := TX0) (N := 8) hx hb hts (by decide +kernel) hown hK hP 40 cc_ext rfl 7 (by decide) (hts (.fieldLink RX0 33 "NumberFieldFactors$Extension" "mateOfTSquared" "I") (by decide +kernel)) (fun _ h9 => h9) rfl dX0_mate_7 ?_
  obtain ⟨u1, g2, hf⟩ := Option.bind_eq_some_iff.mp hf
  try dsimp only at hf
  refine ct_call (va_runV (As := [.int (p0 / 10201), .int (E 7)]) (rest := []) ⟨hx, hb, hml, hown, hts⟩ (C_X0_times l D tys nw hn hnw hj htI htR (res := u1) g2) (cwV 2 hts gX0_mate_X0_times rfl rfl rfl (by decide +kernel) ⟨Nat.le_of_ble_eq_true rfl, Nat.le_of_ble_eq_true rfl⟩) (ct_preV hn hP hK hN (ci := 0) (k := 40) rfl (by decide) rfl) rfl rfl hl.1 rfl (lv_room (Nat.le_of_ble_eq_true rfl)) dX0_mate_10 ⟨Nat.zero_le _, Nat.zero_le _⟩) hS (fun H locs hP hS => ?_)
  refine lv_istore_n (lv' := [(2, .int u1), (0, .ref (ad 40)), (1, .int p0)]) hx hb dX0_mate_13 rfl hl (by decide) rfl (fun ls hl => ?_)
  refine lv_aload_n hx hb dX0_mate_14 rfl (lv_at hl 1 rfl) ?_
  refine lv_iload_n hx hb dX0_mate_15 rfl (lv_at hl 2 rfl) ?_
  refine lv_bipush (v := 101) hx hb dX0_mate_16 (by decide) ?_
  refine lv_idiv hx hb dX0_mate_18 (by decide) ?_
  refine lv_bipush (v := 101) hx hb dX0_mate_19 (by decide) ?_
  refine jv_irem hx hb dX0_mate_21 (by decide) ?_
  refine lv_aload_n hx hb dX0_mate_22 rfl (lv_at hl 1 rfl) ?_
  refine va_get (ci := 0) (v := .int (E 6)) (C := RX0) (T := TX0) (N := 8) hx hb hts (by decide +kernel) hown hK hP 40 cc_ext rfl 6 (by decide) (hts (.fieldLink RX0 30 "NumberFieldFactors$Extension" "mateOfT" "I") (by decide +kernel)) (fun _ h9 => h9) rfl dX0_mate_23 ?_
  obtain ⟨u3, g4, hf⟩ := Option.bind_eq_some_iff.mp hf
  try dsimp only at hf
  refine ct_call (va_runV (As := [.int (jrem (p0 / 101) 101), .int (E 6)]) (rest := []) ⟨hx, hb, hml, hown, hts⟩ (C_X0_times l D tys nw hn hnw hj htI htR (res := u3) g4) (cwV 2 hts gX0_mate_X0_times rfl rfl rfl (by decide +kernel) ⟨Nat.le_of_ble_eq_true rfl, Nat.le_of_ble_eq_true rfl⟩) (ct_preV hn hP hK hN (ci := 0) (k := 40) rfl (by decide) rfl) rfl rfl hl.1 rfl (lv_room (Nat.le_of_ble_eq_true rfl)) dX0_mate_26 ⟨Nat.zero_le _, Nat.zero_le _⟩) hS (fun H locs hP hS => ?_)
  refine lv_istore_n (lv' := [(3, .int u3), (2, .int u1), (0, .ref (ad 40)), (1, .int p0)]) hx hb dX0_mate_29 rfl hl (by decide) rfl (fun ls hl => ?_)
  refine lv_aload_n hx hb dX0_mate_30 rfl (lv_at hl 2 rfl) ?_
  refine lv_iload_n hx hb dX0_mate_31 rfl (lv_at hl 3 rfl) ?_
  refine lv_bipush (v := 101) hx hb dX0_mate_32 (by decide) ?_
  refine jv_irem hx hb dX0_mate_34 (by decide) ?_
  refine lv_aload_n hx hb dX0_mate_35 rfl (lv_at hl 2 rfl) ?_
  refine lv_iload_n hx hb dX0_mate_36 rfl (lv_at hl 0 rfl) ?_
  refine lv_iload_n hx hb dX0_mate_37 rfl (lv_at hl 1 rfl) ?_
  obtain ⟨u5, g6, hf⟩ := Option.bind_eq_some_iff.mp hf
  try dsimp only at hf
  refine ct_call (va_runV (As := [.int u3, .int u1]) (rest := [.int (jrem p0 101), .ref (ad 40)]) ⟨hx, hb, hml, hown, hts⟩ (C_X0_plus l D tys nw hn hnw hj htI htR (res := u5) g6) (cwV 2 hts gX0_mate_X0_plus rfl rfl rfl (by decide +kernel) ⟨Nat.le_of_ble_eq_true rfl, Nat.le_of_ble_eq_true rfl⟩) (ct_preV hn hP hK hN (ci := 0) (k := 40) rfl (by decide) rfl) rfl rfl hl.1 rfl (lv_room (Nat.le_of_ble_eq_true rfl)) dX0_mate_38 ⟨Nat.zero_le _, Nat.zero_le _⟩) hS (fun H locs hP hS => ?_)
  obtain ⟨u7, g8, hf⟩ := Option.bind_eq_some_iff.mp hf
  try dsimp only at hf
  refine ct_call (va_runV (As := [.int (jrem p0 101), .int u5]) (rest := []) ⟨hx, hb, hml, hown, hts⟩ (C_X0_plus l D tys nw hn hnw hj htI htR (res := u7) g8) (cwV 2 hts gX0_mate_X0_plus rfl rfl rfl (by decide +kernel) ⟨Nat.le_of_ble_eq_true rfl, Nat.le_of_ble_eq_true rfl⟩) (ct_preV hn hP hK hN (ci := 0) (k := 40) rfl (by decide) rfl) rfl rfl hl.1 rfl (lv_room (Nat.le_of_ble_eq_true rfl)) dX0_mate_41 ⟨Nat.zero_le _, Nat.zero_le _⟩) hS (fun H locs hP hS => ?_)
  obtain rfl := Option.some.inj hf
  exact W.iret (v := u7) hx hb hr (fun t ht hW => ⟨rfl, by rw [ht]; exact hP, hS.F ht⟩) hS.2.2 dX0_mate_44
def f_X0_isSquare (fu : Nat) (E : Nat → Int32) (p0 : Int32) : Option (Int32) :=
  if p0 = 0 then
    some 1
  else
    (f_X0_power fu E p0 ((E 1) / 2)).bind (fun u2 =>
    if u2 = 1 then
      some 1
    else
      some 0)
set_option maxHeartbeats 4000000 in
set_option maxRecDepth 100000 in
theorem C_X0_isSquare (l : Launch) (D : va_G) (tys : List (ClassId × FieldType)) (nw : List Cond) (hn : nw.all nw_kind = true) (hnw : ∀ w ∈ nw0, w ∈ nw) {ad : Nat → Nat} (hj : ww_inj 46 ad) {cI : ClassId} {cR : ClassId} (htI : tys[0]? = some (cI, .int)) (htR : tys[1]? = some (cR, .object RX2)) {fu : Nat} {M : Fin 20 → Nat → Int32} {E : Nat → Int32} {P : Nat → Fin 20} {C : Nat → Int32} {N : Nat → Int32} {p0 : Int32} {res : Int32} (hf : f_X0_isSquare fu E p0 = some res) :
    Met l yX0_isSquare wsX0_isSquare ({ frames := 2, cells := 0, slots := 0, locals := 59 }) (va_Pc [.ref (ad 40), .int p0] (ws_B D tys nw (ww 46 ad (cellC cI cR ad M E P C N)))) (ct_Q D (ww 46 ad (cellC cI cR ad M E P C N)) (ww_A 46 ad) (some (.int res))) 0 0 (ww_A 46 ad) := by
  refine Met.ofW (cc := cX0_isSquare) (maxL := 2) (ret := (some .boolean)) (by decide) rfl ?_
  intro p e s m args below meth c s₁ B hml hv
  obtain ⟨rfl, hP, hK, hN⟩ := hv
  have hx := B.exec
  have hb := B.bytes
  have hr := B.returns
  have hts := atoms_spec (ws := wsX0_isSquare) B.pre
  have hown : s.vm.findClass RX0 = some m.cls := findClass_of_methodNamed B.named
  have hlocks := B.notSynchronized
  have hS : va_S (ww_A 46 ad) s.heap s.heap [] := va_S.rf
  have hl := lv_entry ([.ref (ad 40), .int p0]) (n := 2) (Nat.le_of_ble_eq_true rfl)
  rw [lg_entry_eq]
  generalize (lg_sl ([.ref (ad 40), .int p0]) ++ List.replicate (2 - (lg_sl ([.ref (ad 40), .int p0])).length) Slot.unset).toArray = ls at hl ⊢
  have hl : lv_has ls 2 [(0, .ref (ad 40)), (1, .int p0)] := hl
  unfold f_X0_isSquare at hf
  refine lv_iload_n hx hb dX0_isSquare_0 rfl (lv_at hl 1 rfl) ?_
  refine lv_if_eq (tgt := 19) hx hb dX0_isSquare_1 (by decide) (fun c1 => ?_) (fun c1 => ?_)
  · rw [if_pos c1] at hf
    refine lv_iconst (v := 1) hx hb dX0_isSquare_19 (by decide) ?_
    refine lv_goto (tgt := 24) hx hb dX0_isSquare_20 (by decide) ?_
    obtain rfl := Option.some.inj hf
    exact W.zret (v := 1) (ty := .boolean) hx hb hr (by decide) (fun t ht hW => ⟨rfl, by rw [ht]; exact hP, hS.F ht⟩) hS.2.2 dX0_isSquare_24
  · rw [if_neg c1] at hf
    refine lv_aload_n hx hb dX0_isSquare_4 rfl (lv_at hl 0 rfl) ?_
    refine lv_iload_n hx hb dX0_isSquare_5 rfl (lv_at hl 1 rfl) ?_
    refine lv_aload_n hx hb dX0_isSquare_6 rfl (lv_at hl 0 rfl) ?_
    refine va_get (ci := 0) (v := .int (E 1)) (C := RX0) (T := TX0) (N := 8) hx hb hts (by decide +kernel) hown hK hP 40 cc_ext rfl 1 (by decide) (hts (.fieldLink RX0 15 "NumberFieldFactors$Extension" "size" "I") (by decide +kernel)) (fun _ h9 => h9) rfl dX0_isSquare_7 ?_
    refine lv_iconst (v := 2) hx hb dX0_isSquare_10 (by decide) ?_
    refine lv_idiv hx hb dX0_isSquare_11 (by decide) ?_
    obtain ⟨u2, g3, hf⟩ := Option.bind_eq_some_iff.mp hf
    try dsimp only at hf
    refine ct_call (va_runV (As := [.int p0, .int ((E 1) / 2)]) (rest := []) ⟨hx, hb, hml, hown, hts⟩ (C_X0_power l D tys nw hn hnw hj htI htR (res := u2) g3) (cwV 2 hts gX0_isSquare_X0_power rfl rfl rfl (by decide +kernel) ⟨Nat.le_of_ble_eq_true rfl, Nat.le_of_ble_eq_true rfl⟩) (ct_preV hn hP hK hN (ci := 0) (k := 40) rfl (by decide) rfl) rfl rfl hl.1 rfl (lv_room (Nat.le_of_ble_eq_true rfl)) dX0_isSquare_12 ⟨Nat.zero_le _, Nat.zero_le _⟩) hS (fun H locs hP hS => ?_)
    refine lv_iconst (v := 1) hx hb dX0_isSquare_15 (by decide) ?_
    refine lv_icmp_ne (tgt := 23) hx hb dX0_isSquare_16 (by decide) (fun c4 => ?_) (fun c4 => ?_)
    · rw [if_neg c4] at hf
      refine lv_iconst (v := 0) hx hb dX0_isSquare_23 (by decide) ?_
      obtain rfl := Option.some.inj hf
      exact W.zret (v := 0) (ty := .boolean) hx hb hr (by decide) (fun t ht hW => ⟨rfl, by rw [ht]; exact hP, hS.F ht⟩) hS.2.2 dX0_isSquare_24
    · rw [if_pos c4] at hf
      refine lv_iconst (v := 1) hx hb dX0_isSquare_19 (by decide) ?_
      refine lv_goto (tgt := 24) hx hb dX0_isSquare_20 (by decide) ?_
      obtain rfl := Option.some.inj hf
      exact W.zret (v := 1) (ty := .boolean) hx hb hr (by decide) (fun t ht hW => ⟨rfl, by rw [ht]; exact hP, hS.F ht⟩) hS.2.2 dX0_isSquare_24
def f_X0_matesProduct_l7 (k7 : Int32 → Int32 → Int32 → Option (Int32)) (fu : Nat) (E : Nat → Int32) (x1 : Int32) : Nat → Int32 → Int32 → Int32 → Option (Int32)
  | 0, _, _, _ => none
  | n + 1, x2, x3, x4 =>
    if (E 0) ≤ x4 then
      k7 x2 x3 x4
    else
      (f_X0_mate E x3).bind (fun u2 =>
      (f_X0_times E x2 u2).bind (fun u4 =>
      f_X0_matesProduct_l7 k7 fu E x1 n u4 u2 (x4 + 1)))
def f_X0_matesProduct (fu : Nat) (E : Nat → Int32) (p0 : Int32) : Option (Int32) :=
  f_X0_matesProduct_l7 (fun y6 y7 y8 =>
    some y6) fu E p0 fu p0 p0 1
set_option maxHeartbeats 4000000 in
set_option maxRecDepth 100000 in
theorem C_X0_matesProduct (l : Launch) (D : va_G) (tys : List (ClassId × FieldType)) (nw : List Cond) (hn : nw.all nw_kind = true) (hnw : ∀ w ∈ nw0, w ∈ nw) {ad : Nat → Nat} (hj : ww_inj 46 ad) {cI : ClassId} {cR : ClassId} (htI : tys[0]? = some (cI, .int)) (htR : tys[1]? = some (cR, .object RX2)) {fu : Nat} {M : Fin 20 → Nat → Int32} {E : Nat → Int32} {P : Nat → Fin 20} {C : Nat → Int32} {N : Nat → Int32} {p0 : Int32} {res : Int32} (hf : f_X0_matesProduct fu E p0 = some res) :
    Met l yX0_matesProduct wsX0_matesProduct ({ frames := 2, cells := 0, slots := 0, locals := 57 }) (va_Pc [.ref (ad 40), .int p0] (ws_B D tys nw (ww 46 ad (cellC cI cR ad M E P C N)))) (ct_Q D (ww 46 ad (cellC cI cR ad M E P C N)) (ww_A 46 ad) (some (.int res))) 0 0 (ww_A 46 ad) := by
  refine Met.ofW (cc := cX0_matesProduct) (maxL := 5) (ret := (some .int)) (by decide) rfl ?_
  intro p e s m args below meth c s₁ B hml hv
  obtain ⟨rfl, hP, hK, hN⟩ := hv
  have hx := B.exec
  have hb := B.bytes
  have hr := B.returns
  have hts := atoms_spec (ws := wsX0_matesProduct) B.pre
  have hown : s.vm.findClass RX0 = some m.cls := findClass_of_methodNamed B.named
  have hlocks := B.notSynchronized
  have hS : va_S (ww_A 46 ad) s.heap s.heap [] := va_S.rf
  have hl := lv_entry ([.ref (ad 40), .int p0]) (n := 5) (Nat.le_of_ble_eq_true rfl)
  rw [lg_entry_eq]
  generalize (lg_sl ([.ref (ad 40), .int p0]) ++ List.replicate (5 - (lg_sl ([.ref (ad 40), .int p0])).length) Slot.unset).toArray = ls at hl ⊢
  have hl : lv_has ls 5 [(0, .ref (ad 40)), (1, .int p0)] := hl
  have L7 : ∀ (x1 : Int32) (k7 : Int32 → Int32 → Int32 → Option (Int32)), (∀ (x2 : Int32) (x3 : Int32) (x4 : Int32) (H : Heap) (locs : List Loc) (ls : Array Slot), va_P D vwCl (ww 46 ad (cellC cI cR ad M E P C N)) H → va_S (ww_A 46 ad) s.heap H locs → lv_has ls 5 [(0, .ref (ad 40)), (1, .int x1), (2, .int x2), (3, .int x3), (4, .int x4)] →  k7 x2 x3 x4 = some res → W p l e (headSpec wsX0_matesProduct { frames := 2, cells := 0, slots := 0, locals := 57 }).room s m [.ref (ad 40), .int p0].toArray below meth c H locs 0 0 (MQ below (ct_Q D (ww 46 ad (cellC cI cR ad M E P C N)) (ww_A 46 ad) (some (.int res))) [.ref (ad 40), .int p0].toArray s 0 0 (ww_A 46 ad)) (F0 m 35 ls [])) → ∀ (n : Nat) (x2 : Int32) (x3 : Int32) (x4 : Int32) (H : Heap) (locs : List Loc) (ls : Array Slot), va_P D vwCl (ww 46 ad (cellC cI cR ad M E P C N)) H → va_S (ww_A 46 ad) s.heap H locs → lv_has ls 5 [(0, .ref (ad 40)), (1, .int x1), (2, .int x2), (3, .int x3), (4, .int x4)] →  f_X0_matesProduct_l7 k7 fu E x1 n x2 x3 x4 = some res → W p l e (headSpec wsX0_matesProduct { frames := 2, cells := 0, slots := 0, locals := 57 }).room s m [.ref (ad 40), .int p0].toArray below meth c H locs 0 0 (MQ below (ct_Q D (ww 46 ad (cellC cI cR ad M E P C N)) (ww_A 46 ad) (some (.int res))) [.ref (ad 40), .int p0].toArray s 0 0 (ww_A 46 ad)) (F0 m 7 ls []) := by
    intro x1 k7 hk_7 n
    induction n with
    | zero => intro x2 x3 x4 H locs ls hP hS hl hf; rw [f_X0_matesProduct_l7] at hf; cases hf
    | succ n ih =>
      intro x2 x3 x4 H locs ls hP hS hl hf
      rw [f_X0_matesProduct_l7] at hf
      refine lv_iload hx hb dX0_matesProduct_7 (lv_at hl 4 rfl) ?_
      refine lv_aload_n hx hb dX0_matesProduct_9 rfl (lv_at hl 0 rfl) ?_
      refine va_get (ci := 0) (v := .int (E 0)) (C := RX0) (T := TX0) (N := 8) hx hb hts (by decide +kernel) hown hK hP 40 cc_ext rfl 0 (by decide) (hts (.fieldLink RX0 9 "NumberFieldFactors$Extension" "degree" "I") (by decide +kernel)) (fun _ h9 => h9) rfl dX0_matesProduct_10 ?_
      refine lv_icmp_ge (tgt := 35) hx hb dX0_matesProduct_13 (by decide) (fun c1 => ?_) (fun c1 => ?_)
      · rw [if_pos c1] at hf
        exact hk_7 x2 x3 x4 _ _ _ hP hS (lv_sub hl [0, 1, 2, 3, 4] rfl) hf
      · rw [if_neg c1] at hf
        refine lv_aload_n hx hb dX0_matesProduct_16 rfl (lv_at hl 0 rfl) ?_
        refine lv_iload_n hx hb dX0_matesProduct_17 rfl (lv_at hl 3 rfl) ?_
        obtain ⟨u2, g3, hf⟩ := Option.bind_eq_some_iff.mp hf
        try dsimp only at hf
        refine ct_call (va_runV (As := [.int x3]) (rest := []) ⟨hx, hb, hml, hown, hts⟩ (C_X0_mate l D tys nw hn hnw hj htI htR (res := u2) g3) (cwV 1 hts gX0_matesProduct_X0_mate rfl rfl rfl (by decide +kernel) ⟨Nat.le_of_ble_eq_true rfl, Nat.le_of_ble_eq_true rfl⟩) (ct_preV hn hP hK hN (ci := 0) (k := 40) rfl (by decide) rfl) rfl rfl hl.1 rfl (lv_room (Nat.le_of_ble_eq_true rfl)) dX0_matesProduct_18 ⟨Nat.zero_le _, Nat.zero_le _⟩) hS (fun H locs hP hS => ?_)
        refine lv_istore_n (lv' := [(3, .int u2), (0, .ref (ad 40)), (1, .int x1), (2, .int x2), (4, .int x4)]) hx hb dX0_matesProduct_21 rfl hl (by decide) rfl (fun ls hl => ?_)
        refine lv_aload_n hx hb dX0_matesProduct_22 rfl (lv_at hl 1 rfl) ?_
        refine lv_iload_n hx hb dX0_matesProduct_23 rfl (lv_at hl 3 rfl) ?_
        refine lv_iload_n hx hb dX0_matesProduct_24 rfl (lv_at hl 0 rfl) ?_
        obtain ⟨u4, g5, hf⟩ := Option.bind_eq_some_iff.mp hf
        try dsimp only at hf
        refine ct_call (va_runV (As := [.int x2, .int u2]) (rest := []) ⟨hx, hb, hml, hown, hts⟩ (C_X0_times l D tys nw hn hnw hj htI htR (res := u4) g5) (cwV 2 hts gX0_matesProduct_X0_times rfl rfl rfl (by decide +kernel) ⟨Nat.le_of_ble_eq_true rfl, Nat.le_of_ble_eq_true rfl⟩) (ct_preV hn hP hK hN (ci := 0) (k := 40) rfl (by decide) rfl) rfl rfl hl.1 rfl (lv_room (Nat.le_of_ble_eq_true rfl)) dX0_matesProduct_25 ⟨Nat.zero_le _, Nat.zero_le _⟩) hS (fun H locs hP hS => ?_)
        refine lv_istore_n (lv' := [(2, .int u4), (3, .int u2), (0, .ref (ad 40)), (1, .int x1), (4, .int x4)]) hx hb dX0_matesProduct_28 rfl hl (by decide) rfl (fun ls hl => ?_)
        refine lv_iinc (v := x4 + 1) (lv' := [(4, .int (x4 + 1)), (2, .int u4), (3, .int u2), (0, .ref (ad 40)), (1, .int x1)]) hx hb dX0_matesProduct_29 hl (k := 4) rfl rfl (by decide) rfl (fun ls hl => ?_)
        refine lv_goto (tgt := 7) hx hb dX0_matesProduct_32 (by decide) ?_
        exact ih u4 u2 (x4 + 1) _ _ _ hP hS (lv_sub hl [3, 4, 1, 2, 0] rfl) hf
  unfold f_X0_matesProduct at hf
  refine lv_iload_n hx hb dX0_matesProduct_0 rfl (lv_at hl 1 rfl) ?_
  refine lv_istore_n (lv' := [(2, .int p0), (0, .ref (ad 40)), (1, .int p0)]) hx hb dX0_matesProduct_1 rfl hl (by decide) rfl (fun ls hl => ?_)
  refine lv_iload_n hx hb dX0_matesProduct_2 rfl (lv_at hl 2 rfl) ?_
  refine lv_istore_n (lv' := [(3, .int p0), (2, .int p0), (0, .ref (ad 40)), (1, .int p0)]) hx hb dX0_matesProduct_3 rfl hl (by decide) rfl (fun ls hl => ?_)
  refine lv_iconst (v := 1) hx hb dX0_matesProduct_4 (by decide) ?_
  refine lv_istore (lv' := [(4, .int 1), (3, .int p0), (2, .int p0), (0, .ref (ad 40)), (1, .int p0)]) hx hb dX0_matesProduct_5 hl (by decide) rfl (fun ls hl => ?_)
  refine L7 p0 _ (fun y6 y7 y8 H locs ls hP hS hl hf => ?_) fu p0 p0 1 _ _ _ hP hS (lv_sub hl [3, 4, 2, 1, 0] rfl) hf
  try dsimp only at hf
  refine lv_iload_n hx hb dX0_matesProduct_35 rfl (lv_at hl 2 rfl) ?_
  obtain rfl := Option.some.inj hf
  exact W.iret (v := y6) hx hb hr (fun t ht hW => ⟨rfl, by rw [ht]; exact hP, hS.F ht⟩) hS.2.2 dX0_matesProduct_36
def f_X0_matesSum_l7 (k7 : Int32 → Int32 → Int32 → Option (Int32)) (fu : Nat) (E : Nat → Int32) (x1 : Int32) : Nat → Int32 → Int32 → Int32 → Option (Int32)
  | 0, _, _, _ => none
  | n + 1, x2, x3, x4 =>
    if (E 0) ≤ x4 then
      k7 x2 x3 x4
    else
      (f_X0_mate E x3).bind (fun u2 =>
      (f_X0_plus x2 u2).bind (fun u4 =>
      f_X0_matesSum_l7 k7 fu E x1 n u4 u2 (x4 + 1)))
def f_X0_matesSum (fu : Nat) (E : Nat → Int32) (p0 : Int32) : Option (Int32) :=
  f_X0_matesSum_l7 (fun y6 y7 y8 =>
    some y6) fu E p0 fu p0 p0 1
set_option maxHeartbeats 4000000 in
set_option maxRecDepth 100000 in
theorem C_X0_matesSum (l : Launch) (D : va_G) (tys : List (ClassId × FieldType)) (nw : List Cond) (hn : nw.all nw_kind = true) (hnw : ∀ w ∈ nw0, w ∈ nw) {ad : Nat → Nat} (hj : ww_inj 46 ad) {cI : ClassId} {cR : ClassId} (htI : tys[0]? = some (cI, .int)) (htR : tys[1]? = some (cR, .object RX2)) {fu : Nat} {M : Fin 20 → Nat → Int32} {E : Nat → Int32} {P : Nat → Fin 20} {C : Nat → Int32} {N : Nat → Int32} {p0 : Int32} {res : Int32} (hf : f_X0_matesSum fu E p0 = some res) :
    Met l yX0_matesSum wsX0_matesSum ({ frames := 2, cells := 0, slots := 0, locals := 57 }) (va_Pc [.ref (ad 40), .int p0] (ws_B D tys nw (ww 46 ad (cellC cI cR ad M E P C N)))) (ct_Q D (ww 46 ad (cellC cI cR ad M E P C N)) (ww_A 46 ad) (some (.int res))) 0 0 (ww_A 46 ad) := by
  refine Met.ofW (cc := cX0_matesSum) (maxL := 5) (ret := (some .int)) (by decide) rfl ?_
  intro p e s m args below meth c s₁ B hml hv
  obtain ⟨rfl, hP, hK, hN⟩ := hv
  have hx := B.exec
  have hb := B.bytes
  have hr := B.returns
  have hts := atoms_spec (ws := wsX0_matesSum) B.pre
  have hown : s.vm.findClass RX0 = some m.cls := findClass_of_methodNamed B.named
  have hlocks := B.notSynchronized
  have hS : va_S (ww_A 46 ad) s.heap s.heap [] := va_S.rf
  have hl := lv_entry ([.ref (ad 40), .int p0]) (n := 5) (Nat.le_of_ble_eq_true rfl)
  rw [lg_entry_eq]
  generalize (lg_sl ([.ref (ad 40), .int p0]) ++ List.replicate (5 - (lg_sl ([.ref (ad 40), .int p0])).length) Slot.unset).toArray = ls at hl ⊢
  have hl : lv_has ls 5 [(0, .ref (ad 40)), (1, .int p0)] := hl
  have L7 : ∀ (x1 : Int32) (k7 : Int32 → Int32 → Int32 → Option (Int32)), (∀ (x2 : Int32) (x3 : Int32) (x4 : Int32) (H : Heap) (locs : List Loc) (ls : Array Slot), va_P D vwCl (ww 46 ad (cellC cI cR ad M E P C N)) H → va_S (ww_A 46 ad) s.heap H locs → lv_has ls 5 [(0, .ref (ad 40)), (1, .int x1), (2, .int x2), (3, .int x3), (4, .int x4)] →  k7 x2 x3 x4 = some res → W p l e (headSpec wsX0_matesSum { frames := 2, cells := 0, slots := 0, locals := 57 }).room s m [.ref (ad 40), .int p0].toArray below meth c H locs 0 0 (MQ below (ct_Q D (ww 46 ad (cellC cI cR ad M E P C N)) (ww_A 46 ad) (some (.int res))) [.ref (ad 40), .int p0].toArray s 0 0 (ww_A 46 ad)) (F0 m 35 ls [])) → ∀ (n : Nat) (x2 : Int32) (x3 : Int32) (x4 : Int32) (H : Heap) (locs : List Loc) (ls : Array Slot), va_P D vwCl (ww 46 ad (cellC cI cR ad M E P C N)) H → va_S (ww_A 46 ad) s.heap H locs → lv_has ls 5 [(0, .ref (ad 40)), (1, .int x1), (2, .int x2), (3, .int x3), (4, .int x4)] →  f_X0_matesSum_l7 k7 fu E x1 n x2 x3 x4 = some res → W p l e (headSpec wsX0_matesSum { frames := 2, cells := 0, slots := 0, locals := 57 }).room s m [.ref (ad 40), .int p0].toArray below meth c H locs 0 0 (MQ below (ct_Q D (ww 46 ad (cellC cI cR ad M E P C N)) (ww_A 46 ad) (some (.int res))) [.ref (ad 40), .int p0].toArray s 0 0 (ww_A 46 ad)) (F0 m 7 ls []) := by
    intro x1 k7 hk_7 n
    induction n with
    | zero => intro x2 x3 x4 H locs ls hP hS hl hf; rw [f_X0_matesSum_l7] at hf; cases hf
    | succ n ih =>
      intro x2 x3 x4 H locs ls hP hS hl hf
      rw [f_X0_matesSum_l7] at hf
      refine lv_iload hx hb dX0_matesSum_7 (lv_at hl 4 rfl) ?_
      refine lv_aload_n hx hb dX0_matesSum_9 rfl (lv_at hl 0 rfl) ?_
      refine va_get (ci := 0) (v := .int (E 0)) (C := RX0) (T := TX0) (N := 8) hx hb hts (by decide +kernel) hown hK hP 40 cc_ext rfl 0 (by decide) (hts (.fieldLink RX0 9 "NumberFieldFactors$Extension" "degree" "I") (by decide +kernel)) (fun _ h9 => h9) rfl dX0_matesSum_10 ?_
      refine lv_icmp_ge (tgt := 35) hx hb dX0_matesSum_13 (by decide) (fun c1 => ?_) (fun c1 => ?_)
      · rw [if_pos c1] at hf
        exact hk_7 x2 x3 x4 _ _ _ hP hS (lv_sub hl [0, 1, 2, 3, 4] rfl) hf
      · rw [if_neg c1] at hf
        refine lv_aload_n hx hb dX0_matesSum_16 rfl (lv_at hl 0 rfl) ?_
        refine lv_iload_n hx hb dX0_matesSum_17 rfl (lv_at hl 3 rfl) ?_
        obtain ⟨u2, g3, hf⟩ := Option.bind_eq_some_iff.mp hf
        try dsimp only at hf
        refine ct_call (va_runV (As := [.int x3]) (rest := []) ⟨hx, hb, hml, hown, hts⟩ (C_X0_mate l D tys nw hn hnw hj htI htR (res := u2) g3) (cwV 1 hts gX0_matesSum_X0_mate rfl rfl rfl (by decide +kernel) ⟨Nat.le_of_ble_eq_true rfl, Nat.le_of_ble_eq_true rfl⟩) (ct_preV hn hP hK hN (ci := 0) (k := 40) rfl (by decide) rfl) rfl rfl hl.1 rfl (lv_room (Nat.le_of_ble_eq_true rfl)) dX0_matesSum_18 ⟨Nat.zero_le _, Nat.zero_le _⟩) hS (fun H locs hP hS => ?_)
        refine lv_istore_n (lv' := [(3, .int u2), (0, .ref (ad 40)), (1, .int x1), (2, .int x2), (4, .int x4)]) hx hb dX0_matesSum_21 rfl hl (by decide) rfl (fun ls hl => ?_)
        refine lv_aload_n hx hb dX0_matesSum_22 rfl (lv_at hl 1 rfl) ?_
        refine lv_iload_n hx hb dX0_matesSum_23 rfl (lv_at hl 3 rfl) ?_
        refine lv_iload_n hx hb dX0_matesSum_24 rfl (lv_at hl 0 rfl) ?_
        obtain ⟨u4, g5, hf⟩ := Option.bind_eq_some_iff.mp hf
        try dsimp only at hf
        refine ct_call (va_runV (As := [.int x2, .int u2]) (rest := []) ⟨hx, hb, hml, hown, hts⟩ (C_X0_plus l D tys nw hn hnw hj htI htR (res := u4) g5) (cwV 2 hts gX0_matesSum_X0_plus rfl rfl rfl (by decide +kernel) ⟨Nat.le_of_ble_eq_true rfl, Nat.le_of_ble_eq_true rfl⟩) (ct_preV hn hP hK hN (ci := 0) (k := 40) rfl (by decide) rfl) rfl rfl hl.1 rfl (lv_room (Nat.le_of_ble_eq_true rfl)) dX0_matesSum_25 ⟨Nat.zero_le _, Nat.zero_le _⟩) hS (fun H locs hP hS => ?_)
        refine lv_istore_n (lv' := [(2, .int u4), (3, .int u2), (0, .ref (ad 40)), (1, .int x1), (4, .int x4)]) hx hb dX0_matesSum_28 rfl hl (by decide) rfl (fun ls hl => ?_)
        refine lv_iinc (v := x4 + 1) (lv' := [(4, .int (x4 + 1)), (2, .int u4), (3, .int u2), (0, .ref (ad 40)), (1, .int x1)]) hx hb dX0_matesSum_29 hl (k := 4) rfl rfl (by decide) rfl (fun ls hl => ?_)
        refine lv_goto (tgt := 7) hx hb dX0_matesSum_32 (by decide) ?_
        exact ih u4 u2 (x4 + 1) _ _ _ hP hS (lv_sub hl [3, 4, 1, 2, 0] rfl) hf
  unfold f_X0_matesSum at hf
  refine lv_iload_n hx hb dX0_matesSum_0 rfl (lv_at hl 1 rfl) ?_
  refine lv_istore_n (lv' := [(2, .int p0), (0, .ref (ad 40)), (1, .int p0)]) hx hb dX0_matesSum_1 rfl hl (by decide) rfl (fun ls hl => ?_)
  refine lv_iload_n hx hb dX0_matesSum_2 rfl (lv_at hl 2 rfl) ?_
  refine lv_istore_n (lv' := [(3, .int p0), (2, .int p0), (0, .ref (ad 40)), (1, .int p0)]) hx hb dX0_matesSum_3 rfl hl (by decide) rfl (fun ls hl => ?_)
  refine lv_iconst (v := 1) hx hb dX0_matesSum_4 (by decide) ?_
  refine lv_istore (lv' := [(4, .int 1), (3, .int p0), (2, .int p0), (0, .ref (ad 40)), (1, .int p0)]) hx hb dX0_matesSum_5 hl (by decide) rfl (fun ls hl => ?_)
  refine L7 p0 _ (fun y6 y7 y8 H locs ls hP hS hl hf => ?_) fu p0 p0 1 _ _ _ hP hS (lv_sub hl [3, 4, 2, 1, 0] rfl) hf
  try dsimp only at hf
  refine lv_iload_n hx hb dX0_matesSum_35 rfl (lv_at hl 2 rfl) ?_
  obtain rfl := Option.some.inj hf
  exact W.iret (v := y6) hx hb hr (fun t ht hW => ⟨rfl, by rw [ht]; exact hP, hS.F ht⟩) hS.2.2 dX0_matesSum_36
def f_X0_differentMates (E : Nat → Int32) (p0 : Int32) : Option (Int32) :=
  (f_X0_mate E p0).bind (fun u1 =>
  if u1 = p0 then
    some 1
  else
    some (E 0))
set_option maxHeartbeats 4000000 in
set_option maxRecDepth 100000 in
theorem C_X0_differentMates (l : Launch) (D : va_G) (tys : List (ClassId × FieldType)) (nw : List Cond) (hn : nw.all nw_kind = true) (hnw : ∀ w ∈ nw0, w ∈ nw) {ad : Nat → Nat} (hj : ww_inj 46 ad) {cI : ClassId} {cR : ClassId} (htI : tys[0]? = some (cI, .int)) (htR : tys[1]? = some (cR, .object RX2)) {M : Fin 20 → Nat → Int32} {E : Nat → Int32} {P : Nat → Fin 20} {C : Nat → Int32} {N : Nat → Int32} {p0 : Int32} {res : Int32} (hf : f_X0_differentMates E p0 = some res) :
    Met l yX0_differentMates wsX0_differentMates ({ frames := 2, cells := 0, slots := 0, locals := 57 }) (va_Pc [.ref (ad 40), .int p0] (ws_B D tys nw (ww 46 ad (cellC cI cR ad M E P C N)))) (ct_Q D (ww 46 ad (cellC cI cR ad M E P C N)) (ww_A 46 ad) (some (.int res))) 0 0 (ww_A 46 ad) := by
  refine Met.ofW (cc := cX0_differentMates) (maxL := 2) (ret := (some .int)) (by decide) rfl ?_
  intro p e s m args below meth c s₁ B hml hv
  obtain ⟨rfl, hP, hK, hN⟩ := hv
  have hx := B.exec
  have hb := B.bytes
  have hr := B.returns
  have hts := atoms_spec (ws := wsX0_differentMates) B.pre
  have hown : s.vm.findClass RX0 = some m.cls := findClass_of_methodNamed B.named
  have hlocks := B.notSynchronized
  have hS : va_S (ww_A 46 ad) s.heap s.heap [] := va_S.rf
  have hl := lv_entry ([.ref (ad 40), .int p0]) (n := 2) (Nat.le_of_ble_eq_true rfl)
  rw [lg_entry_eq]
  generalize (lg_sl ([.ref (ad 40), .int p0]) ++ List.replicate (2 - (lg_sl ([.ref (ad 40), .int p0])).length) Slot.unset).toArray = ls at hl ⊢
  have hl : lv_has ls 2 [(0, .ref (ad 40)), (1, .int p0)] := hl
  unfold f_X0_differentMates at hf
  refine lv_aload_n hx hb dX0_differentMates_0 rfl (lv_at hl 0 rfl) ?_
  refine lv_iload_n hx hb dX0_differentMates_1 rfl (lv_at hl 1 rfl) ?_
  obtain ⟨u1, g2, hf⟩ := Option.bind_eq_some_iff.mp hf
  try dsimp only at hf
  refine ct_call (va_runV (As := [.int p0]) (rest := []) ⟨hx, hb, hml, hown, hts⟩ (C_X0_mate l D tys nw hn hnw hj htI htR (res := u1) g2) (cwV 1 hts gX0_differentMates_X0_mate rfl rfl rfl (by decide +kernel) ⟨Nat.le_of_ble_eq_true rfl, Nat.le_of_ble_eq_true rfl⟩) (ct_preV hn hP hK hN (ci := 0) (k := 40) rfl (by decide) rfl) rfl rfl hl.1 rfl (lv_room (Nat.le_of_ble_eq_true rfl)) dX0_differentMates_2 ⟨Nat.zero_le _, Nat.zero_le _⟩) hS (fun H locs hP hS => ?_)
  refine lv_iload_n hx hb dX0_differentMates_5 rfl (lv_at hl 1 rfl) ?_
  refine lv_icmp_ne (tgt := 13) hx hb dX0_differentMates_6 (by decide) (fun c3 => ?_) (fun c3 => ?_)
  · rw [if_neg c3] at hf
    refine lv_aload_n hx hb dX0_differentMates_13 rfl (lv_at hl 0 rfl) ?_
    refine va_get (ci := 0) (v := .int (E 0)) (C := RX0) (T := TX0) (N := 8) hx hb hts (by decide +kernel) hown hK hP 40 cc_ext rfl 0 (by decide) (hts (.fieldLink RX0 9 "NumberFieldFactors$Extension" "degree" "I") (by decide +kernel)) (fun _ h9 => h9) rfl dX0_differentMates_14 ?_
    obtain rfl := Option.some.inj hf
    exact W.iret (v := E 0) hx hb hr (fun t ht hW => ⟨rfl, by rw [ht]; exact hP, hS.F ht⟩) hS.2.2 dX0_differentMates_17
  · rw [if_pos c3] at hf
    refine lv_iconst (v := 1) hx hb dX0_differentMates_9 (by decide) ?_
    refine lv_goto (tgt := 17) hx hb dX0_differentMates_10 (by decide) ?_
    obtain rfl := Option.some.inj hf
    exact W.iret (v := 1) hx hb hr (fun t ht hW => ⟨rfl, by rw [ht]; exact hP, hS.F ht⟩) hS.2.2 dX0_differentMates_17
def f_X0_become (fu : Nat) (E : Nat → Int32) (p0 : Int32) (p1 : Int32) (p2 : Int32) (p3 : Int32) : Option (Int32 × (Nat → Int32)) :=
  if p0 ≤ 1 then
    if p0 ≤ 2 then
      if p0 ≤ 1 then
        if p0 = 1 then
          if p0 = 1 then
            (f_X0_power fu (va_up (va_up (va_up (va_up (va_up (va_up E 0 p0) 1 101) 2 p1) 3 0) 4 0) 5 (jrem (101 - p1) 101)) ((va_up (va_up (va_up (va_up (va_up (va_up E 0 p0) 1 101) 2 p1) 3 0) 4 0) 5 (jrem (101 - p1) 101)) 5) 101).bind (fun u29 =>
            (f_X0_times (va_up (va_up (va_up (va_up (va_up (va_up (va_up E 0 p0) 1 101) 2 p1) 3 0) 4 0) 5 (jrem (101 - p1) 101)) 6 u29) ((va_up (va_up (va_up (va_up (va_up (va_up (va_up E 0 p0) 1 101) 2 p1) 3 0) 4 0) 5 (jrem (101 - p1) 101)) 6 u29) 6) ((va_up (va_up (va_up (va_up (va_up (va_up (va_up E 0 p0) 1 101) 2 p1) 3 0) 4 0) 5 (jrem (101 - p1) 101)) 6 u29) 6)).bind (fun u31 =>
            some (1, va_up (va_up (va_up (va_up (va_up (va_up (va_up (va_up E 0 p0) 1 101) 2 p1) 3 0) 4 0) 5 (jrem (101 - p1) 101)) 6 u29) 7 u31)))
          else
            (f_X0_power fu (va_up (va_up (va_up (va_up (va_up (va_up E 0 p0) 1 101) 2 p1) 3 0) 4 0) 5 101) ((va_up (va_up (va_up (va_up (va_up (va_up E 0 p0) 1 101) 2 p1) 3 0) 4 0) 5 101) 5) 101).bind (fun u25 =>
            (f_X0_times (va_up (va_up (va_up (va_up (va_up (va_up (va_up E 0 p0) 1 101) 2 p1) 3 0) 4 0) 5 101) 6 u25) ((va_up (va_up (va_up (va_up (va_up (va_up (va_up E 0 p0) 1 101) 2 p1) 3 0) 4 0) 5 101) 6 u25) 6) ((va_up (va_up (va_up (va_up (va_up (va_up (va_up E 0 p0) 1 101) 2 p1) 3 0) 4 0) 5 101) 6 u25) 6)).bind (fun u27 =>
            some (1, va_up (va_up (va_up (va_up (va_up (va_up (va_up (va_up E 0 p0) 1 101) 2 p1) 3 0) 4 0) 5 101) 6 u25) 7 u27)))
        else
          if p0 = 2 then
            if p0 = 1 then
              (f_X0_power fu (va_up (va_up (va_up (va_up (va_up (va_up E 0 p0) 1 10201) 2 p1) 3 0) 4 0) 5 (jrem (101 - p1) 101)) ((va_up (va_up (va_up (va_up (va_up (va_up E 0 p0) 1 10201) 2 p1) 3 0) 4 0) 5 (jrem (101 - p1) 101)) 5) 101).bind (fun u20 =>
              (f_X0_times (va_up (va_up (va_up (va_up (va_up (va_up (va_up E 0 p0) 1 10201) 2 p1) 3 0) 4 0) 5 (jrem (101 - p1) 101)) 6 u20) ((va_up (va_up (va_up (va_up (va_up (va_up (va_up E 0 p0) 1 10201) 2 p1) 3 0) 4 0) 5 (jrem (101 - p1) 101)) 6 u20) 6) ((va_up (va_up (va_up (va_up (va_up (va_up (va_up E 0 p0) 1 10201) 2 p1) 3 0) 4 0) 5 (jrem (101 - p1) 101)) 6 u20) 6)).bind (fun u22 =>
              some (1, va_up (va_up (va_up (va_up (va_up (va_up (va_up (va_up E 0 p0) 1 10201) 2 p1) 3 0) 4 0) 5 (jrem (101 - p1) 101)) 6 u20) 7 u22)))
            else
              (f_X0_power fu (va_up (va_up (va_up (va_up (va_up (va_up E 0 p0) 1 10201) 2 p1) 3 0) 4 0) 5 101) ((va_up (va_up (va_up (va_up (va_up (va_up E 0 p0) 1 10201) 2 p1) 3 0) 4 0) 5 101) 5) 101).bind (fun u16 =>
              (f_X0_times (va_up (va_up (va_up (va_up (va_up (va_up (va_up E 0 p0) 1 10201) 2 p1) 3 0) 4 0) 5 101) 6 u16) ((va_up (va_up (va_up (va_up (va_up (va_up (va_up E 0 p0) 1 10201) 2 p1) 3 0) 4 0) 5 101) 6 u16) 6) ((va_up (va_up (va_up (va_up (va_up (va_up (va_up E 0 p0) 1 10201) 2 p1) 3 0) 4 0) 5 101) 6 u16) 6)).bind (fun u18 =>
              some (1, va_up (va_up (va_up (va_up (va_up (va_up (va_up (va_up E 0 p0) 1 10201) 2 p1) 3 0) 4 0) 5 101) 6 u16) 7 u18)))
          else
            if p0 = 1 then
              (f_X0_power fu (va_up (va_up (va_up (va_up (va_up (va_up E 0 p0) 1 1030301) 2 p1) 3 0) 4 0) 5 (jrem (101 - p1) 101)) ((va_up (va_up (va_up (va_up (va_up (va_up E 0 p0) 1 1030301) 2 p1) 3 0) 4 0) 5 (jrem (101 - p1) 101)) 5) 101).bind (fun u11 =>
              (f_X0_times (va_up (va_up (va_up (va_up (va_up (va_up (va_up E 0 p0) 1 1030301) 2 p1) 3 0) 4 0) 5 (jrem (101 - p1) 101)) 6 u11) ((va_up (va_up (va_up (va_up (va_up (va_up (va_up E 0 p0) 1 1030301) 2 p1) 3 0) 4 0) 5 (jrem (101 - p1) 101)) 6 u11) 6) ((va_up (va_up (va_up (va_up (va_up (va_up (va_up E 0 p0) 1 1030301) 2 p1) 3 0) 4 0) 5 (jrem (101 - p1) 101)) 6 u11) 6)).bind (fun u13 =>
              some (1, va_up (va_up (va_up (va_up (va_up (va_up (va_up (va_up E 0 p0) 1 1030301) 2 p1) 3 0) 4 0) 5 (jrem (101 - p1) 101)) 6 u11) 7 u13)))
            else
              (f_X0_power fu (va_up (va_up (va_up (va_up (va_up (va_up E 0 p0) 1 1030301) 2 p1) 3 0) 4 0) 5 101) ((va_up (va_up (va_up (va_up (va_up (va_up E 0 p0) 1 1030301) 2 p1) 3 0) 4 0) 5 101) 5) 101).bind (fun u7 =>
              (f_X0_times (va_up (va_up (va_up (va_up (va_up (va_up (va_up E 0 p0) 1 1030301) 2 p1) 3 0) 4 0) 5 101) 6 u7) ((va_up (va_up (va_up (va_up (va_up (va_up (va_up E 0 p0) 1 1030301) 2 p1) 3 0) 4 0) 5 101) 6 u7) 6) ((va_up (va_up (va_up (va_up (va_up (va_up (va_up E 0 p0) 1 1030301) 2 p1) 3 0) 4 0) 5 101) 6 u7) 6)).bind (fun u9 =>
              some (1, va_up (va_up (va_up (va_up (va_up (va_up (va_up (va_up E 0 p0) 1 1030301) 2 p1) 3 0) 4 0) 5 101) 6 u7) 7 u9)))
      else
        (f_X0_hasRoot fu p0 p1 0 0).bind (fun u33 =>
        if u33 = 0 then
          if p0 = 1 then
            if p0 = 1 then
              (f_X0_power fu (va_up (va_up (va_up (va_up (va_up (va_up E 0 p0) 1 101) 2 p1) 3 0) 4 0) 5 (jrem (101 - p1) 101)) ((va_up (va_up (va_up (va_up (va_up (va_up E 0 p0) 1 101) 2 p1) 3 0) 4 0) 5 (jrem (101 - p1) 101)) 5) 101).bind (fun u61 =>
              (f_X0_times (va_up (va_up (va_up (va_up (va_up (va_up (va_up E 0 p0) 1 101) 2 p1) 3 0) 4 0) 5 (jrem (101 - p1) 101)) 6 u61) ((va_up (va_up (va_up (va_up (va_up (va_up (va_up E 0 p0) 1 101) 2 p1) 3 0) 4 0) 5 (jrem (101 - p1) 101)) 6 u61) 6) ((va_up (va_up (va_up (va_up (va_up (va_up (va_up E 0 p0) 1 101) 2 p1) 3 0) 4 0) 5 (jrem (101 - p1) 101)) 6 u61) 6)).bind (fun u63 =>
              some (1, va_up (va_up (va_up (va_up (va_up (va_up (va_up (va_up E 0 p0) 1 101) 2 p1) 3 0) 4 0) 5 (jrem (101 - p1) 101)) 6 u61) 7 u63)))
            else
              (f_X0_power fu (va_up (va_up (va_up (va_up (va_up (va_up E 0 p0) 1 101) 2 p1) 3 0) 4 0) 5 101) ((va_up (va_up (va_up (va_up (va_up (va_up E 0 p0) 1 101) 2 p1) 3 0) 4 0) 5 101) 5) 101).bind (fun u57 =>
              (f_X0_times (va_up (va_up (va_up (va_up (va_up (va_up (va_up E 0 p0) 1 101) 2 p1) 3 0) 4 0) 5 101) 6 u57) ((va_up (va_up (va_up (va_up (va_up (va_up (va_up E 0 p0) 1 101) 2 p1) 3 0) 4 0) 5 101) 6 u57) 6) ((va_up (va_up (va_up (va_up (va_up (va_up (va_up E 0 p0) 1 101) 2 p1) 3 0) 4 0) 5 101) 6 u57) 6)).bind (fun u59 =>
              some (1, va_up (va_up (va_up (va_up (va_up (va_up (va_up (va_up E 0 p0) 1 101) 2 p1) 3 0) 4 0) 5 101) 6 u57) 7 u59)))
          else
            if p0 = 2 then
              if p0 = 1 then
                (f_X0_power fu (va_up (va_up (va_up (va_up (va_up (va_up E 0 p0) 1 10201) 2 p1) 3 0) 4 0) 5 (jrem (101 - p1) 101)) ((va_up (va_up (va_up (va_up (va_up (va_up E 0 p0) 1 10201) 2 p1) 3 0) 4 0) 5 (jrem (101 - p1) 101)) 5) 101).bind (fun u52 =>
                (f_X0_times (va_up (va_up (va_up (va_up (va_up (va_up (va_up E 0 p0) 1 10201) 2 p1) 3 0) 4 0) 5 (jrem (101 - p1) 101)) 6 u52) ((va_up (va_up (va_up (va_up (va_up (va_up (va_up E 0 p0) 1 10201) 2 p1) 3 0) 4 0) 5 (jrem (101 - p1) 101)) 6 u52) 6) ((va_up (va_up (va_up (va_up (va_up (va_up (va_up E 0 p0) 1 10201) 2 p1) 3 0) 4 0) 5 (jrem (101 - p1) 101)) 6 u52) 6)).bind (fun u54 =>
                some (1, va_up (va_up (va_up (va_up (va_up (va_up (va_up (va_up E 0 p0) 1 10201) 2 p1) 3 0) 4 0) 5 (jrem (101 - p1) 101)) 6 u52) 7 u54)))
              else
                (f_X0_power fu (va_up (va_up (va_up (va_up (va_up (va_up E 0 p0) 1 10201) 2 p1) 3 0) 4 0) 5 101) ((va_up (va_up (va_up (va_up (va_up (va_up E 0 p0) 1 10201) 2 p1) 3 0) 4 0) 5 101) 5) 101).bind (fun u48 =>
                (f_X0_times (va_up (va_up (va_up (va_up (va_up (va_up (va_up E 0 p0) 1 10201) 2 p1) 3 0) 4 0) 5 101) 6 u48) ((va_up (va_up (va_up (va_up (va_up (va_up (va_up E 0 p0) 1 10201) 2 p1) 3 0) 4 0) 5 101) 6 u48) 6) ((va_up (va_up (va_up (va_up (va_up (va_up (va_up E 0 p0) 1 10201) 2 p1) 3 0) 4 0) 5 101) 6 u48) 6)).bind (fun u50 =>
                some (1, va_up (va_up (va_up (va_up (va_up (va_up (va_up (va_up E 0 p0) 1 10201) 2 p1) 3 0) 4 0) 5 101) 6 u48) 7 u50)))
            else
              if p0 = 1 then
                (f_X0_power fu (va_up (va_up (va_up (va_up (va_up (va_up E 0 p0) 1 1030301) 2 p1) 3 0) 4 0) 5 (jrem (101 - p1) 101)) ((va_up (va_up (va_up (va_up (va_up (va_up E 0 p0) 1 1030301) 2 p1) 3 0) 4 0) 5 (jrem (101 - p1) 101)) 5) 101).bind (fun u43 =>
                (f_X0_times (va_up (va_up (va_up (va_up (va_up (va_up (va_up E 0 p0) 1 1030301) 2 p1) 3 0) 4 0) 5 (jrem (101 - p1) 101)) 6 u43) ((va_up (va_up (va_up (va_up (va_up (va_up (va_up E 0 p0) 1 1030301) 2 p1) 3 0) 4 0) 5 (jrem (101 - p1) 101)) 6 u43) 6) ((va_up (va_up (va_up (va_up (va_up (va_up (va_up E 0 p0) 1 1030301) 2 p1) 3 0) 4 0) 5 (jrem (101 - p1) 101)) 6 u43) 6)).bind (fun u45 =>
                some (1, va_up (va_up (va_up (va_up (va_up (va_up (va_up (va_up E 0 p0) 1 1030301) 2 p1) 3 0) 4 0) 5 (jrem (101 - p1) 101)) 6 u43) 7 u45)))
              else
                (f_X0_power fu (va_up (va_up (va_up (va_up (va_up (va_up E 0 p0) 1 1030301) 2 p1) 3 0) 4 0) 5 101) ((va_up (va_up (va_up (va_up (va_up (va_up E 0 p0) 1 1030301) 2 p1) 3 0) 4 0) 5 101) 5) 101).bind (fun u39 =>
                (f_X0_times (va_up (va_up (va_up (va_up (va_up (va_up (va_up E 0 p0) 1 1030301) 2 p1) 3 0) 4 0) 5 101) 6 u39) ((va_up (va_up (va_up (va_up (va_up (va_up (va_up E 0 p0) 1 1030301) 2 p1) 3 0) 4 0) 5 101) 6 u39) 6) ((va_up (va_up (va_up (va_up (va_up (va_up (va_up E 0 p0) 1 1030301) 2 p1) 3 0) 4 0) 5 101) 6 u39) 6)).bind (fun u41 =>
                some (1, va_up (va_up (va_up (va_up (va_up (va_up (va_up (va_up E 0 p0) 1 1030301) 2 p1) 3 0) 4 0) 5 101) 6 u39) 7 u41)))
        else
          some (0, E))
    else
      if p0 ≤ 1 then
        if p0 = 1 then
          if p0 = 1 then
            (f_X0_power fu (va_up (va_up (va_up (va_up (va_up (va_up E 0 p0) 1 101) 2 p1) 3 0) 4 p3) 5 (jrem (101 - p1) 101)) ((va_up (va_up (va_up (va_up (va_up (va_up E 0 p0) 1 101) 2 p1) 3 0) 4 p3) 5 (jrem (101 - p1) 101)) 5) 101).bind (fun u91 =>
            (f_X0_times (va_up (va_up (va_up (va_up (va_up (va_up (va_up E 0 p0) 1 101) 2 p1) 3 0) 4 p3) 5 (jrem (101 - p1) 101)) 6 u91) ((va_up (va_up (va_up (va_up (va_up (va_up (va_up E 0 p0) 1 101) 2 p1) 3 0) 4 p3) 5 (jrem (101 - p1) 101)) 6 u91) 6) ((va_up (va_up (va_up (va_up (va_up (va_up (va_up E 0 p0) 1 101) 2 p1) 3 0) 4 p3) 5 (jrem (101 - p1) 101)) 6 u91) 6)).bind (fun u93 =>
            some (1, va_up (va_up (va_up (va_up (va_up (va_up (va_up (va_up E 0 p0) 1 101) 2 p1) 3 0) 4 p3) 5 (jrem (101 - p1) 101)) 6 u91) 7 u93)))
          else
            (f_X0_power fu (va_up (va_up (va_up (va_up (va_up (va_up E 0 p0) 1 101) 2 p1) 3 0) 4 p3) 5 101) ((va_up (va_up (va_up (va_up (va_up (va_up E 0 p0) 1 101) 2 p1) 3 0) 4 p3) 5 101) 5) 101).bind (fun u87 =>
            (f_X0_times (va_up (va_up (va_up (va_up (va_up (va_up (va_up E 0 p0) 1 101) 2 p1) 3 0) 4 p3) 5 101) 6 u87) ((va_up (va_up (va_up (va_up (va_up (va_up (va_up E 0 p0) 1 101) 2 p1) 3 0) 4 p3) 5 101) 6 u87) 6) ((va_up (va_up (va_up (va_up (va_up (va_up (va_up E 0 p0) 1 101) 2 p1) 3 0) 4 p3) 5 101) 6 u87) 6)).bind (fun u89 =>
            some (1, va_up (va_up (va_up (va_up (va_up (va_up (va_up (va_up E 0 p0) 1 101) 2 p1) 3 0) 4 p3) 5 101) 6 u87) 7 u89)))
        else
          if p0 = 2 then
            if p0 = 1 then
              (f_X0_power fu (va_up (va_up (va_up (va_up (va_up (va_up E 0 p0) 1 10201) 2 p1) 3 0) 4 p3) 5 (jrem (101 - p1) 101)) ((va_up (va_up (va_up (va_up (va_up (va_up E 0 p0) 1 10201) 2 p1) 3 0) 4 p3) 5 (jrem (101 - p1) 101)) 5) 101).bind (fun u82 =>
              (f_X0_times (va_up (va_up (va_up (va_up (va_up (va_up (va_up E 0 p0) 1 10201) 2 p1) 3 0) 4 p3) 5 (jrem (101 - p1) 101)) 6 u82) ((va_up (va_up (va_up (va_up (va_up (va_up (va_up E 0 p0) 1 10201) 2 p1) 3 0) 4 p3) 5 (jrem (101 - p1) 101)) 6 u82) 6) ((va_up (va_up (va_up (va_up (va_up (va_up (va_up E 0 p0) 1 10201) 2 p1) 3 0) 4 p3) 5 (jrem (101 - p1) 101)) 6 u82) 6)).bind (fun u84 =>
              some (1, va_up (va_up (va_up (va_up (va_up (va_up (va_up (va_up E 0 p0) 1 10201) 2 p1) 3 0) 4 p3) 5 (jrem (101 - p1) 101)) 6 u82) 7 u84)))
            else
              (f_X0_power fu (va_up (va_up (va_up (va_up (va_up (va_up E 0 p0) 1 10201) 2 p1) 3 0) 4 p3) 5 101) ((va_up (va_up (va_up (va_up (va_up (va_up E 0 p0) 1 10201) 2 p1) 3 0) 4 p3) 5 101) 5) 101).bind (fun u78 =>
              (f_X0_times (va_up (va_up (va_up (va_up (va_up (va_up (va_up E 0 p0) 1 10201) 2 p1) 3 0) 4 p3) 5 101) 6 u78) ((va_up (va_up (va_up (va_up (va_up (va_up (va_up E 0 p0) 1 10201) 2 p1) 3 0) 4 p3) 5 101) 6 u78) 6) ((va_up (va_up (va_up (va_up (va_up (va_up (va_up E 0 p0) 1 10201) 2 p1) 3 0) 4 p3) 5 101) 6 u78) 6)).bind (fun u80 =>
              some (1, va_up (va_up (va_up (va_up (va_up (va_up (va_up (va_up E 0 p0) 1 10201) 2 p1) 3 0) 4 p3) 5 101) 6 u78) 7 u80)))
          else
            if p0 = 1 then
              (f_X0_power fu (va_up (va_up (va_up (va_up (va_up (va_up E 0 p0) 1 1030301) 2 p1) 3 0) 4 p3) 5 (jrem (101 - p1) 101)) ((va_up (va_up (va_up (va_up (va_up (va_up E 0 p0) 1 1030301) 2 p1) 3 0) 4 p3) 5 (jrem (101 - p1) 101)) 5) 101).bind (fun u73 =>
              (f_X0_times (va_up (va_up (va_up (va_up (va_up (va_up (va_up E 0 p0) 1 1030301) 2 p1) 3 0) 4 p3) 5 (jrem (101 - p1) 101)) 6 u73) ((va_up (va_up (va_up (va_up (va_up (va_up (va_up E 0 p0) 1 1030301) 2 p1) 3 0) 4 p3) 5 (jrem (101 - p1) 101)) 6 u73) 6) ((va_up (va_up (va_up (va_up (va_up (va_up (va_up E 0 p0) 1 1030301) 2 p1) 3 0) 4 p3) 5 (jrem (101 - p1) 101)) 6 u73) 6)).bind (fun u75 =>
              some (1, va_up (va_up (va_up (va_up (va_up (va_up (va_up (va_up E 0 p0) 1 1030301) 2 p1) 3 0) 4 p3) 5 (jrem (101 - p1) 101)) 6 u73) 7 u75)))
            else
              (f_X0_power fu (va_up (va_up (va_up (va_up (va_up (va_up E 0 p0) 1 1030301) 2 p1) 3 0) 4 p3) 5 101) ((va_up (va_up (va_up (va_up (va_up (va_up E 0 p0) 1 1030301) 2 p1) 3 0) 4 p3) 5 101) 5) 101).bind (fun u69 =>
              (f_X0_times (va_up (va_up (va_up (va_up (va_up (va_up (va_up E 0 p0) 1 1030301) 2 p1) 3 0) 4 p3) 5 101) 6 u69) ((va_up (va_up (va_up (va_up (va_up (va_up (va_up E 0 p0) 1 1030301) 2 p1) 3 0) 4 p3) 5 101) 6 u69) 6) ((va_up (va_up (va_up (va_up (va_up (va_up (va_up E 0 p0) 1 1030301) 2 p1) 3 0) 4 p3) 5 101) 6 u69) 6)).bind (fun u71 =>
              some (1, va_up (va_up (va_up (va_up (va_up (va_up (va_up (va_up E 0 p0) 1 1030301) 2 p1) 3 0) 4 p3) 5 101) 6 u69) 7 u71)))
      else
        (f_X0_hasRoot fu p0 p1 0 p3).bind (fun u95 =>
        if u95 = 0 then
          if p0 = 1 then
            if p0 = 1 then
              (f_X0_power fu (va_up (va_up (va_up (va_up (va_up (va_up E 0 p0) 1 101) 2 p1) 3 0) 4 p3) 5 (jrem (101 - p1) 101)) ((va_up (va_up (va_up (va_up (va_up (va_up E 0 p0) 1 101) 2 p1) 3 0) 4 p3) 5 (jrem (101 - p1) 101)) 5) 101).bind (fun u123 =>
              (f_X0_times (va_up (va_up (va_up (va_up (va_up (va_up (va_up E 0 p0) 1 101) 2 p1) 3 0) 4 p3) 5 (jrem (101 - p1) 101)) 6 u123) ((va_up (va_up (va_up (va_up (va_up (va_up (va_up E 0 p0) 1 101) 2 p1) 3 0) 4 p3) 5 (jrem (101 - p1) 101)) 6 u123) 6) ((va_up (va_up (va_up (va_up (va_up (va_up (va_up E 0 p0) 1 101) 2 p1) 3 0) 4 p3) 5 (jrem (101 - p1) 101)) 6 u123) 6)).bind (fun u125 =>
              some (1, va_up (va_up (va_up (va_up (va_up (va_up (va_up (va_up E 0 p0) 1 101) 2 p1) 3 0) 4 p3) 5 (jrem (101 - p1) 101)) 6 u123) 7 u125)))
            else
              (f_X0_power fu (va_up (va_up (va_up (va_up (va_up (va_up E 0 p0) 1 101) 2 p1) 3 0) 4 p3) 5 101) ((va_up (va_up (va_up (va_up (va_up (va_up E 0 p0) 1 101) 2 p1) 3 0) 4 p3) 5 101) 5) 101).bind (fun u119 =>
              (f_X0_times (va_up (va_up (va_up (va_up (va_up (va_up (va_up E 0 p0) 1 101) 2 p1) 3 0) 4 p3) 5 101) 6 u119) ((va_up (va_up (va_up (va_up (va_up (va_up (va_up E 0 p0) 1 101) 2 p1) 3 0) 4 p3) 5 101) 6 u119) 6) ((va_up (va_up (va_up (va_up (va_up (va_up (va_up E 0 p0) 1 101) 2 p1) 3 0) 4 p3) 5 101) 6 u119) 6)).bind (fun u121 =>
              some (1, va_up (va_up (va_up (va_up (va_up (va_up (va_up (va_up E 0 p0) 1 101) 2 p1) 3 0) 4 p3) 5 101) 6 u119) 7 u121)))
          else
            if p0 = 2 then
              if p0 = 1 then
                (f_X0_power fu (va_up (va_up (va_up (va_up (va_up (va_up E 0 p0) 1 10201) 2 p1) 3 0) 4 p3) 5 (jrem (101 - p1) 101)) ((va_up (va_up (va_up (va_up (va_up (va_up E 0 p0) 1 10201) 2 p1) 3 0) 4 p3) 5 (jrem (101 - p1) 101)) 5) 101).bind (fun u114 =>
                (f_X0_times (va_up (va_up (va_up (va_up (va_up (va_up (va_up E 0 p0) 1 10201) 2 p1) 3 0) 4 p3) 5 (jrem (101 - p1) 101)) 6 u114) ((va_up (va_up (va_up (va_up (va_up (va_up (va_up E 0 p0) 1 10201) 2 p1) 3 0) 4 p3) 5 (jrem (101 - p1) 101)) 6 u114) 6) ((va_up (va_up (va_up (va_up (va_up (va_up (va_up E 0 p0) 1 10201) 2 p1) 3 0) 4 p3) 5 (jrem (101 - p1) 101)) 6 u114) 6)).bind (fun u116 =>
                some (1, va_up (va_up (va_up (va_up (va_up (va_up (va_up (va_up E 0 p0) 1 10201) 2 p1) 3 0) 4 p3) 5 (jrem (101 - p1) 101)) 6 u114) 7 u116)))
              else
                (f_X0_power fu (va_up (va_up (va_up (va_up (va_up (va_up E 0 p0) 1 10201) 2 p1) 3 0) 4 p3) 5 101) ((va_up (va_up (va_up (va_up (va_up (va_up E 0 p0) 1 10201) 2 p1) 3 0) 4 p3) 5 101) 5) 101).bind (fun u110 =>
                (f_X0_times (va_up (va_up (va_up (va_up (va_up (va_up (va_up E 0 p0) 1 10201) 2 p1) 3 0) 4 p3) 5 101) 6 u110) ((va_up (va_up (va_up (va_up (va_up (va_up (va_up E 0 p0) 1 10201) 2 p1) 3 0) 4 p3) 5 101) 6 u110) 6) ((va_up (va_up (va_up (va_up (va_up (va_up (va_up E 0 p0) 1 10201) 2 p1) 3 0) 4 p3) 5 101) 6 u110) 6)).bind (fun u112 =>
                some (1, va_up (va_up (va_up (va_up (va_up (va_up (va_up (va_up E 0 p0) 1 10201) 2 p1) 3 0) 4 p3) 5 101) 6 u110) 7 u112)))
            else
              if p0 = 1 then
                (f_X0_power fu (va_up (va_up (va_up (va_up (va_up (va_up E 0 p0) 1 1030301) 2 p1) 3 0) 4 p3) 5 (jrem (101 - p1) 101)) ((va_up (va_up (va_up (va_up (va_up (va_up E 0 p0) 1 1030301) 2 p1) 3 0) 4 p3) 5 (jrem (101 - p1) 101)) 5) 101).bind (fun u105 =>
                (f_X0_times (va_up (va_up (va_up (va_up (va_up (va_up (va_up E 0 p0) 1 1030301) 2 p1) 3 0) 4 p3) 5 (jrem (101 - p1) 101)) 6 u105) ((va_up (va_up (va_up (va_up (va_up (va_up (va_up E 0 p0) 1 1030301) 2 p1) 3 0) 4 p3) 5 (jrem (101 - p1) 101)) 6 u105) 6) ((va_up (va_up (va_up (va_up (va_up (va_up (va_up E 0 p0) 1 1030301) 2 p1) 3 0) 4 p3) 5 (jrem (101 - p1) 101)) 6 u105) 6)).bind (fun u107 =>
                some (1, va_up (va_up (va_up (va_up (va_up (va_up (va_up (va_up E 0 p0) 1 1030301) 2 p1) 3 0) 4 p3) 5 (jrem (101 - p1) 101)) 6 u105) 7 u107)))
              else
                (f_X0_power fu (va_up (va_up (va_up (va_up (va_up (va_up E 0 p0) 1 1030301) 2 p1) 3 0) 4 p3) 5 101) ((va_up (va_up (va_up (va_up (va_up (va_up E 0 p0) 1 1030301) 2 p1) 3 0) 4 p3) 5 101) 5) 101).bind (fun u101 =>
                (f_X0_times (va_up (va_up (va_up (va_up (va_up (va_up (va_up E 0 p0) 1 1030301) 2 p1) 3 0) 4 p3) 5 101) 6 u101) ((va_up (va_up (va_up (va_up (va_up (va_up (va_up E 0 p0) 1 1030301) 2 p1) 3 0) 4 p3) 5 101) 6 u101) 6) ((va_up (va_up (va_up (va_up (va_up (va_up (va_up E 0 p0) 1 1030301) 2 p1) 3 0) 4 p3) 5 101) 6 u101) 6)).bind (fun u103 =>
                some (1, va_up (va_up (va_up (va_up (va_up (va_up (va_up (va_up E 0 p0) 1 1030301) 2 p1) 3 0) 4 p3) 5 101) 6 u101) 7 u103)))
        else
          some (0, E))
  else
    if p0 ≤ 2 then
      if p0 ≤ 1 then
        if p0 = 1 then
          if p0 = 1 then
            (f_X0_power fu (va_up (va_up (va_up (va_up (va_up (va_up E 0 p0) 1 101) 2 p1) 3 p2) 4 0) 5 (jrem (101 - p1) 101)) ((va_up (va_up (va_up (va_up (va_up (va_up E 0 p0) 1 101) 2 p1) 3 p2) 4 0) 5 (jrem (101 - p1) 101)) 5) 101).bind (fun u154 =>
            (f_X0_times (va_up (va_up (va_up (va_up (va_up (va_up (va_up E 0 p0) 1 101) 2 p1) 3 p2) 4 0) 5 (jrem (101 - p1) 101)) 6 u154) ((va_up (va_up (va_up (va_up (va_up (va_up (va_up E 0 p0) 1 101) 2 p1) 3 p2) 4 0) 5 (jrem (101 - p1) 101)) 6 u154) 6) ((va_up (va_up (va_up (va_up (va_up (va_up (va_up E 0 p0) 1 101) 2 p1) 3 p2) 4 0) 5 (jrem (101 - p1) 101)) 6 u154) 6)).bind (fun u156 =>
            some (1, va_up (va_up (va_up (va_up (va_up (va_up (va_up (va_up E 0 p0) 1 101) 2 p1) 3 p2) 4 0) 5 (jrem (101 - p1) 101)) 6 u154) 7 u156)))
          else
            (f_X0_power fu (va_up (va_up (va_up (va_up (va_up (va_up E 0 p0) 1 101) 2 p1) 3 p2) 4 0) 5 101) ((va_up (va_up (va_up (va_up (va_up (va_up E 0 p0) 1 101) 2 p1) 3 p2) 4 0) 5 101) 5) 101).bind (fun u150 =>
            (f_X0_times (va_up (va_up (va_up (va_up (va_up (va_up (va_up E 0 p0) 1 101) 2 p1) 3 p2) 4 0) 5 101) 6 u150) ((va_up (va_up (va_up (va_up (va_up (va_up (va_up E 0 p0) 1 101) 2 p1) 3 p2) 4 0) 5 101) 6 u150) 6) ((va_up (va_up (va_up (va_up (va_up (va_up (va_up E 0 p0) 1 101) 2 p1) 3 p2) 4 0) 5 101) 6 u150) 6)).bind (fun u152 =>
            some (1, va_up (va_up (va_up (va_up (va_up (va_up (va_up (va_up E 0 p0) 1 101) 2 p1) 3 p2) 4 0) 5 101) 6 u150) 7 u152)))
        else
          if p0 = 2 then
            if p0 = 1 then
              (f_X0_power fu (va_up (va_up (va_up (va_up (va_up (va_up E 0 p0) 1 10201) 2 p1) 3 p2) 4 0) 5 (jrem (101 - p1) 101)) ((va_up (va_up (va_up (va_up (va_up (va_up E 0 p0) 1 10201) 2 p1) 3 p2) 4 0) 5 (jrem (101 - p1) 101)) 5) 101).bind (fun u145 =>
              (f_X0_times (va_up (va_up (va_up (va_up (va_up (va_up (va_up E 0 p0) 1 10201) 2 p1) 3 p2) 4 0) 5 (jrem (101 - p1) 101)) 6 u145) ((va_up (va_up (va_up (va_up (va_up (va_up (va_up E 0 p0) 1 10201) 2 p1) 3 p2) 4 0) 5 (jrem (101 - p1) 101)) 6 u145) 6) ((va_up (va_up (va_up (va_up (va_up (va_up (va_up E 0 p0) 1 10201) 2 p1) 3 p2) 4 0) 5 (jrem (101 - p1) 101)) 6 u145) 6)).bind (fun u147 =>
              some (1, va_up (va_up (va_up (va_up (va_up (va_up (va_up (va_up E 0 p0) 1 10201) 2 p1) 3 p2) 4 0) 5 (jrem (101 - p1) 101)) 6 u145) 7 u147)))
            else
              (f_X0_power fu (va_up (va_up (va_up (va_up (va_up (va_up E 0 p0) 1 10201) 2 p1) 3 p2) 4 0) 5 101) ((va_up (va_up (va_up (va_up (va_up (va_up E 0 p0) 1 10201) 2 p1) 3 p2) 4 0) 5 101) 5) 101).bind (fun u141 =>
              (f_X0_times (va_up (va_up (va_up (va_up (va_up (va_up (va_up E 0 p0) 1 10201) 2 p1) 3 p2) 4 0) 5 101) 6 u141) ((va_up (va_up (va_up (va_up (va_up (va_up (va_up E 0 p0) 1 10201) 2 p1) 3 p2) 4 0) 5 101) 6 u141) 6) ((va_up (va_up (va_up (va_up (va_up (va_up (va_up E 0 p0) 1 10201) 2 p1) 3 p2) 4 0) 5 101) 6 u141) 6)).bind (fun u143 =>
              some (1, va_up (va_up (va_up (va_up (va_up (va_up (va_up (va_up E 0 p0) 1 10201) 2 p1) 3 p2) 4 0) 5 101) 6 u141) 7 u143)))
          else
            if p0 = 1 then
              (f_X0_power fu (va_up (va_up (va_up (va_up (va_up (va_up E 0 p0) 1 1030301) 2 p1) 3 p2) 4 0) 5 (jrem (101 - p1) 101)) ((va_up (va_up (va_up (va_up (va_up (va_up E 0 p0) 1 1030301) 2 p1) 3 p2) 4 0) 5 (jrem (101 - p1) 101)) 5) 101).bind (fun u136 =>
              (f_X0_times (va_up (va_up (va_up (va_up (va_up (va_up (va_up E 0 p0) 1 1030301) 2 p1) 3 p2) 4 0) 5 (jrem (101 - p1) 101)) 6 u136) ((va_up (va_up (va_up (va_up (va_up (va_up (va_up E 0 p0) 1 1030301) 2 p1) 3 p2) 4 0) 5 (jrem (101 - p1) 101)) 6 u136) 6) ((va_up (va_up (va_up (va_up (va_up (va_up (va_up E 0 p0) 1 1030301) 2 p1) 3 p2) 4 0) 5 (jrem (101 - p1) 101)) 6 u136) 6)).bind (fun u138 =>
              some (1, va_up (va_up (va_up (va_up (va_up (va_up (va_up (va_up E 0 p0) 1 1030301) 2 p1) 3 p2) 4 0) 5 (jrem (101 - p1) 101)) 6 u136) 7 u138)))
            else
              (f_X0_power fu (va_up (va_up (va_up (va_up (va_up (va_up E 0 p0) 1 1030301) 2 p1) 3 p2) 4 0) 5 101) ((va_up (va_up (va_up (va_up (va_up (va_up E 0 p0) 1 1030301) 2 p1) 3 p2) 4 0) 5 101) 5) 101).bind (fun u132 =>
              (f_X0_times (va_up (va_up (va_up (va_up (va_up (va_up (va_up E 0 p0) 1 1030301) 2 p1) 3 p2) 4 0) 5 101) 6 u132) ((va_up (va_up (va_up (va_up (va_up (va_up (va_up E 0 p0) 1 1030301) 2 p1) 3 p2) 4 0) 5 101) 6 u132) 6) ((va_up (va_up (va_up (va_up (va_up (va_up (va_up E 0 p0) 1 1030301) 2 p1) 3 p2) 4 0) 5 101) 6 u132) 6)).bind (fun u134 =>
              some (1, va_up (va_up (va_up (va_up (va_up (va_up (va_up (va_up E 0 p0) 1 1030301) 2 p1) 3 p2) 4 0) 5 101) 6 u132) 7 u134)))
      else
        (f_X0_hasRoot fu p0 p1 p2 0).bind (fun u158 =>
        if u158 = 0 then
          if p0 = 1 then
            if p0 = 1 then
              (f_X0_power fu (va_up (va_up (va_up (va_up (va_up (va_up E 0 p0) 1 101) 2 p1) 3 p2) 4 0) 5 (jrem (101 - p1) 101)) ((va_up (va_up (va_up (va_up (va_up (va_up E 0 p0) 1 101) 2 p1) 3 p2) 4 0) 5 (jrem (101 - p1) 101)) 5) 101).bind (fun u186 =>
              (f_X0_times (va_up (va_up (va_up (va_up (va_up (va_up (va_up E 0 p0) 1 101) 2 p1) 3 p2) 4 0) 5 (jrem (101 - p1) 101)) 6 u186) ((va_up (va_up (va_up (va_up (va_up (va_up (va_up E 0 p0) 1 101) 2 p1) 3 p2) 4 0) 5 (jrem (101 - p1) 101)) 6 u186) 6) ((va_up (va_up (va_up (va_up (va_up (va_up (va_up E 0 p0) 1 101) 2 p1) 3 p2) 4 0) 5 (jrem (101 - p1) 101)) 6 u186) 6)).bind (fun u188 =>
              some (1, va_up (va_up (va_up (va_up (va_up (va_up (va_up (va_up E 0 p0) 1 101) 2 p1) 3 p2) 4 0) 5 (jrem (101 - p1) 101)) 6 u186) 7 u188)))
            else
              (f_X0_power fu (va_up (va_up (va_up (va_up (va_up (va_up E 0 p0) 1 101) 2 p1) 3 p2) 4 0) 5 101) ((va_up (va_up (va_up (va_up (va_up (va_up E 0 p0) 1 101) 2 p1) 3 p2) 4 0) 5 101) 5) 101).bind (fun u182 =>
              (f_X0_times (va_up (va_up (va_up (va_up (va_up (va_up (va_up E 0 p0) 1 101) 2 p1) 3 p2) 4 0) 5 101) 6 u182) ((va_up (va_up (va_up (va_up (va_up (va_up (va_up E 0 p0) 1 101) 2 p1) 3 p2) 4 0) 5 101) 6 u182) 6) ((va_up (va_up (va_up (va_up (va_up (va_up (va_up E 0 p0) 1 101) 2 p1) 3 p2) 4 0) 5 101) 6 u182) 6)).bind (fun u184 =>
              some (1, va_up (va_up (va_up (va_up (va_up (va_up (va_up (va_up E 0 p0) 1 101) 2 p1) 3 p2) 4 0) 5 101) 6 u182) 7 u184)))
          else
            if p0 = 2 then
              if p0 = 1 then
                (f_X0_power fu (va_up (va_up (va_up (va_up (va_up (va_up E 0 p0) 1 10201) 2 p1) 3 p2) 4 0) 5 (jrem (101 - p1) 101)) ((va_up (va_up (va_up (va_up (va_up (va_up E 0 p0) 1 10201) 2 p1) 3 p2) 4 0) 5 (jrem (101 - p1) 101)) 5) 101).bind (fun u177 =>
                (f_X0_times (va_up (va_up (va_up (va_up (va_up (va_up (va_up E 0 p0) 1 10201) 2 p1) 3 p2) 4 0) 5 (jrem (101 - p1) 101)) 6 u177) ((va_up (va_up (va_up (va_up (va_up (va_up (va_up E 0 p0) 1 10201) 2 p1) 3 p2) 4 0) 5 (jrem (101 - p1) 101)) 6 u177) 6) ((va_up (va_up (va_up (va_up (va_up (va_up (va_up E 0 p0) 1 10201) 2 p1) 3 p2) 4 0) 5 (jrem (101 - p1) 101)) 6 u177) 6)).bind (fun u179 =>
                some (1, va_up (va_up (va_up (va_up (va_up (va_up (va_up (va_up E 0 p0) 1 10201) 2 p1) 3 p2) 4 0) 5 (jrem (101 - p1) 101)) 6 u177) 7 u179)))
              else
                (f_X0_power fu (va_up (va_up (va_up (va_up (va_up (va_up E 0 p0) 1 10201) 2 p1) 3 p2) 4 0) 5 101) ((va_up (va_up (va_up (va_up (va_up (va_up E 0 p0) 1 10201) 2 p1) 3 p2) 4 0) 5 101) 5) 101).bind (fun u173 =>
                (f_X0_times (va_up (va_up (va_up (va_up (va_up (va_up (va_up E 0 p0) 1 10201) 2 p1) 3 p2) 4 0) 5 101) 6 u173) ((va_up (va_up (va_up (va_up (va_up (va_up (va_up E 0 p0) 1 10201) 2 p1) 3 p2) 4 0) 5 101) 6 u173) 6) ((va_up (va_up (va_up (va_up (va_up (va_up (va_up E 0 p0) 1 10201) 2 p1) 3 p2) 4 0) 5 101) 6 u173) 6)).bind (fun u175 =>
                some (1, va_up (va_up (va_up (va_up (va_up (va_up (va_up (va_up E 0 p0) 1 10201) 2 p1) 3 p2) 4 0) 5 101) 6 u173) 7 u175)))
            else
              if p0 = 1 then
                (f_X0_power fu (va_up (va_up (va_up (va_up (va_up (va_up E 0 p0) 1 1030301) 2 p1) 3 p2) 4 0) 5 (jrem (101 - p1) 101)) ((va_up (va_up (va_up (va_up (va_up (va_up E 0 p0) 1 1030301) 2 p1) 3 p2) 4 0) 5 (jrem (101 - p1) 101)) 5) 101).bind (fun u168 =>
                (f_X0_times (va_up (va_up (va_up (va_up (va_up (va_up (va_up E 0 p0) 1 1030301) 2 p1) 3 p2) 4 0) 5 (jrem (101 - p1) 101)) 6 u168) ((va_up (va_up (va_up (va_up (va_up (va_up (va_up E 0 p0) 1 1030301) 2 p1) 3 p2) 4 0) 5 (jrem (101 - p1) 101)) 6 u168) 6) ((va_up (va_up (va_up (va_up (va_up (va_up (va_up E 0 p0) 1 1030301) 2 p1) 3 p2) 4 0) 5 (jrem (101 - p1) 101)) 6 u168) 6)).bind (fun u170 =>
                some (1, va_up (va_up (va_up (va_up (va_up (va_up (va_up (va_up E 0 p0) 1 1030301) 2 p1) 3 p2) 4 0) 5 (jrem (101 - p1) 101)) 6 u168) 7 u170)))
              else
                (f_X0_power fu (va_up (va_up (va_up (va_up (va_up (va_up E 0 p0) 1 1030301) 2 p1) 3 p2) 4 0) 5 101) ((va_up (va_up (va_up (va_up (va_up (va_up E 0 p0) 1 1030301) 2 p1) 3 p2) 4 0) 5 101) 5) 101).bind (fun u164 =>
                (f_X0_times (va_up (va_up (va_up (va_up (va_up (va_up (va_up E 0 p0) 1 1030301) 2 p1) 3 p2) 4 0) 5 101) 6 u164) ((va_up (va_up (va_up (va_up (va_up (va_up (va_up E 0 p0) 1 1030301) 2 p1) 3 p2) 4 0) 5 101) 6 u164) 6) ((va_up (va_up (va_up (va_up (va_up (va_up (va_up E 0 p0) 1 1030301) 2 p1) 3 p2) 4 0) 5 101) 6 u164) 6)).bind (fun u166 =>
                some (1, va_up (va_up (va_up (va_up (va_up (va_up (va_up (va_up E 0 p0) 1 1030301) 2 p1) 3 p2) 4 0) 5 101) 6 u164) 7 u166)))
        else
          some (0, E))
    else
      if p0 ≤ 1 then
        if p0 = 1 then
          if p0 = 1 then
            (f_X0_power fu (va_up (va_up (va_up (va_up (va_up (va_up E 0 p0) 1 101) 2 p1) 3 p2) 4 p3) 5 (jrem (101 - p1) 101)) ((va_up (va_up (va_up (va_up (va_up (va_up E 0 p0) 1 101) 2 p1) 3 p2) 4 p3) 5 (jrem (101 - p1) 101)) 5) 101).bind (fun u216 =>
            (f_X0_times (va_up (va_up (va_up (va_up (va_up (va_up (va_up E 0 p0) 1 101) 2 p1) 3 p2) 4 p3) 5 (jrem (101 - p1) 101)) 6 u216) ((va_up (va_up (va_up (va_up (va_up (va_up (va_up E 0 p0) 1 101) 2 p1) 3 p2) 4 p3) 5 (jrem (101 - p1) 101)) 6 u216) 6) ((va_up (va_up (va_up (va_up (va_up (va_up (va_up E 0 p0) 1 101) 2 p1) 3 p2) 4 p3) 5 (jrem (101 - p1) 101)) 6 u216) 6)).bind (fun u218 =>
            some (1, va_up (va_up (va_up (va_up (va_up (va_up (va_up (va_up E 0 p0) 1 101) 2 p1) 3 p2) 4 p3) 5 (jrem (101 - p1) 101)) 6 u216) 7 u218)))
          else
            (f_X0_power fu (va_up (va_up (va_up (va_up (va_up (va_up E 0 p0) 1 101) 2 p1) 3 p2) 4 p3) 5 101) ((va_up (va_up (va_up (va_up (va_up (va_up E 0 p0) 1 101) 2 p1) 3 p2) 4 p3) 5 101) 5) 101).bind (fun u212 =>
            (f_X0_times (va_up (va_up (va_up (va_up (va_up (va_up (va_up E 0 p0) 1 101) 2 p1) 3 p2) 4 p3) 5 101) 6 u212) ((va_up (va_up (va_up (va_up (va_up (va_up (va_up E 0 p0) 1 101) 2 p1) 3 p2) 4 p3) 5 101) 6 u212) 6) ((va_up (va_up (va_up (va_up (va_up (va_up (va_up E 0 p0) 1 101) 2 p1) 3 p2) 4 p3) 5 101) 6 u212) 6)).bind (fun u214 =>
            some (1, va_up (va_up (va_up (va_up (va_up (va_up (va_up (va_up E 0 p0) 1 101) 2 p1) 3 p2) 4 p3) 5 101) 6 u212) 7 u214)))
        else
          if p0 = 2 then
            if p0 = 1 then
              (f_X0_power fu (va_up (va_up (va_up (va_up (va_up (va_up E 0 p0) 1 10201) 2 p1) 3 p2) 4 p3) 5 (jrem (101 - p1) 101)) ((va_up (va_up (va_up (va_up (va_up (va_up E 0 p0) 1 10201) 2 p1) 3 p2) 4 p3) 5 (jrem (101 - p1) 101)) 5) 101).bind (fun u207 =>
              (f_X0_times (va_up (va_up (va_up (va_up (va_up (va_up (va_up E 0 p0) 1 10201) 2 p1) 3 p2) 4 p3) 5 (jrem (101 - p1) 101)) 6 u207) ((va_up (va_up (va_up (va_up (va_up (va_up (va_up E 0 p0) 1 10201) 2 p1) 3 p2) 4 p3) 5 (jrem (101 - p1) 101)) 6 u207) 6) ((va_up (va_up (va_up (va_up (va_up (va_up (va_up E 0 p0) 1 10201) 2 p1) 3 p2) 4 p3) 5 (jrem (101 - p1) 101)) 6 u207) 6)).bind (fun u209 =>
              some (1, va_up (va_up (va_up (va_up (va_up (va_up (va_up (va_up E 0 p0) 1 10201) 2 p1) 3 p2) 4 p3) 5 (jrem (101 - p1) 101)) 6 u207) 7 u209)))
            else
              (f_X0_power fu (va_up (va_up (va_up (va_up (va_up (va_up E 0 p0) 1 10201) 2 p1) 3 p2) 4 p3) 5 101) ((va_up (va_up (va_up (va_up (va_up (va_up E 0 p0) 1 10201) 2 p1) 3 p2) 4 p3) 5 101) 5) 101).bind (fun u203 =>
              (f_X0_times (va_up (va_up (va_up (va_up (va_up (va_up (va_up E 0 p0) 1 10201) 2 p1) 3 p2) 4 p3) 5 101) 6 u203) ((va_up (va_up (va_up (va_up (va_up (va_up (va_up E 0 p0) 1 10201) 2 p1) 3 p2) 4 p3) 5 101) 6 u203) 6) ((va_up (va_up (va_up (va_up (va_up (va_up (va_up E 0 p0) 1 10201) 2 p1) 3 p2) 4 p3) 5 101) 6 u203) 6)).bind (fun u205 =>
              some (1, va_up (va_up (va_up (va_up (va_up (va_up (va_up (va_up E 0 p0) 1 10201) 2 p1) 3 p2) 4 p3) 5 101) 6 u203) 7 u205)))
          else
            if p0 = 1 then
              (f_X0_power fu (va_up (va_up (va_up (va_up (va_up (va_up E 0 p0) 1 1030301) 2 p1) 3 p2) 4 p3) 5 (jrem (101 - p1) 101)) ((va_up (va_up (va_up (va_up (va_up (va_up E 0 p0) 1 1030301) 2 p1) 3 p2) 4 p3) 5 (jrem (101 - p1) 101)) 5) 101).bind (fun u198 =>
              (f_X0_times (va_up (va_up (va_up (va_up (va_up (va_up (va_up E 0 p0) 1 1030301) 2 p1) 3 p2) 4 p3) 5 (jrem (101 - p1) 101)) 6 u198) ((va_up (va_up (va_up (va_up (va_up (va_up (va_up E 0 p0) 1 1030301) 2 p1) 3 p2) 4 p3) 5 (jrem (101 - p1) 101)) 6 u198) 6) ((va_up (va_up (va_up (va_up (va_up (va_up (va_up E 0 p0) 1 1030301) 2 p1) 3 p2) 4 p3) 5 (jrem (101 - p1) 101)) 6 u198) 6)).bind (fun u200 =>
              some (1, va_up (va_up (va_up (va_up (va_up (va_up (va_up (va_up E 0 p0) 1 1030301) 2 p1) 3 p2) 4 p3) 5 (jrem (101 - p1) 101)) 6 u198) 7 u200)))
            else
              (f_X0_power fu (va_up (va_up (va_up (va_up (va_up (va_up E 0 p0) 1 1030301) 2 p1) 3 p2) 4 p3) 5 101) ((va_up (va_up (va_up (va_up (va_up (va_up E 0 p0) 1 1030301) 2 p1) 3 p2) 4 p3) 5 101) 5) 101).bind (fun u194 =>
              (f_X0_times (va_up (va_up (va_up (va_up (va_up (va_up (va_up E 0 p0) 1 1030301) 2 p1) 3 p2) 4 p3) 5 101) 6 u194) ((va_up (va_up (va_up (va_up (va_up (va_up (va_up E 0 p0) 1 1030301) 2 p1) 3 p2) 4 p3) 5 101) 6 u194) 6) ((va_up (va_up (va_up (va_up (va_up (va_up (va_up E 0 p0) 1 1030301) 2 p1) 3 p2) 4 p3) 5 101) 6 u194) 6)).bind (fun u196 =>
              some (1, va_up (va_up (va_up (va_up (va_up (va_up (va_up (va_up E 0 p0) 1 1030301) 2 p1) 3 p2) 4 p3) 5 101) 6 u194) 7 u196)))
      else
        (f_X0_hasRoot fu p0 p1 p2 p3).bind (fun u220 =>
        if u220 = 0 then
          if p0 = 1 then
            if p0 = 1 then
              (f_X0_power fu (va_up (va_up (va_up (va_up (va_up (va_up E 0 p0) 1 101) 2 p1) 3 p2) 4 p3) 5 (jrem (101 - p1) 101)) ((va_up (va_up (va_up (va_up (va_up (va_up E 0 p0) 1 101) 2 p1) 3 p2) 4 p3) 5 (jrem (101 - p1) 101)) 5) 101).bind (fun u248 =>
              (f_X0_times (va_up (va_up (va_up (va_up (va_up (va_up (va_up E 0 p0) 1 101) 2 p1) 3 p2) 4 p3) 5 (jrem (101 - p1) 101)) 6 u248) ((va_up (va_up (va_up (va_up (va_up (va_up (va_up E 0 p0) 1 101) 2 p1) 3 p2) 4 p3) 5 (jrem (101 - p1) 101)) 6 u248) 6) ((va_up (va_up (va_up (va_up (va_up (va_up (va_up E 0 p0) 1 101) 2 p1) 3 p2) 4 p3) 5 (jrem (101 - p1) 101)) 6 u248) 6)).bind (fun u250 =>
              some (1, va_up (va_up (va_up (va_up (va_up (va_up (va_up (va_up E 0 p0) 1 101) 2 p1) 3 p2) 4 p3) 5 (jrem (101 - p1) 101)) 6 u248) 7 u250)))
            else
              (f_X0_power fu (va_up (va_up (va_up (va_up (va_up (va_up E 0 p0) 1 101) 2 p1) 3 p2) 4 p3) 5 101) ((va_up (va_up (va_up (va_up (va_up (va_up E 0 p0) 1 101) 2 p1) 3 p2) 4 p3) 5 101) 5) 101).bind (fun u244 =>
              (f_X0_times (va_up (va_up (va_up (va_up (va_up (va_up (va_up E 0 p0) 1 101) 2 p1) 3 p2) 4 p3) 5 101) 6 u244) ((va_up (va_up (va_up (va_up (va_up (va_up (va_up E 0 p0) 1 101) 2 p1) 3 p2) 4 p3) 5 101) 6 u244) 6) ((va_up (va_up (va_up (va_up (va_up (va_up (va_up E 0 p0) 1 101) 2 p1) 3 p2) 4 p3) 5 101) 6 u244) 6)).bind (fun u246 =>
              some (1, va_up (va_up (va_up (va_up (va_up (va_up (va_up (va_up E 0 p0) 1 101) 2 p1) 3 p2) 4 p3) 5 101) 6 u244) 7 u246)))
          else
            if p0 = 2 then
              if p0 = 1 then
                (f_X0_power fu (va_up (va_up (va_up (va_up (va_up (va_up E 0 p0) 1 10201) 2 p1) 3 p2) 4 p3) 5 (jrem (101 - p1) 101)) ((va_up (va_up (va_up (va_up (va_up (va_up E 0 p0) 1 10201) 2 p1) 3 p2) 4 p3) 5 (jrem (101 - p1) 101)) 5) 101).bind (fun u239 =>
                (f_X0_times (va_up (va_up (va_up (va_up (va_up (va_up (va_up E 0 p0) 1 10201) 2 p1) 3 p2) 4 p3) 5 (jrem (101 - p1) 101)) 6 u239) ((va_up (va_up (va_up (va_up (va_up (va_up (va_up E 0 p0) 1 10201) 2 p1) 3 p2) 4 p3) 5 (jrem (101 - p1) 101)) 6 u239) 6) ((va_up (va_up (va_up (va_up (va_up (va_up (va_up E 0 p0) 1 10201) 2 p1) 3 p2) 4 p3) 5 (jrem (101 - p1) 101)) 6 u239) 6)).bind (fun u241 =>
                some (1, va_up (va_up (va_up (va_up (va_up (va_up (va_up (va_up E 0 p0) 1 10201) 2 p1) 3 p2) 4 p3) 5 (jrem (101 - p1) 101)) 6 u239) 7 u241)))
              else
                (f_X0_power fu (va_up (va_up (va_up (va_up (va_up (va_up E 0 p0) 1 10201) 2 p1) 3 p2) 4 p3) 5 101) ((va_up (va_up (va_up (va_up (va_up (va_up E 0 p0) 1 10201) 2 p1) 3 p2) 4 p3) 5 101) 5) 101).bind (fun u235 =>
                (f_X0_times (va_up (va_up (va_up (va_up (va_up (va_up (va_up E 0 p0) 1 10201) 2 p1) 3 p2) 4 p3) 5 101) 6 u235) ((va_up (va_up (va_up (va_up (va_up (va_up (va_up E 0 p0) 1 10201) 2 p1) 3 p2) 4 p3) 5 101) 6 u235) 6) ((va_up (va_up (va_up (va_up (va_up (va_up (va_up E 0 p0) 1 10201) 2 p1) 3 p2) 4 p3) 5 101) 6 u235) 6)).bind (fun u237 =>
                some (1, va_up (va_up (va_up (va_up (va_up (va_up (va_up (va_up E 0 p0) 1 10201) 2 p1) 3 p2) 4 p3) 5 101) 6 u235) 7 u237)))
            else
              if p0 = 1 then
                (f_X0_power fu (va_up (va_up (va_up (va_up (va_up (va_up E 0 p0) 1 1030301) 2 p1) 3 p2) 4 p3) 5 (jrem (101 - p1) 101)) ((va_up (va_up (va_up (va_up (va_up (va_up E 0 p0) 1 1030301) 2 p1) 3 p2) 4 p3) 5 (jrem (101 - p1) 101)) 5) 101).bind (fun u230 =>
                (f_X0_times (va_up (va_up (va_up (va_up (va_up (va_up (va_up E 0 p0) 1 1030301) 2 p1) 3 p2) 4 p3) 5 (jrem (101 - p1) 101)) 6 u230) ((va_up (va_up (va_up (va_up (va_up (va_up (va_up E 0 p0) 1 1030301) 2 p1) 3 p2) 4 p3) 5 (jrem (101 - p1) 101)) 6 u230) 6) ((va_up (va_up (va_up (va_up (va_up (va_up (va_up E 0 p0) 1 1030301) 2 p1) 3 p2) 4 p3) 5 (jrem (101 - p1) 101)) 6 u230) 6)).bind (fun u232 =>
                some (1, va_up (va_up (va_up (va_up (va_up (va_up (va_up (va_up E 0 p0) 1 1030301) 2 p1) 3 p2) 4 p3) 5 (jrem (101 - p1) 101)) 6 u230) 7 u232)))
              else
                (f_X0_power fu (va_up (va_up (va_up (va_up (va_up (va_up E 0 p0) 1 1030301) 2 p1) 3 p2) 4 p3) 5 101) ((va_up (va_up (va_up (va_up (va_up (va_up E 0 p0) 1 1030301) 2 p1) 3 p2) 4 p3) 5 101) 5) 101).bind (fun u226 =>
                (f_X0_times (va_up (va_up (va_up (va_up (va_up (va_up (va_up E 0 p0) 1 1030301) 2 p1) 3 p2) 4 p3) 5 101) 6 u226) ((va_up (va_up (va_up (va_up (va_up (va_up (va_up E 0 p0) 1 1030301) 2 p1) 3 p2) 4 p3) 5 101) 6 u226) 6) ((va_up (va_up (va_up (va_up (va_up (va_up (va_up E 0 p0) 1 1030301) 2 p1) 3 p2) 4 p3) 5 101) 6 u226) 6)).bind (fun u228 =>
                some (1, va_up (va_up (va_up (va_up (va_up (va_up (va_up (va_up E 0 p0) 1 1030301) 2 p1) 3 p2) 4 p3) 5 101) 6 u226) 7 u228)))
        else
          some (0, E))
set_option maxHeartbeats 4000000 in
set_option maxRecDepth 100000 in
theorem C_X0_become (l : Launch) (D : va_G) (tys : List (ClassId × FieldType)) (nw : List Cond) (hn : nw.all nw_kind = true) (hnw : ∀ w ∈ nw0, w ∈ nw) {ad : Nat → Nat} (hj : ww_inj 46 ad) {cI : ClassId} {cR : ClassId} (htI : tys[0]? = some (cI, .int)) (htR : tys[1]? = some (cR, .object RX2)) {fu : Nat} {M : Fin 20 → Nat → Int32} {E : Nat → Int32} {P : Nat → Fin 20} {C : Nat → Int32} {N : Nat → Int32} {p0 : Int32} {p1 : Int32} {p2 : Int32} {p3 : Int32} {res : Int32 × (Nat → Int32)} (hf : f_X0_become fu E p0 p1 p2 p3 = some res) :
    Met l yX0_become wsX0_become ({ frames := 2, cells := 0, slots := 0, locals := 59 }) (va_Pc [.ref (ad 40), .int p0, .int p1, .int p2, .int p3] (ws_B D tys nw (ww 46 ad (cellC cI cR ad M E P C N)))) (ct_Q D (ww 46 ad (cellC cI cR ad M res.2 P C N)) (ww_A 46 ad) (some (.int res.1))) 0 0 (ww_A 46 ad) := by
  refine Met.ofW (cc := cX0_become) (maxL := 7) (ret := (some .boolean)) (by decide) rfl ?_
  intro p e s m args below meth c s₁ B hml hv
  obtain ⟨rfl, hP, hK, hN⟩ := hv
  have hx := B.exec
  have hb := B.bytes
  have hr := B.returns
  have hts := atoms_spec (ws := wsX0_become) B.pre
  have hown : s.vm.findClass RX0 = some m.cls := findClass_of_methodNamed B.named
  have hlocks := B.notSynchronized
  have hS : va_S (ww_A 46 ad) s.heap s.heap [] := va_S.rf
  have hl := lv_entry ([.ref (ad 40), .int p0, .int p1, .int p2, .int p3]) (n := 7) (Nat.le_of_ble_eq_true rfl)
  rw [lg_entry_eq]
  generalize (lg_sl ([.ref (ad 40), .int p0, .int p1, .int p2, .int p3]) ++ List.replicate (7 - (lg_sl ([.ref (ad 40), .int p0, .int p1, .int p2, .int p3])).length) Slot.unset).toArray = ls at hl ⊢
  have hl : lv_has ls 7 [(0, .ref (ad 40)), (1, .int p0), (2, .int p1), (3, .int p2), (4, .int p3)] := hl
  unfold f_X0_become at hf
  refine lv_iload_n hx hb dX0_become_0 rfl (lv_at hl 1 rfl) ?_
  refine lv_iconst (v := 1) hx hb dX0_become_1 (by decide) ?_
  refine lv_icmp_le (tgt := 9) hx hb dX0_become_2 (by decide) (fun c1 => ?_) (fun c1 => ?_)
  · rw [if_pos c1] at hf
    refine lv_iconst (v := 0) hx hb dX0_become_9 (by decide) ?_
    refine lv_istore (lv' := [(5, .int 0), (0, .ref (ad 40)), (1, .int p0), (2, .int p1), (3, .int p2), (4, .int p3)]) hx hb dX0_become_10 hl (by decide) rfl (fun ls hl => ?_)
    refine lv_iload_n hx hb dX0_become_12 rfl (lv_at hl 2 rfl) ?_
    refine lv_iconst (v := 2) hx hb dX0_become_13 (by decide) ?_
    refine lv_icmp_le (tgt := 22) hx hb dX0_become_14 (by decide) (fun c2 => ?_) (fun c2 => ?_)
    · rw [if_pos c2] at hf
      refine lv_iconst (v := 0) hx hb dX0_become_22 (by decide) ?_
      refine lv_istore (lv' := [(6, .int 0), (5, .int 0), (0, .ref (ad 40)), (1, .int p0), (2, .int p1), (3, .int p2), (4, .int p3)]) hx hb dX0_become_23 hl (by decide) rfl (fun ls hl => ?_)
      refine lv_iload_n hx hb dX0_become_25 rfl (lv_at hl 3 rfl) ?_
      refine lv_iconst (v := 1) hx hb dX0_become_26 (by decide) ?_
      refine lv_icmp_le (tgt := 44) hx hb dX0_become_27 (by decide) (fun c3 => ?_) (fun c3 => ?_)
      · rw [if_pos c3] at hf
        refine lv_aload_n hx hb dX0_become_44 rfl (lv_at hl 2 rfl) ?_
        refine lv_iload_n hx hb dX0_become_45 rfl (lv_at hl 3 rfl) ?_
        refine va_put (ci := 0) (v := .int p0) (ty := .int) (C := RX0) (T := TX0) (N := 8) hx hb hts (by decide +kernel) tyX0 tyX0_ok nmX0 hown hK hP (ww_D hj) hS 40 cc_ext rfl 0 (by decide) (hts (.fieldLink RX0 9 "NumberFieldFactors$Extension" "degree" "I") (by decide +kernel)) (fun _ h9 => h9) rfl (by decide +kernel) rfl rfl (Nat.le_of_ble_eq_true rfl) dX0_become_46 (fun H locs hP hD hS => ?_)
        have hP := cs_E0 hP
        refine lv_aload_n hx hb dX0_become_49 rfl (lv_at hl 2 rfl) ?_
        refine lv_iload_n hx hb dX0_become_50 rfl (lv_at hl 3 rfl) ?_
        refine lv_iconst (v := 1) hx hb dX0_become_51 (by decide) ?_
        refine lv_icmp_ne (tgt := 60) hx hb dX0_become_52 (by decide) (fun c4 => ?_) (fun c4 => ?_)
        · rw [if_neg c4] at hf
          refine lv_iload_n hx hb dX0_become_60 rfl (lv_at hl 3 rfl) ?_
          refine lv_iconst (v := 2) hx hb dX0_become_61 (by decide) ?_
          refine lv_icmp_ne (tgt := 71) hx hb dX0_become_62 (by decide) (fun c5 => ?_) (fun c5 => ?_)
          · rw [if_neg c5] at hf
            refine lv_ldc (v := 1030301) hx hb hown (hts (.constant RX0 40 (1030301)) (by decide +kernel)) dX0_become_71 ?_
            refine va_put (ci := 0) (v := .int 1030301) (ty := .int) (C := RX0) (T := TX0) (N := 8) hx hb hts (by decide +kernel) tyX0 tyX0_ok nmX0 hown hK hP (ww_D hj) hS 40 cc_ext rfl 1 (by decide) (hts (.fieldLink RX0 15 "NumberFieldFactors$Extension" "size" "I") (by decide +kernel)) (fun _ h9 => h9) rfl (by decide +kernel) rfl rfl (Nat.le_of_ble_eq_true rfl) dX0_become_73 (fun H locs hP hD hS => ?_)
            have hP := cs_E1 hP
            refine lv_aload_n hx hb dX0_become_76 rfl (lv_at hl 2 rfl) ?_
            refine lv_iload_n hx hb dX0_become_77 rfl (lv_at hl 4 rfl) ?_
            refine va_put (ci := 0) (v := .int p1) (ty := .int) (C := RX0) (T := TX0) (N := 8) hx hb hts (by decide +kernel) tyX0 tyX0_ok nmX0 hown hK hP (ww_D hj) hS 40 cc_ext rfl 2 (by decide) (hts (.fieldLink RX0 18 "NumberFieldFactors$Extension" "low0" "I") (by decide +kernel)) (fun _ h9 => h9) rfl (by decide +kernel) rfl rfl (Nat.le_of_ble_eq_true rfl) dX0_become_78 (fun H locs hP hD hS => ?_)
            have hP := cs_E2 hP
            refine lv_aload_n hx hb dX0_become_81 rfl (lv_at hl 2 rfl) ?_
            refine lv_iload hx hb dX0_become_82 (lv_at hl 1 rfl) ?_
            refine va_put (ci := 0) (v := .int 0) (ty := .int) (C := RX0) (T := TX0) (N := 8) hx hb hts (by decide +kernel) tyX0 tyX0_ok nmX0 hown hK hP (ww_D hj) hS 40 cc_ext rfl 3 (by decide) (hts (.fieldLink RX0 21 "NumberFieldFactors$Extension" "low1" "I") (by decide +kernel)) (fun _ h9 => h9) rfl (by decide +kernel) rfl rfl (Nat.le_of_ble_eq_true rfl) dX0_become_84 (fun H locs hP hD hS => ?_)
            have hP := cs_E3 hP
            refine lv_aload_n hx hb dX0_become_87 rfl (lv_at hl 2 rfl) ?_
            refine lv_iload hx hb dX0_become_88 (lv_at hl 0 rfl) ?_
            refine va_put (ci := 0) (v := .int 0) (ty := .int) (C := RX0) (T := TX0) (N := 8) hx hb hts (by decide +kernel) tyX0 tyX0_ok nmX0 hown hK hP (ww_D hj) hS 40 cc_ext rfl 4 (by decide) (hts (.fieldLink RX0 24 "NumberFieldFactors$Extension" "low2" "I") (by decide +kernel)) (fun _ h9 => h9) rfl (by decide +kernel) rfl rfl (Nat.le_of_ble_eq_true rfl) dX0_become_90 (fun H locs hP hD hS => ?_)
            have hP := cs_E4 hP
            refine lv_aload_n hx hb dX0_become_93 rfl (lv_at hl 2 rfl) ?_
            refine lv_iload_n hx hb dX0_become_94 rfl (lv_at hl 3 rfl) ?_
            refine lv_iconst (v := 1) hx hb dX0_become_95 (by decide) ?_
            refine lv_icmp_ne (tgt := 109) hx hb dX0_become_96 (by decide) (fun c6 => ?_) (fun c6 => ?_)
            · rw [if_neg c6] at hf
              refine lv_bipush (v := 101) hx hb dX0_become_109 (by decide) ?_
              refine va_put (ci := 0) (v := .int 101) (ty := .int) (C := RX0) (T := TX0) (N := 8) hx hb hts (by decide +kernel) tyX0 tyX0_ok nmX0 hown hK hP (ww_D hj) hS 40 cc_ext rfl 5 (by decide) (hts (.fieldLink RX0 27 "NumberFieldFactors$Extension" "t" "I") (by decide +kernel)) (fun _ h9 => h9) rfl (by decide +kernel) rfl rfl (Nat.le_of_ble_eq_true rfl) dX0_become_111 (fun H locs hP hD hS => ?_)
              have hP := cs_E5 hP
              refine lv_aload_n hx hb dX0_become_114 rfl (lv_at hl 2 rfl) ?_
              refine lv_aload_n hx hb dX0_become_115 rfl (lv_at hl 2 rfl) ?_
              refine lv_aload_n hx hb dX0_become_116 rfl (lv_at hl 2 rfl) ?_
              refine va_get (ci := 0) (v := .int ((va_up (va_up (va_up (va_up (va_up (va_up E 0 p0) 1 1030301) 2 p1) 3 0) 4 0) 5 101) 5)) (C := RX0) (T := TX0) (N := 8) hx hb hts (by decide +kernel) hown hK hP 40 cc_ext rfl 5 (by decide) (hts (.fieldLink RX0 27 "NumberFieldFactors$Extension" "t" "I") (by decide +kernel)) (fun _ h9 => h9) rfl dX0_become_117 ?_
              refine lv_bipush (v := 101) hx hb dX0_become_120 (by decide) ?_
              obtain ⟨u7, g8, hf⟩ := Option.bind_eq_some_iff.mp hf
              try dsimp only at hf
              refine ct_call (va_runV (As := [.int ((va_up (va_up (va_up (va_up (va_up (va_up E 0 p0) 1 1030301) 2 p1) 3 0) 4 0) 5 101) 5), .int 101]) (rest := [.ref (ad 40)]) ⟨hx, hb, hml, hown, hts⟩ (C_X0_power l D tys nw hn hnw hj htI htR (res := u7) g8) (cwV 2 hts gX0_become_X0_power rfl rfl rfl (by decide +kernel) ⟨Nat.le_of_ble_eq_true rfl, Nat.le_of_ble_eq_true rfl⟩) (ct_preV hn hP hK hN (ci := 0) (k := 40) rfl (by decide) rfl) rfl rfl hl.1 rfl (lv_room (Nat.le_of_ble_eq_true rfl)) dX0_become_122 ⟨Nat.zero_le _, Nat.zero_le _⟩) hS (fun H locs hP hS => ?_)
              refine va_put (ci := 0) (v := .int u7) (ty := .int) (C := RX0) (T := TX0) (N := 8) hx hb hts (by decide +kernel) tyX0 tyX0_ok nmX0 hown hK hP (ww_D hj) hS 40 cc_ext rfl 6 (by decide) (hts (.fieldLink RX0 30 "NumberFieldFactors$Extension" "mateOfT" "I") (by decide +kernel)) (fun _ h9 => h9) rfl (by decide +kernel) rfl rfl (Nat.le_of_ble_eq_true rfl) dX0_become_125 (fun H locs hP hD hS => ?_)
              have hP := cs_E6 hP
              refine lv_aload_n hx hb dX0_become_128 rfl (lv_at hl 2 rfl) ?_
              refine lv_aload_n hx hb dX0_become_129 rfl (lv_at hl 2 rfl) ?_
              refine lv_aload_n hx hb dX0_become_130 rfl (lv_at hl 2 rfl) ?_
              refine va_get (ci := 0) (v := .int ((va_up (va_up (va_up (va_up (va_up (va_up (va_up E 0 p0) 1 1030301) 2 p1) 3 0) 4 0) 5 101) 6 u7) 6)) (C := RX0) (T := TX0) (N := 8) hx hb hts (by decide +kernel) hown hK hP 40 cc_ext rfl 6 (by decide) (hts (.fieldLink RX0 30 "NumberFieldFactors$Extension" "mateOfT" "I") (by decide +kernel)) (fun _ h9 => h9) rfl dX0_become_131 ?_
              refine lv_aload_n hx hb dX0_become_134 rfl (lv_at hl 2 rfl) ?_
              refine va_get (ci := 0) (v := .int ((va_up (va_up (va_up (va_up (va_up (va_up (va_up E 0 p0) 1 1030301) 2 p1) 3 0) 4 0) 5 101) 6 u7) 6)) (C := RX0) (T := TX0) (N := 8) hx hb hts (by decide +kernel) hown hK hP 40 cc_ext rfl 6 (by decide) (hts (.fieldLink RX0 30 "NumberFieldFactors$Extension" "mateOfT" "I") (by decide +kernel)) (fun _ h9 => h9) rfl dX0_become_135 ?_
              obtain ⟨u9, g10, hf⟩ := Option.bind_eq_some_iff.mp hf
              try dsimp only at hf
              refine ct_call (va_runV (As := [.int ((va_up (va_up (va_up (va_up (va_up (va_up (va_up E 0 p0) 1 1030301) 2 p1) 3 0) 4 0) 5 101) 6 u7) 6), .int ((va_up (va_up (va_up (va_up (va_up (va_up (va_up E 0 p0) 1 1030301) 2 p1) 3 0) 4 0) 5 101) 6 u7) 6)]) (rest := [.ref (ad 40)]) ⟨hx, hb, hml, hown, hts⟩ (C_X0_times l D tys nw hn hnw hj htI htR (res := u9) g10) (cwV 2 hts gX0_become_X0_times rfl rfl rfl (by decide +kernel) ⟨Nat.le_of_ble_eq_true rfl, Nat.le_of_ble_eq_true rfl⟩) (ct_preV hn hP hK hN (ci := 0) (k := 40) rfl (by decide) rfl) rfl rfl hl.1 rfl (lv_room (Nat.le_of_ble_eq_true rfl)) dX0_become_138 ⟨Nat.zero_le _, Nat.zero_le _⟩) hS (fun H locs hP hS => ?_)
              refine va_put (ci := 0) (v := .int u9) (ty := .int) (C := RX0) (T := TX0) (N := 8) hx hb hts (by decide +kernel) tyX0 tyX0_ok nmX0 hown hK hP (ww_D hj) hS 40 cc_ext rfl 7 (by decide) (hts (.fieldLink RX0 33 "NumberFieldFactors$Extension" "mateOfTSquared" "I") (by decide +kernel)) (fun _ h9 => h9) rfl (by decide +kernel) rfl rfl (Nat.le_of_ble_eq_true rfl) dX0_become_141 (fun H locs hP hD hS => ?_)
              have hP := cs_E7 hP
              refine lv_iconst (v := 1) hx hb dX0_become_144 (by decide) ?_
              obtain rfl := Option.some.inj hf
              exact W.zret (v := 1) (ty := .boolean) hx hb hr (by decide) (fun t ht hW => ⟨rfl, by rw [ht]; exact hP, hS.F ht⟩) hS.2.2 dX0_become_145
            · rw [if_pos c6] at hf
              refine lv_bipush (v := 101) hx hb dX0_become_99 (by decide) ?_
              refine lv_iload_n hx hb dX0_become_101 rfl (lv_at hl 4 rfl) ?_
              refine lv_isub hx hb dX0_become_102 ?_
              refine lv_bipush (v := 101) hx hb dX0_become_103 (by decide) ?_
              refine jv_irem hx hb dX0_become_105 (by decide) ?_
              refine lv_goto (tgt := 111) hx hb dX0_become_106 (by decide) ?_
              refine va_put (ci := 0) (v := .int (jrem (101 - p1) 101)) (ty := .int) (C := RX0) (T := TX0) (N := 8) hx hb hts (by decide +kernel) tyX0 tyX0_ok nmX0 hown hK hP (ww_D hj) hS 40 cc_ext rfl 5 (by decide) (hts (.fieldLink RX0 27 "NumberFieldFactors$Extension" "t" "I") (by decide +kernel)) (fun _ h9 => h9) rfl (by decide +kernel) rfl rfl (Nat.le_of_ble_eq_true rfl) dX0_become_111 (fun H locs hP hD hS => ?_)
              have hP := cs_E5 hP
              refine lv_aload_n hx hb dX0_become_114 rfl (lv_at hl 2 rfl) ?_
              refine lv_aload_n hx hb dX0_become_115 rfl (lv_at hl 2 rfl) ?_
              refine lv_aload_n hx hb dX0_become_116 rfl (lv_at hl 2 rfl) ?_
              refine va_get (ci := 0) (v := .int ((va_up (va_up (va_up (va_up (va_up (va_up E 0 p0) 1 1030301) 2 p1) 3 0) 4 0) 5 (jrem (101 - p1) 101)) 5)) (C := RX0) (T := TX0) (N := 8) hx hb hts (by decide +kernel) hown hK hP 40 cc_ext rfl 5 (by decide) (hts (.fieldLink RX0 27 "NumberFieldFactors$Extension" "t" "I") (by decide +kernel)) (fun _ h9 => h9) rfl dX0_become_117 ?_
              refine lv_bipush (v := 101) hx hb dX0_become_120 (by decide) ?_
              obtain ⟨u11, g12, hf⟩ := Option.bind_eq_some_iff.mp hf
              try dsimp only at hf
              refine ct_call (va_runV (As := [.int ((va_up (va_up (va_up (va_up (va_up (va_up E 0 p0) 1 1030301) 2 p1) 3 0) 4 0) 5 (jrem (101 - p1) 101)) 5), .int 101]) (rest := [.ref (ad 40)]) ⟨hx, hb, hml, hown, hts⟩ (C_X0_power l D tys nw hn hnw hj htI htR (res := u11) g12) (cwV 2 hts gX0_become_X0_power rfl rfl rfl (by decide +kernel) ⟨Nat.le_of_ble_eq_true rfl, Nat.le_of_ble_eq_true rfl⟩) (ct_preV hn hP hK hN (ci := 0) (k := 40) rfl (by decide) rfl) rfl rfl hl.1 rfl (lv_room (Nat.le_of_ble_eq_true rfl)) dX0_become_122 ⟨Nat.zero_le _, Nat.zero_le _⟩) hS (fun H locs hP hS => ?_)
              refine va_put (ci := 0) (v := .int u11) (ty := .int) (C := RX0) (T := TX0) (N := 8) hx hb hts (by decide +kernel) tyX0 tyX0_ok nmX0 hown hK hP (ww_D hj) hS 40 cc_ext rfl 6 (by decide) (hts (.fieldLink RX0 30 "NumberFieldFactors$Extension" "mateOfT" "I") (by decide +kernel)) (fun _ h9 => h9) rfl (by decide +kernel) rfl rfl (Nat.le_of_ble_eq_true rfl) dX0_become_125 (fun H locs hP hD hS => ?_)
              have hP := cs_E6 hP
              refine lv_aload_n hx hb dX0_become_128 rfl (lv_at hl 2 rfl) ?_
              refine lv_aload_n hx hb dX0_become_129 rfl (lv_at hl 2 rfl) ?_
              refine lv_aload_n hx hb dX0_become_130 rfl (lv_at hl 2 rfl) ?_
              refine va_get (ci := 0) (v := .int ((va_up (va_up (va_up (va_up (va_up (va_up (va_up E 0 p0) 1 1030301) 2 p1) 3 0) 4 0) 5 (jrem (101 - p1) 101)) 6 u11) 6)) (C := RX0) (T := TX0) (N := 8) hx hb hts (by decide +kernel) hown hK hP 40 cc_ext rfl 6 (by decide) (hts (.fieldLink RX0 30 "NumberFieldFactors$Extension" "mateOfT" "I") (by decide +kernel)) (fun _ h9 => h9) rfl dX0_become_131 ?_
              refine lv_aload_n hx hb dX0_become_134 rfl (lv_at hl 2 rfl) ?_
              refine va_get (ci := 0) (v := .int ((va_up (va_up (va_up (va_up (va_up (va_up (va_up E 0 p0) 1 1030301) 2 p1) 3 0) 4 0) 5 (jrem (101 - p1) 101)) 6 u11) 6)) (C := RX0) (T := TX0) (N := 8) hx hb hts (by decide +kernel) hown hK hP 40 cc_ext rfl 6 (by decide) (hts (.fieldLink RX0 30 "NumberFieldFactors$Extension" "mateOfT" "I") (by decide +kernel)) (fun _ h9 => h9) rfl dX0_become_135 ?_
              obtain ⟨u13, g14, hf⟩ := Option.bind_eq_some_iff.mp hf
              try dsimp only at hf
              refine ct_call (va_runV (As := [.int ((va_up (va_up (va_up (va_up (va_up (va_up (va_up E 0 p0) 1 1030301) 2 p1) 3 0) 4 0) 5 (jrem (101 - p1) 101)) 6 u11) 6), .int ((va_up (va_up (va_up (va_up (va_up (va_up (va_up E 0 p0) 1 1030301) 2 p1) 3 0) 4 0) 5 (jrem (101 - p1) 101)) 6 u11) 6)]) (rest := [.ref (ad 40)]) ⟨hx, hb, hml, hown, hts⟩ (C_X0_times l D tys nw hn hnw hj htI htR (res := u13) g14) (cwV 2 hts gX0_become_X0_times rfl rfl rfl (by decide +kernel) ⟨Nat.le_of_ble_eq_true rfl, Nat.le_of_ble_eq_true rfl⟩) (ct_preV hn hP hK hN (ci := 0) (k := 40) rfl (by decide) rfl) rfl rfl hl.1 rfl (lv_room (Nat.le_of_ble_eq_true rfl)) dX0_become_138 ⟨Nat.zero_le _, Nat.zero_le _⟩) hS (fun H locs hP hS => ?_)
              refine va_put (ci := 0) (v := .int u13) (ty := .int) (C := RX0) (T := TX0) (N := 8) hx hb hts (by decide +kernel) tyX0 tyX0_ok nmX0 hown hK hP (ww_D hj) hS 40 cc_ext rfl 7 (by decide) (hts (.fieldLink RX0 33 "NumberFieldFactors$Extension" "mateOfTSquared" "I") (by decide +kernel)) (fun _ h9 => h9) rfl (by decide +kernel) rfl rfl (Nat.le_of_ble_eq_true rfl) dX0_become_141 (fun H locs hP hD hS => ?_)
              have hP := cs_E7 hP
              refine lv_iconst (v := 1) hx hb dX0_become_144 (by decide) ?_
              obtain rfl := Option.some.inj hf
              exact W.zret (v := 1) (ty := .boolean) hx hb hr (by decide) (fun t ht hW => ⟨rfl, by rw [ht]; exact hP, hS.F ht⟩) hS.2.2 dX0_become_145
          · rw [if_pos c5] at hf
            refine lv_sipush (v := 10201) hx hb dX0_become_65 (by decide) ?_
            refine lv_goto (tgt := 73) hx hb dX0_become_68 (by decide) ?_
            refine va_put (ci := 0) (v := .int 10201) (ty := .int) (C := RX0) (T := TX0) (N := 8) hx hb hts (by decide +kernel) tyX0 tyX0_ok nmX0 hown hK hP (ww_D hj) hS 40 cc_ext rfl 1 (by decide) (hts (.fieldLink RX0 15 "NumberFieldFactors$Extension" "size" "I") (by decide +kernel)) (fun _ h9 => h9) rfl (by decide +kernel) rfl rfl (Nat.le_of_ble_eq_true rfl) dX0_become_73 (fun H locs hP hD hS => ?_)
            have hP := cs_E1 hP
            refine lv_aload_n hx hb dX0_become_76 rfl (lv_at hl 2 rfl) ?_
            refine lv_iload_n hx hb dX0_become_77 rfl (lv_at hl 4 rfl) ?_
            refine va_put (ci := 0) (v := .int p1) (ty := .int) (C := RX0) (T := TX0) (N := 8) hx hb hts (by decide +kernel) tyX0 tyX0_ok nmX0 hown hK hP (ww_D hj) hS 40 cc_ext rfl 2 (by decide) (hts (.fieldLink RX0 18 "NumberFieldFactors$Extension" "low0" "I") (by decide +kernel)) (fun _ h9 => h9) rfl (by decide +kernel) rfl rfl (Nat.le_of_ble_eq_true rfl) dX0_become_78 (fun H locs hP hD hS => ?_)
            have hP := cs_E2 hP
            refine lv_aload_n hx hb dX0_become_81 rfl (lv_at hl 2 rfl) ?_
            refine lv_iload hx hb dX0_become_82 (lv_at hl 1 rfl) ?_
            refine va_put (ci := 0) (v := .int 0) (ty := .int) (C := RX0) (T := TX0) (N := 8) hx hb hts (by decide +kernel) tyX0 tyX0_ok nmX0 hown hK hP (ww_D hj) hS 40 cc_ext rfl 3 (by decide) (hts (.fieldLink RX0 21 "NumberFieldFactors$Extension" "low1" "I") (by decide +kernel)) (fun _ h9 => h9) rfl (by decide +kernel) rfl rfl (Nat.le_of_ble_eq_true rfl) dX0_become_84 (fun H locs hP hD hS => ?_)
            have hP := cs_E3 hP
            refine lv_aload_n hx hb dX0_become_87 rfl (lv_at hl 2 rfl) ?_
            refine lv_iload hx hb dX0_become_88 (lv_at hl 0 rfl) ?_
            refine va_put (ci := 0) (v := .int 0) (ty := .int) (C := RX0) (T := TX0) (N := 8) hx hb hts (by decide +kernel) tyX0 tyX0_ok nmX0 hown hK hP (ww_D hj) hS 40 cc_ext rfl 4 (by decide) (hts (.fieldLink RX0 24 "NumberFieldFactors$Extension" "low2" "I") (by decide +kernel)) (fun _ h9 => h9) rfl (by decide +kernel) rfl rfl (Nat.le_of_ble_eq_true rfl) dX0_become_90 (fun H locs hP hD hS => ?_)
            have hP := cs_E4 hP
            refine lv_aload_n hx hb dX0_become_93 rfl (lv_at hl 2 rfl) ?_
            refine lv_iload_n hx hb dX0_become_94 rfl (lv_at hl 3 rfl) ?_
            refine lv_iconst (v := 1) hx hb dX0_become_95 (by decide) ?_
            refine lv_icmp_ne (tgt := 109) hx hb dX0_become_96 (by decide) (fun c15 => ?_) (fun c15 => ?_)
            · rw [if_neg c15] at hf
              refine lv_bipush (v := 101) hx hb dX0_become_109 (by decide) ?_
              refine va_put (ci := 0) (v := .int 101) (ty := .int) (C := RX0) (T := TX0) (N := 8) hx hb hts (by decide +kernel) tyX0 tyX0_ok nmX0 hown hK hP (ww_D hj) hS 40 cc_ext rfl 5 (by decide) (hts (.fieldLink RX0 27 "NumberFieldFactors$Extension" "t" "I") (by decide +kernel)) (fun _ h9 => h9) rfl (by decide +kernel) rfl rfl (Nat.le_of_ble_eq_true rfl) dX0_become_111 (fun H locs hP hD hS => ?_)
              have hP := cs_E5 hP
              refine lv_aload_n hx hb dX0_become_114 rfl (lv_at hl 2 rfl) ?_
              refine lv_aload_n hx hb dX0_become_115 rfl (lv_at hl 2 rfl) ?_
              refine lv_aload_n hx hb dX0_become_116 rfl (lv_at hl 2 rfl) ?_
              refine va_get (ci := 0) (v := .int ((va_up (va_up (va_up (va_up (va_up (va_up E 0 p0) 1 10201) 2 p1) 3 0) 4 0) 5 101) 5)) (C := RX0) (T := TX0) (N := 8) hx hb hts (by decide +kernel) hown hK hP 40 cc_ext rfl 5 (by decide) (hts (.fieldLink RX0 27 "NumberFieldFactors$Extension" "t" "I") (by decide +kernel)) (fun _ h9 => h9) rfl dX0_become_117 ?_
              refine lv_bipush (v := 101) hx hb dX0_become_120 (by decide) ?_
              obtain ⟨u16, g17, hf⟩ := Option.bind_eq_some_iff.mp hf
              try dsimp only at hf
              refine ct_call (va_runV (As := [.int ((va_up (va_up (va_up (va_up (va_up (va_up E 0 p0) 1 10201) 2 p1) 3 0) 4 0) 5 101) 5), .int 101]) (rest := [.ref (ad 40)]) ⟨hx, hb, hml, hown, hts⟩ (C_X0_power l D tys nw hn hnw hj htI htR (res := u16) g17) (cwV 2 hts gX0_become_X0_power rfl rfl rfl (by decide +kernel) ⟨Nat.le_of_ble_eq_true rfl, Nat.le_of_ble_eq_true rfl⟩) (ct_preV hn hP hK hN (ci := 0) (k := 40) rfl (by decide) rfl) rfl rfl hl.1 rfl (lv_room (Nat.le_of_ble_eq_true rfl)) dX0_become_122 ⟨Nat.zero_le _, Nat.zero_le _⟩) hS (fun H locs hP hS => ?_)
              refine va_put (ci := 0) (v := .int u16) (ty := .int) (C := RX0) (T := TX0) (N := 8) hx hb hts (by decide +kernel) tyX0 tyX0_ok nmX0 hown hK hP (ww_D hj) hS 40 cc_ext rfl 6 (by decide) (hts (.fieldLink RX0 30 "NumberFieldFactors$Extension" "mateOfT" "I") (by decide +kernel)) (fun _ h9 => h9) rfl (by decide +kernel) rfl rfl (Nat.le_of_ble_eq_true rfl) dX0_become_125 (fun H locs hP hD hS => ?_)
              have hP := cs_E6 hP
              refine lv_aload_n hx hb dX0_become_128 rfl (lv_at hl 2 rfl) ?_
              refine lv_aload_n hx hb dX0_become_129 rfl (lv_at hl 2 rfl) ?_
              refine lv_aload_n hx hb dX0_become_130 rfl (lv_at hl 2 rfl) ?_
              refine va_get (ci := 0) (v := .int ((va_up (va_up (va_up (va_up (va_up (va_up (va_up E 0 p0) 1 10201) 2 p1) 3 0) 4 0) 5 101) 6 u16) 6)) (C := RX0) (T := TX0) (N := 8) hx hb hts (by decide +kernel) hown hK hP 40 cc_ext rfl 6 (by decide) (hts (.fieldLink RX0 30 "NumberFieldFactors$Extension" "mateOfT" "I") (by decide +kernel)) (fun _ h9 => h9) rfl dX0_become_131 ?_
              refine lv_aload_n hx hb dX0_become_134 rfl (lv_at hl 2 rfl) ?_
              refine va_get (ci := 0) (v := .int ((va_up (va_up (va_up (va_up (va_up (va_up (va_up E 0 p0) 1 10201) 2 p1) 3 0) 4 0) 5 101) 6 u16) 6)) (C := RX0) (T := TX0) (N := 8) hx hb hts (by decide +kernel) hown hK hP 40 cc_ext rfl 6 (by decide) (hts (.fieldLink RX0 30 "NumberFieldFactors$Extension" "mateOfT" "I") (by decide +kernel)) (fun _ h9 => h9) rfl dX0_become_135 ?_
              obtain ⟨u18, g19, hf⟩ := Option.bind_eq_some_iff.mp hf
              try dsimp only at hf
              refine ct_call (va_runV (As := [.int ((va_up (va_up (va_up (va_up (va_up (va_up (va_up E 0 p0) 1 10201) 2 p1) 3 0) 4 0) 5 101) 6 u16) 6), .int ((va_up (va_up (va_up (va_up (va_up (va_up (va_up E 0 p0) 1 10201) 2 p1) 3 0) 4 0) 5 101) 6 u16) 6)]) (rest := [.ref (ad 40)]) ⟨hx, hb, hml, hown, hts⟩ (C_X0_times l D tys nw hn hnw hj htI htR (res := u18) g19) (cwV 2 hts gX0_become_X0_times rfl rfl rfl (by decide +kernel) ⟨Nat.le_of_ble_eq_true rfl, Nat.le_of_ble_eq_true rfl⟩) (ct_preV hn hP hK hN (ci := 0) (k := 40) rfl (by decide) rfl) rfl rfl hl.1 rfl (lv_room (Nat.le_of_ble_eq_true rfl)) dX0_become_138 ⟨Nat.zero_le _, Nat.zero_le _⟩) hS (fun H locs hP hS => ?_)
              refine va_put (ci := 0) (v := .int u18) (ty := .int) (C := RX0) (T := TX0) (N := 8) hx hb hts (by decide +kernel) tyX0 tyX0_ok nmX0 hown hK hP (ww_D hj) hS 40 cc_ext rfl 7 (by decide) (hts (.fieldLink RX0 33 "NumberFieldFactors$Extension" "mateOfTSquared" "I") (by decide +kernel)) (fun _ h9 => h9) rfl (by decide +kernel) rfl rfl (Nat.le_of_ble_eq_true rfl) dX0_become_141 (fun H locs hP hD hS => ?_)
              have hP := cs_E7 hP
              refine lv_iconst (v := 1) hx hb dX0_become_144 (by decide) ?_
              obtain rfl := Option.some.inj hf
              exact W.zret (v := 1) (ty := .boolean) hx hb hr (by decide) (fun t ht hW => ⟨rfl, by rw [ht]; exact hP, hS.F ht⟩) hS.2.2 dX0_become_145
            · rw [if_pos c15] at hf
              refine lv_bipush (v := 101) hx hb dX0_become_99 (by decide) ?_
              refine lv_iload_n hx hb dX0_become_101 rfl (lv_at hl 4 rfl) ?_
              refine lv_isub hx hb dX0_become_102 ?_
              refine lv_bipush (v := 101) hx hb dX0_become_103 (by decide) ?_
              refine jv_irem hx hb dX0_become_105 (by decide) ?_
              refine lv_goto (tgt := 111) hx hb dX0_become_106 (by decide) ?_
              refine va_put (ci := 0) (v := .int (jrem (101 - p1) 101)) (ty := .int) (C := RX0) (T := TX0) (N := 8) hx hb hts (by decide +kernel) tyX0 tyX0_ok nmX0 hown hK hP (ww_D hj) hS 40 cc_ext rfl 5 (by decide) (hts (.fieldLink RX0 27 "NumberFieldFactors$Extension" "t" "I") (by decide +kernel)) (fun _ h9 => h9) rfl (by decide +kernel) rfl rfl (Nat.le_of_ble_eq_true rfl) dX0_become_111 (fun H locs hP hD hS => ?_)
              have hP := cs_E5 hP
              refine lv_aload_n hx hb dX0_become_114 rfl (lv_at hl 2 rfl) ?_
              refine lv_aload_n hx hb dX0_become_115 rfl (lv_at hl 2 rfl) ?_
              refine lv_aload_n hx hb dX0_become_116 rfl (lv_at hl 2 rfl) ?_
              refine va_get (ci := 0) (v := .int ((va_up (va_up (va_up (va_up (va_up (va_up E 0 p0) 1 10201) 2 p1) 3 0) 4 0) 5 (jrem (101 - p1) 101)) 5)) (C := RX0) (T := TX0) (N := 8) hx hb hts (by decide +kernel) hown hK hP 40 cc_ext rfl 5 (by decide) (hts (.fieldLink RX0 27 "NumberFieldFactors$Extension" "t" "I") (by decide +kernel)) (fun _ h9 => h9) rfl dX0_become_117 ?_
              refine lv_bipush (v := 101) hx hb dX0_become_120 (by decide) ?_
              obtain ⟨u20, g21, hf⟩ := Option.bind_eq_some_iff.mp hf
              try dsimp only at hf
              refine ct_call (va_runV (As := [.int ((va_up (va_up (va_up (va_up (va_up (va_up E 0 p0) 1 10201) 2 p1) 3 0) 4 0) 5 (jrem (101 - p1) 101)) 5), .int 101]) (rest := [.ref (ad 40)]) ⟨hx, hb, hml, hown, hts⟩ (C_X0_power l D tys nw hn hnw hj htI htR (res := u20) g21) (cwV 2 hts gX0_become_X0_power rfl rfl rfl (by decide +kernel) ⟨Nat.le_of_ble_eq_true rfl, Nat.le_of_ble_eq_true rfl⟩) (ct_preV hn hP hK hN (ci := 0) (k := 40) rfl (by decide) rfl) rfl rfl hl.1 rfl (lv_room (Nat.le_of_ble_eq_true rfl)) dX0_become_122 ⟨Nat.zero_le _, Nat.zero_le _⟩) hS (fun H locs hP hS => ?_)
              refine va_put (ci := 0) (v := .int u20) (ty := .int) (C := RX0) (T := TX0) (N := 8) hx hb hts (by decide +kernel) tyX0 tyX0_ok nmX0 hown hK hP (ww_D hj) hS 40 cc_ext rfl 6 (by decide) (hts (.fieldLink RX0 30 "NumberFieldFactors$Extension" "mateOfT" "I") (by decide +kernel)) (fun _ h9 => h9) rfl (by decide +kernel) rfl rfl (Nat.le_of_ble_eq_true rfl) dX0_become_125 (fun H locs hP hD hS => ?_)
              have hP := cs_E6 hP
              refine lv_aload_n hx hb dX0_become_128 rfl (lv_at hl 2 rfl) ?_
              refine lv_aload_n hx hb dX0_become_129 rfl (lv_at hl 2 rfl) ?_
              refine lv_aload_n hx hb dX0_become_130 rfl (lv_at hl 2 rfl) ?_
              refine va_get (ci := 0) (v := .int ((va_up (va_up (va_up (va_up (va_up (va_up (va_up E 0 p0) 1 10201) 2 p1) 3 0) 4 0) 5 (jrem (101 - p1) 101)) 6 u20) 6)) (C := RX0) (T := TX0) (N := 8) hx hb hts (by decide +kernel) hown hK hP 40 cc_ext rfl 6 (by decide) (hts (.fieldLink RX0 30 "NumberFieldFactors$Extension" "mateOfT" "I") (by decide +kernel)) (fun _ h9 => h9) rfl dX0_become_131 ?_
              refine lv_aload_n hx hb dX0_become_134 rfl (lv_at hl 2 rfl) ?_
              refine va_get (ci := 0) (v := .int ((va_up (va_up (va_up (va_up (va_up (va_up (va_up E 0 p0) 1 10201) 2 p1) 3 0) 4 0) 5 (jrem (101 - p1) 101)) 6 u20) 6)) (C := RX0) (T := TX0) (N := 8) hx hb hts (by decide +kernel) hown hK hP 40 cc_ext rfl 6 (by decide) (hts (.fieldLink RX0 30 "NumberFieldFactors$Extension" "mateOfT" "I") (by decide +kernel)) (fun _ h9 => h9) rfl dX0_become_135 ?_
              obtain ⟨u22, g23, hf⟩ := Option.bind_eq_some_iff.mp hf
              try dsimp only at hf
              refine ct_call (va_runV (As := [.int ((va_up (va_up (va_up (va_up (va_up (va_up (va_up E 0 p0) 1 10201) 2 p1) 3 0) 4 0) 5 (jrem (101 - p1) 101)) 6 u20) 6), .int ((va_up (va_up (va_up (va_up (va_up (va_up (va_up E 0 p0) 1 10201) 2 p1) 3 0) 4 0) 5 (jrem (101 - p1) 101)) 6 u20) 6)]) (rest := [.ref (ad 40)]) ⟨hx, hb, hml, hown, hts⟩ (C_X0_times l D tys nw hn hnw hj htI htR (res := u22) g23) (cwV 2 hts gX0_become_X0_times rfl rfl rfl (by decide +kernel) ⟨Nat.le_of_ble_eq_true rfl, Nat.le_of_ble_eq_true rfl⟩) (ct_preV hn hP hK hN (ci := 0) (k := 40) rfl (by decide) rfl) rfl rfl hl.1 rfl (lv_room (Nat.le_of_ble_eq_true rfl)) dX0_become_138 ⟨Nat.zero_le _, Nat.zero_le _⟩) hS (fun H locs hP hS => ?_)
              refine va_put (ci := 0) (v := .int u22) (ty := .int) (C := RX0) (T := TX0) (N := 8) hx hb hts (by decide +kernel) tyX0 tyX0_ok nmX0 hown hK hP (ww_D hj) hS 40 cc_ext rfl 7 (by decide) (hts (.fieldLink RX0 33 "NumberFieldFactors$Extension" "mateOfTSquared" "I") (by decide +kernel)) (fun _ h9 => h9) rfl (by decide +kernel) rfl rfl (Nat.le_of_ble_eq_true rfl) dX0_become_141 (fun H locs hP hD hS => ?_)
              have hP := cs_E7 hP
              refine lv_iconst (v := 1) hx hb dX0_become_144 (by decide) ?_
              obtain rfl := Option.some.inj hf
              exact W.zret (v := 1) (ty := .boolean) hx hb hr (by decide) (fun t ht hW => ⟨rfl, by rw [ht]; exact hP, hS.F ht⟩) hS.2.2 dX0_become_145
        · rw [if_pos c4] at hf
          refine lv_bipush (v := 101) hx hb dX0_become_55 (by decide) ?_
          refine lv_goto (tgt := 73) hx hb dX0_become_57 (by decide) ?_
          refine va_put (ci := 0) (v := .int 101) (ty := .int) (C := RX0) (T := TX0) (N := 8) hx hb hts (by decide +kernel) tyX0 tyX0_ok nmX0 hown hK hP (ww_D hj) hS 40 cc_ext rfl 1 (by decide) (hts (.fieldLink RX0 15 "NumberFieldFactors$Extension" "size" "I") (by decide +kernel)) (fun _ h9 => h9) rfl (by decide +kernel) rfl rfl (Nat.le_of_ble_eq_true rfl) dX0_become_73 (fun H locs hP hD hS => ?_)
          have hP := cs_E1 hP
          refine lv_aload_n hx hb dX0_become_76 rfl (lv_at hl 2 rfl) ?_
          refine lv_iload_n hx hb dX0_become_77 rfl (lv_at hl 4 rfl) ?_
          refine va_put (ci := 0) (v := .int p1) (ty := .int) (C := RX0) (T := TX0) (N := 8) hx hb hts (by decide +kernel) tyX0 tyX0_ok nmX0 hown hK hP (ww_D hj) hS 40 cc_ext rfl 2 (by decide) (hts (.fieldLink RX0 18 "NumberFieldFactors$Extension" "low0" "I") (by decide +kernel)) (fun _ h9 => h9) rfl (by decide +kernel) rfl rfl (Nat.le_of_ble_eq_true rfl) dX0_become_78 (fun H locs hP hD hS => ?_)
          have hP := cs_E2 hP
          refine lv_aload_n hx hb dX0_become_81 rfl (lv_at hl 2 rfl) ?_
          refine lv_iload hx hb dX0_become_82 (lv_at hl 1 rfl) ?_
          refine va_put (ci := 0) (v := .int 0) (ty := .int) (C := RX0) (T := TX0) (N := 8) hx hb hts (by decide +kernel) tyX0 tyX0_ok nmX0 hown hK hP (ww_D hj) hS 40 cc_ext rfl 3 (by decide) (hts (.fieldLink RX0 21 "NumberFieldFactors$Extension" "low1" "I") (by decide +kernel)) (fun _ h9 => h9) rfl (by decide +kernel) rfl rfl (Nat.le_of_ble_eq_true rfl) dX0_become_84 (fun H locs hP hD hS => ?_)
          have hP := cs_E3 hP
          refine lv_aload_n hx hb dX0_become_87 rfl (lv_at hl 2 rfl) ?_
          refine lv_iload hx hb dX0_become_88 (lv_at hl 0 rfl) ?_
          refine va_put (ci := 0) (v := .int 0) (ty := .int) (C := RX0) (T := TX0) (N := 8) hx hb hts (by decide +kernel) tyX0 tyX0_ok nmX0 hown hK hP (ww_D hj) hS 40 cc_ext rfl 4 (by decide) (hts (.fieldLink RX0 24 "NumberFieldFactors$Extension" "low2" "I") (by decide +kernel)) (fun _ h9 => h9) rfl (by decide +kernel) rfl rfl (Nat.le_of_ble_eq_true rfl) dX0_become_90 (fun H locs hP hD hS => ?_)
          have hP := cs_E4 hP
          refine lv_aload_n hx hb dX0_become_93 rfl (lv_at hl 2 rfl) ?_
          refine lv_iload_n hx hb dX0_become_94 rfl (lv_at hl 3 rfl) ?_
          refine lv_iconst (v := 1) hx hb dX0_become_95 (by decide) ?_
          refine lv_icmp_ne (tgt := 109) hx hb dX0_become_96 (by decide) (fun c24 => ?_) (fun c24 => ?_)
          · rw [if_neg c24] at hf
            refine lv_bipush (v := 101) hx hb dX0_become_109 (by decide) ?_
            refine va_put (ci := 0) (v := .int 101) (ty := .int) (C := RX0) (T := TX0) (N := 8) hx hb hts (by decide +kernel) tyX0 tyX0_ok nmX0 hown hK hP (ww_D hj) hS 40 cc_ext rfl 5 (by decide) (hts (.fieldLink RX0 27 "NumberFieldFactors$Extension" "t" "I") (by decide +kernel)) (fun _ h9 => h9) rfl (by decide +kernel) rfl rfl (Nat.le_of_ble_eq_true rfl) dX0_become_111 (fun H locs hP hD hS => ?_)
            have hP := cs_E5 hP
            refine lv_aload_n hx hb dX0_become_114 rfl (lv_at hl 2 rfl) ?_
            refine lv_aload_n hx hb dX0_become_115 rfl (lv_at hl 2 rfl) ?_
            refine lv_aload_n hx hb dX0_become_116 rfl (lv_at hl 2 rfl) ?_
            refine va_get (ci := 0) (v := .int ((va_up (va_up (va_up (va_up (va_up (va_up E 0 p0) 1 101) 2 p1) 3 0) 4 0) 5 101) 5)) (C := RX0) (T := TX0) (N := 8) hx hb hts (by decide +kernel) hown hK hP 40 cc_ext rfl 5 (by decide) (hts (.fieldLink RX0 27 "NumberFieldFactors$Extension" "t" "I") (by decide +kernel)) (fun _ h9 => h9) rfl dX0_become_117 ?_
            refine lv_bipush (v := 101) hx hb dX0_become_120 (by decide) ?_
            obtain ⟨u25, g26, hf⟩ := Option.bind_eq_some_iff.mp hf
            try dsimp only at hf
            refine ct_call (va_runV (As := [.int ((va_up (va_up (va_up (va_up (va_up (va_up E 0 p0) 1 101) 2 p1) 3 0) 4 0) 5 101) 5), .int 101]) (rest := [.ref (ad 40)]) ⟨hx, hb, hml, hown, hts⟩ (C_X0_power l D tys nw hn hnw hj htI htR (res := u25) g26) (cwV 2 hts gX0_become_X0_power rfl rfl rfl (by decide +kernel) ⟨Nat.le_of_ble_eq_true rfl, Nat.le_of_ble_eq_true rfl⟩) (ct_preV hn hP hK hN (ci := 0) (k := 40) rfl (by decide) rfl) rfl rfl hl.1 rfl (lv_room (Nat.le_of_ble_eq_true rfl)) dX0_become_122 ⟨Nat.zero_le _, Nat.zero_le _⟩) hS (fun H locs hP hS => ?_)
            refine va_put (ci := 0) (v := .int u25) (ty := .int) (C := RX0) (T := TX0) (N := 8) hx hb hts (by decide +kernel) tyX0 tyX0_ok nmX0 hown hK hP (ww_D hj) hS 40 cc_ext rfl 6 (by decide) (hts (.fieldLink RX0 30 "NumberFieldFactors$Extension" "mateOfT" "I") (by decide +kernel)) (fun _ h9 => h9) rfl (by decide +kernel) rfl rfl (Nat.le_of_ble_eq_true rfl) dX0_become_125 (fun H locs hP hD hS => ?_)
            have hP := cs_E6 hP
            refine lv_aload_n hx hb dX0_become_128 rfl (lv_at hl 2 rfl) ?_
            refine lv_aload_n hx hb dX0_become_129 rfl (lv_at hl 2 rfl) ?_
            refine lv_aload_n hx hb dX0_become_130 rfl (lv_at hl 2 rfl) ?_
            refine va_get (ci := 0) (v := .int ((va_up (va_up (va_up (va_up (va_up (va_up (va_up E 0 p0) 1 101) 2 p1) 3 0) 4 0) 5 101) 6 u25) 6)) (C := RX0) (T := TX0) (N := 8) hx hb hts (by decide +kernel) hown hK hP 40 cc_ext rfl 6 (by decide) (hts (.fieldLink RX0 30 "NumberFieldFactors$Extension" "mateOfT" "I") (by decide +kernel)) (fun _ h9 => h9) rfl dX0_become_131 ?_
            refine lv_aload_n hx hb dX0_become_134 rfl (lv_at hl 2 rfl) ?_
            refine va_get (ci := 0) (v := .int ((va_up (va_up (va_up (va_up (va_up (va_up (va_up E 0 p0) 1 101) 2 p1) 3 0) 4 0) 5 101) 6 u25) 6)) (C := RX0) (T := TX0) (N := 8) hx hb hts (by decide +kernel) hown hK hP 40 cc_ext rfl 6 (by decide) (hts (.fieldLink RX0 30 "NumberFieldFactors$Extension" "mateOfT" "I") (by decide +kernel)) (fun _ h9 => h9) rfl dX0_become_135 ?_
            obtain ⟨u27, g28, hf⟩ := Option.bind_eq_some_iff.mp hf
            try dsimp only at hf
            refine ct_call (va_runV (As := [.int ((va_up (va_up (va_up (va_up (va_up (va_up (va_up E 0 p0) 1 101) 2 p1) 3 0) 4 0) 5 101) 6 u25) 6), .int ((va_up (va_up (va_up (va_up (va_up (va_up (va_up E 0 p0) 1 101) 2 p1) 3 0) 4 0) 5 101) 6 u25) 6)]) (rest := [.ref (ad 40)]) ⟨hx, hb, hml, hown, hts⟩ (C_X0_times l D tys nw hn hnw hj htI htR (res := u27) g28) (cwV 2 hts gX0_become_X0_times rfl rfl rfl (by decide +kernel) ⟨Nat.le_of_ble_eq_true rfl, Nat.le_of_ble_eq_true rfl⟩) (ct_preV hn hP hK hN (ci := 0) (k := 40) rfl (by decide) rfl) rfl rfl hl.1 rfl (lv_room (Nat.le_of_ble_eq_true rfl)) dX0_become_138 ⟨Nat.zero_le _, Nat.zero_le _⟩) hS (fun H locs hP hS => ?_)
            refine va_put (ci := 0) (v := .int u27) (ty := .int) (C := RX0) (T := TX0) (N := 8) hx hb hts (by decide +kernel) tyX0 tyX0_ok nmX0 hown hK hP (ww_D hj) hS 40 cc_ext rfl 7 (by decide) (hts (.fieldLink RX0 33 "NumberFieldFactors$Extension" "mateOfTSquared" "I") (by decide +kernel)) (fun _ h9 => h9) rfl (by decide +kernel) rfl rfl (Nat.le_of_ble_eq_true rfl) dX0_become_141 (fun H locs hP hD hS => ?_)
            have hP := cs_E7 hP
            refine lv_iconst (v := 1) hx hb dX0_become_144 (by decide) ?_
            obtain rfl := Option.some.inj hf
            exact W.zret (v := 1) (ty := .boolean) hx hb hr (by decide) (fun t ht hW => ⟨rfl, by rw [ht]; exact hP, hS.F ht⟩) hS.2.2 dX0_become_145
          · rw [if_pos c24] at hf
            refine lv_bipush (v := 101) hx hb dX0_become_99 (by decide) ?_
            refine lv_iload_n hx hb dX0_become_101 rfl (lv_at hl 4 rfl) ?_
            refine lv_isub hx hb dX0_become_102 ?_
            refine lv_bipush (v := 101) hx hb dX0_become_103 (by decide) ?_
            refine jv_irem hx hb dX0_become_105 (by decide) ?_
            refine lv_goto (tgt := 111) hx hb dX0_become_106 (by decide) ?_
            refine va_put (ci := 0) (v := .int (jrem (101 - p1) 101)) (ty := .int) (C := RX0) (T := TX0) (N := 8) hx hb hts (by decide +kernel) tyX0 tyX0_ok nmX0 hown hK hP (ww_D hj) hS 40 cc_ext rfl 5 (by decide) (hts (.fieldLink RX0 27 "NumberFieldFactors$Extension" "t" "I") (by decide +kernel)) (fun _ h9 => h9) rfl (by decide +kernel) rfl rfl (Nat.le_of_ble_eq_true rfl) dX0_become_111 (fun H locs hP hD hS => ?_)
            have hP := cs_E5 hP
            refine lv_aload_n hx hb dX0_become_114 rfl (lv_at hl 2 rfl) ?_
            refine lv_aload_n hx hb dX0_become_115 rfl (lv_at hl 2 rfl) ?_
            refine lv_aload_n hx hb dX0_become_116 rfl (lv_at hl 2 rfl) ?_
            refine va_get (ci := 0) (v := .int ((va_up (va_up (va_up (va_up (va_up (va_up E 0 p0) 1 101) 2 p1) 3 0) 4 0) 5 (jrem (101 - p1) 101)) 5)) (C := RX0) (T := TX0) (N := 8) hx hb hts (by decide +kernel) hown hK hP 40 cc_ext rfl 5 (by decide) (hts (.fieldLink RX0 27 "NumberFieldFactors$Extension" "t" "I") (by decide +kernel)) (fun _ h9 => h9) rfl dX0_become_117 ?_
            refine lv_bipush (v := 101) hx hb dX0_become_120 (by decide) ?_
            obtain ⟨u29, g30, hf⟩ := Option.bind_eq_some_iff.mp hf
            try dsimp only at hf
            refine ct_call (va_runV (As := [.int ((va_up (va_up (va_up (va_up (va_up (va_up E 0 p0) 1 101) 2 p1) 3 0) 4 0) 5 (jrem (101 - p1) 101)) 5), .int 101]) (rest := [.ref (ad 40)]) ⟨hx, hb, hml, hown, hts⟩ (C_X0_power l D tys nw hn hnw hj htI htR (res := u29) g30) (cwV 2 hts gX0_become_X0_power rfl rfl rfl (by decide +kernel) ⟨Nat.le_of_ble_eq_true rfl, Nat.le_of_ble_eq_true rfl⟩) (ct_preV hn hP hK hN (ci := 0) (k := 40) rfl (by decide) rfl) rfl rfl hl.1 rfl (lv_room (Nat.le_of_ble_eq_true rfl)) dX0_become_122 ⟨Nat.zero_le _, Nat.zero_le _⟩) hS (fun H locs hP hS => ?_)
            refine va_put (ci := 0) (v := .int u29) (ty := .int) (C := RX0) (T := TX0) (N := 8) hx hb hts (by decide +kernel) tyX0 tyX0_ok nmX0 hown hK hP (ww_D hj) hS 40 cc_ext rfl 6 (by decide) (hts (.fieldLink RX0 30 "NumberFieldFactors$Extension" "mateOfT" "I") (by decide +kernel)) (fun _ h9 => h9) rfl (by decide +kernel) rfl rfl (Nat.le_of_ble_eq_true rfl) dX0_become_125 (fun H locs hP hD hS => ?_)
            have hP := cs_E6 hP
            refine lv_aload_n hx hb dX0_become_128 rfl (lv_at hl 2 rfl) ?_
            refine lv_aload_n hx hb dX0_become_129 rfl (lv_at hl 2 rfl) ?_
            refine lv_aload_n hx hb dX0_become_130 rfl (lv_at hl 2 rfl) ?_
            refine va_get (ci := 0) (v := .int ((va_up (va_up (va_up (va_up (va_up (va_up (va_up E 0 p0) 1 101) 2 p1) 3 0) 4 0) 5 (jrem (101 - p1) 101)) 6 u29) 6)) (C := RX0) (T := TX0) (N := 8) hx hb hts (by decide +kernel) hown hK hP 40 cc_ext rfl 6 (by decide) (hts (.fieldLink RX0 30 "NumberFieldFactors$Extension" "mateOfT" "I") (by decide +kernel)) (fun _ h9 => h9) rfl dX0_become_131 ?_
            refine lv_aload_n hx hb dX0_become_134 rfl (lv_at hl 2 rfl) ?_
            refine va_get (ci := 0) (v := .int ((va_up (va_up (va_up (va_up (va_up (va_up (va_up E 0 p0) 1 101) 2 p1) 3 0) 4 0) 5 (jrem (101 - p1) 101)) 6 u29) 6)) (C := RX0) (T := TX0) (N := 8) hx hb hts (by decide +kernel) hown hK hP 40 cc_ext rfl 6 (by decide) (hts (.fieldLink RX0 30 "NumberFieldFactors$Extension" "mateOfT" "I") (by decide +kernel)) (fun _ h9 => h9) rfl dX0_become_135 ?_
            obtain ⟨u31, g32, hf⟩ := Option.bind_eq_some_iff.mp hf
            try dsimp only at hf
            refine ct_call (va_runV (As := [.int ((va_up (va_up (va_up (va_up (va_up (va_up (va_up E 0 p0) 1 101) 2 p1) 3 0) 4 0) 5 (jrem (101 - p1) 101)) 6 u29) 6), .int ((va_up (va_up (va_up (va_up (va_up (va_up (va_up E 0 p0) 1 101) 2 p1) 3 0) 4 0) 5 (jrem (101 - p1) 101)) 6 u29) 6)]) (rest := [.ref (ad 40)]) ⟨hx, hb, hml, hown, hts⟩ (C_X0_times l D tys nw hn hnw hj htI htR (res := u31) g32) (cwV 2 hts gX0_become_X0_times rfl rfl rfl (by decide +kernel) ⟨Nat.le_of_ble_eq_true rfl, Nat.le_of_ble_eq_true rfl⟩) (ct_preV hn hP hK hN (ci := 0) (k := 40) rfl (by decide) rfl) rfl rfl hl.1 rfl (lv_room (Nat.le_of_ble_eq_true rfl)) dX0_become_138 ⟨Nat.zero_le _, Nat.zero_le _⟩) hS (fun H locs hP hS => ?_)
            refine va_put (ci := 0) (v := .int u31) (ty := .int) (C := RX0) (T := TX0) (N := 8) hx hb hts (by decide +kernel) tyX0 tyX0_ok nmX0 hown hK hP (ww_D hj) hS 40 cc_ext rfl 7 (by decide) (hts (.fieldLink RX0 33 "NumberFieldFactors$Extension" "mateOfTSquared" "I") (by decide +kernel)) (fun _ h9 => h9) rfl (by decide +kernel) rfl rfl (Nat.le_of_ble_eq_true rfl) dX0_become_141 (fun H locs hP hD hS => ?_)
            have hP := cs_E7 hP
            refine lv_iconst (v := 1) hx hb dX0_become_144 (by decide) ?_
            obtain rfl := Option.some.inj hf
            exact W.zret (v := 1) (ty := .boolean) hx hb hr (by decide) (fun t ht hW => ⟨rfl, by rw [ht]; exact hP, hS.F ht⟩) hS.2.2 dX0_become_145
      · rw [if_neg c3] at hf
        refine lv_iload_n hx hb dX0_become_30 rfl (lv_at hl 3 rfl) ?_
        refine lv_iload_n hx hb dX0_become_31 rfl (lv_at hl 4 rfl) ?_
        refine lv_iload hx hb dX0_become_32 (lv_at hl 1 rfl) ?_
        refine lv_iload hx hb dX0_become_34 (lv_at hl 0 rfl) ?_
        obtain ⟨u33, g34, hf⟩ := Option.bind_eq_some_iff.mp hf
        try dsimp only at hf
        refine ct_call (va_runS (As := [.int p0, .int p1, .int 0, .int 0]) (rest := []) ⟨hx, hb, hml, hown, hts⟩ (C_X0_hasRoot l D tys nw hn hnw hj htI htR (res := u33) g34) (cwS 4 hts gX0_become_X0_hasRoot rfl rfl rfl (by decide +kernel) ⟨Nat.le_of_ble_eq_true rfl, Nat.le_of_ble_eq_true rfl⟩) (ct_preS hn hP hK hN) rfl rfl hl.1 rfl (lv_room (Nat.le_of_ble_eq_true rfl)) dX0_become_36 ⟨Nat.zero_le _, Nat.zero_le _⟩) hS (fun H locs hP hS => ?_)
        refine lv_if_eq (tgt := 44) hx hb dX0_become_39 (by decide) (fun c35 => ?_) (fun c35 => ?_)
        · rw [if_pos c35] at hf
          refine lv_aload_n hx hb dX0_become_44 rfl (lv_at hl 2 rfl) ?_
          refine lv_iload_n hx hb dX0_become_45 rfl (lv_at hl 3 rfl) ?_
          refine va_put (ci := 0) (v := .int p0) (ty := .int) (C := RX0) (T := TX0) (N := 8) hx hb hts (by decide +kernel) tyX0 tyX0_ok nmX0 hown hK hP (ww_D hj) hS 40 cc_ext rfl 0 (by decide) (hts (.fieldLink RX0 9 "NumberFieldFactors$Extension" "degree" "I") (by decide +kernel)) (fun _ h9 => h9) rfl (by decide +kernel) rfl rfl (Nat.le_of_ble_eq_true rfl) dX0_become_46 (fun H locs hP hD hS => ?_)
          have hP := cs_E0 hP
          refine lv_aload_n hx hb dX0_become_49 rfl (lv_at hl 2 rfl) ?_
          refine lv_iload_n hx hb dX0_become_50 rfl (lv_at hl 3 rfl) ?_
          refine lv_iconst (v := 1) hx hb dX0_become_51 (by decide) ?_
          refine lv_icmp_ne (tgt := 60) hx hb dX0_become_52 (by decide) (fun c36 => ?_) (fun c36 => ?_)
          · rw [if_neg c36] at hf
            refine lv_iload_n hx hb dX0_become_60 rfl (lv_at hl 3 rfl) ?_
            refine lv_iconst (v := 2) hx hb dX0_become_61 (by decide) ?_
            refine lv_icmp_ne (tgt := 71) hx hb dX0_become_62 (by decide) (fun c37 => ?_) (fun c37 => ?_)
            · rw [if_neg c37] at hf
              refine lv_ldc (v := 1030301) hx hb hown (hts (.constant RX0 40 (1030301)) (by decide +kernel)) dX0_become_71 ?_
              refine va_put (ci := 0) (v := .int 1030301) (ty := .int) (C := RX0) (T := TX0) (N := 8) hx hb hts (by decide +kernel) tyX0 tyX0_ok nmX0 hown hK hP (ww_D hj) hS 40 cc_ext rfl 1 (by decide) (hts (.fieldLink RX0 15 "NumberFieldFactors$Extension" "size" "I") (by decide +kernel)) (fun _ h9 => h9) rfl (by decide +kernel) rfl rfl (Nat.le_of_ble_eq_true rfl) dX0_become_73 (fun H locs hP hD hS => ?_)
              have hP := cs_E1 hP
              refine lv_aload_n hx hb dX0_become_76 rfl (lv_at hl 2 rfl) ?_
              refine lv_iload_n hx hb dX0_become_77 rfl (lv_at hl 4 rfl) ?_
              refine va_put (ci := 0) (v := .int p1) (ty := .int) (C := RX0) (T := TX0) (N := 8) hx hb hts (by decide +kernel) tyX0 tyX0_ok nmX0 hown hK hP (ww_D hj) hS 40 cc_ext rfl 2 (by decide) (hts (.fieldLink RX0 18 "NumberFieldFactors$Extension" "low0" "I") (by decide +kernel)) (fun _ h9 => h9) rfl (by decide +kernel) rfl rfl (Nat.le_of_ble_eq_true rfl) dX0_become_78 (fun H locs hP hD hS => ?_)
              have hP := cs_E2 hP
              refine lv_aload_n hx hb dX0_become_81 rfl (lv_at hl 2 rfl) ?_
              refine lv_iload hx hb dX0_become_82 (lv_at hl 1 rfl) ?_
              refine va_put (ci := 0) (v := .int 0) (ty := .int) (C := RX0) (T := TX0) (N := 8) hx hb hts (by decide +kernel) tyX0 tyX0_ok nmX0 hown hK hP (ww_D hj) hS 40 cc_ext rfl 3 (by decide) (hts (.fieldLink RX0 21 "NumberFieldFactors$Extension" "low1" "I") (by decide +kernel)) (fun _ h9 => h9) rfl (by decide +kernel) rfl rfl (Nat.le_of_ble_eq_true rfl) dX0_become_84 (fun H locs hP hD hS => ?_)
              have hP := cs_E3 hP
              refine lv_aload_n hx hb dX0_become_87 rfl (lv_at hl 2 rfl) ?_
              refine lv_iload hx hb dX0_become_88 (lv_at hl 0 rfl) ?_
              refine va_put (ci := 0) (v := .int 0) (ty := .int) (C := RX0) (T := TX0) (N := 8) hx hb hts (by decide +kernel) tyX0 tyX0_ok nmX0 hown hK hP (ww_D hj) hS 40 cc_ext rfl 4 (by decide) (hts (.fieldLink RX0 24 "NumberFieldFactors$Extension" "low2" "I") (by decide +kernel)) (fun _ h9 => h9) rfl (by decide +kernel) rfl rfl (Nat.le_of_ble_eq_true rfl) dX0_become_90 (fun H locs hP hD hS => ?_)
              have hP := cs_E4 hP
              refine lv_aload_n hx hb dX0_become_93 rfl (lv_at hl 2 rfl) ?_
              refine lv_iload_n hx hb dX0_become_94 rfl (lv_at hl 3 rfl) ?_
              refine lv_iconst (v := 1) hx hb dX0_become_95 (by decide) ?_
              refine lv_icmp_ne (tgt := 109) hx hb dX0_become_96 (by decide) (fun c38 => ?_) (fun c38 => ?_)
              · rw [if_neg c38] at hf
                refine lv_bipush (v := 101) hx hb dX0_become_109 (by decide) ?_
                refine va_put (ci := 0) (v := .int 101) (ty := .int) (C := RX0) (T := TX0) (N := 8) hx hb hts (by decide +kernel) tyX0 tyX0_ok nmX0 hown hK hP (ww_D hj) hS 40 cc_ext rfl 5 (by decide) (hts (.fieldLink RX0 27 "NumberFieldFactors$Extension" "t" "I") (by decide +kernel)) (fun _ h9 => h9) rfl (by decide +kernel) rfl rfl (Nat.le_of_ble_eq_true rfl) dX0_become_111 (fun H locs hP hD hS => ?_)
                have hP := cs_E5 hP
                refine lv_aload_n hx hb dX0_become_114 rfl (lv_at hl 2 rfl) ?_
                refine lv_aload_n hx hb dX0_become_115 rfl (lv_at hl 2 rfl) ?_
                refine lv_aload_n hx hb dX0_become_116 rfl (lv_at hl 2 rfl) ?_
                refine va_get (ci := 0) (v := .int ((va_up (va_up (va_up (va_up (va_up (va_up E 0 p0) 1 1030301) 2 p1) 3 0) 4 0) 5 101) 5)) (C := RX0) (T := TX0) (N := 8) hx hb hts (by decide +kernel) hown hK hP 40 cc_ext rfl 5 (by decide) (hts (.fieldLink RX0 27 "NumberFieldFactors$Extension" "t" "I") (by decide +kernel)) (fun _ h9 => h9) rfl dX0_become_117 ?_
                refine lv_bipush (v := 101) hx hb dX0_become_120 (by decide) ?_
                obtain ⟨u39, g40, hf⟩ := Option.bind_eq_some_iff.mp hf
                try dsimp only at hf
                refine ct_call (va_runV (As := [.int ((va_up (va_up (va_up (va_up (va_up (va_up E 0 p0) 1 1030301) 2 p1) 3 0) 4 0) 5 101) 5), .int 101]) (rest := [.ref (ad 40)]) ⟨hx, hb, hml, hown, hts⟩ (C_X0_power l D tys nw hn hnw hj htI htR (res := u39) g40) (cwV 2 hts gX0_become_X0_power rfl rfl rfl (by decide +kernel) ⟨Nat.le_of_ble_eq_true rfl, Nat.le_of_ble_eq_true rfl⟩) (ct_preV hn hP hK hN (ci := 0) (k := 40) rfl (by decide) rfl) rfl rfl hl.1 rfl (lv_room (Nat.le_of_ble_eq_true rfl)) dX0_become_122 ⟨Nat.zero_le _, Nat.zero_le _⟩) hS (fun H locs hP hS => ?_)
                refine va_put (ci := 0) (v := .int u39) (ty := .int) (C := RX0) (T := TX0) (N := 8) hx hb hts (by decide +kernel) tyX0 tyX0_ok nmX0 hown hK hP (ww_D hj) hS 40 cc_ext rfl 6 (by decide) (hts (.fieldLink RX0 30 "NumberFieldFactors$Extension" "mateOfT" "I") (by decide +kernel)) (fun _ h9 => h9) rfl (by decide +kernel) rfl rfl (Nat.le_of_ble_eq_true rfl) dX0_become_125 (fun H locs hP hD hS => ?_)
                have hP := cs_E6 hP
                refine lv_aload_n hx hb dX0_become_128 rfl (lv_at hl 2 rfl) ?_
                refine lv_aload_n hx hb dX0_become_129 rfl (lv_at hl 2 rfl) ?_
                refine lv_aload_n hx hb dX0_become_130 rfl (lv_at hl 2 rfl) ?_
                refine va_get (ci := 0) (v := .int ((va_up (va_up (va_up (va_up (va_up (va_up (va_up E 0 p0) 1 1030301) 2 p1) 3 0) 4 0) 5 101) 6 u39) 6)) (C := RX0) (T := TX0) (N := 8) hx hb hts (by decide +kernel) hown hK hP 40 cc_ext rfl 6 (by decide) (hts (.fieldLink RX0 30 "NumberFieldFactors$Extension" "mateOfT" "I") (by decide +kernel)) (fun _ h9 => h9) rfl dX0_become_131 ?_
                refine lv_aload_n hx hb dX0_become_134 rfl (lv_at hl 2 rfl) ?_
                refine va_get (ci := 0) (v := .int ((va_up (va_up (va_up (va_up (va_up (va_up (va_up E 0 p0) 1 1030301) 2 p1) 3 0) 4 0) 5 101) 6 u39) 6)) (C := RX0) (T := TX0) (N := 8) hx hb hts (by decide +kernel) hown hK hP 40 cc_ext rfl 6 (by decide) (hts (.fieldLink RX0 30 "NumberFieldFactors$Extension" "mateOfT" "I") (by decide +kernel)) (fun _ h9 => h9) rfl dX0_become_135 ?_
                obtain ⟨u41, g42, hf⟩ := Option.bind_eq_some_iff.mp hf
                try dsimp only at hf
                refine ct_call (va_runV (As := [.int ((va_up (va_up (va_up (va_up (va_up (va_up (va_up E 0 p0) 1 1030301) 2 p1) 3 0) 4 0) 5 101) 6 u39) 6), .int ((va_up (va_up (va_up (va_up (va_up (va_up (va_up E 0 p0) 1 1030301) 2 p1) 3 0) 4 0) 5 101) 6 u39) 6)]) (rest := [.ref (ad 40)]) ⟨hx, hb, hml, hown, hts⟩ (C_X0_times l D tys nw hn hnw hj htI htR (res := u41) g42) (cwV 2 hts gX0_become_X0_times rfl rfl rfl (by decide +kernel) ⟨Nat.le_of_ble_eq_true rfl, Nat.le_of_ble_eq_true rfl⟩) (ct_preV hn hP hK hN (ci := 0) (k := 40) rfl (by decide) rfl) rfl rfl hl.1 rfl (lv_room (Nat.le_of_ble_eq_true rfl)) dX0_become_138 ⟨Nat.zero_le _, Nat.zero_le _⟩) hS (fun H locs hP hS => ?_)
                refine va_put (ci := 0) (v := .int u41) (ty := .int) (C := RX0) (T := TX0) (N := 8) hx hb hts (by decide +kernel) tyX0 tyX0_ok nmX0 hown hK hP (ww_D hj) hS 40 cc_ext rfl 7 (by decide) (hts (.fieldLink RX0 33 "NumberFieldFactors$Extension" "mateOfTSquared" "I") (by decide +kernel)) (fun _ h9 => h9) rfl (by decide +kernel) rfl rfl (Nat.le_of_ble_eq_true rfl) dX0_become_141 (fun H locs hP hD hS => ?_)
                have hP := cs_E7 hP
                refine lv_iconst (v := 1) hx hb dX0_become_144 (by decide) ?_
                obtain rfl := Option.some.inj hf
                exact W.zret (v := 1) (ty := .boolean) hx hb hr (by decide) (fun t ht hW => ⟨rfl, by rw [ht]; exact hP, hS.F ht⟩) hS.2.2 dX0_become_145
              · rw [if_pos c38] at hf
                refine lv_bipush (v := 101) hx hb dX0_become_99 (by decide) ?_
                refine lv_iload_n hx hb dX0_become_101 rfl (lv_at hl 4 rfl) ?_
                refine lv_isub hx hb dX0_become_102 ?_
                refine lv_bipush (v := 101) hx hb dX0_become_103 (by decide) ?_
                refine jv_irem hx hb dX0_become_105 (by decide) ?_
                refine lv_goto (tgt := 111) hx hb dX0_become_106 (by decide) ?_
                refine va_put (ci := 0) (v := .int (jrem (101 - p1) 101)) (ty := .int) (C := RX0) (T := TX0) (N := 8) hx hb hts (by decide +kernel) tyX0 tyX0_ok nmX0 hown hK hP (ww_D hj) hS 40 cc_ext rfl 5 (by decide) (hts (.fieldLink RX0 27 "NumberFieldFactors$Extension" "t" "I") (by decide +kernel)) (fun _ h9 => h9) rfl (by decide +kernel) rfl rfl (Nat.le_of_ble_eq_true rfl) dX0_become_111 (fun H locs hP hD hS => ?_)
                have hP := cs_E5 hP
                refine lv_aload_n hx hb dX0_become_114 rfl (lv_at hl 2 rfl) ?_
                refine lv_aload_n hx hb dX0_become_115 rfl (lv_at hl 2 rfl) ?_
                refine lv_aload_n hx hb dX0_become_116 rfl (lv_at hl 2 rfl) ?_
                refine va_get (ci := 0) (v := .int ((va_up (va_up (va_up (va_up (va_up (va_up E 0 p0) 1 1030301) 2 p1) 3 0) 4 0) 5 (jrem (101 - p1) 101)) 5)) (C := RX0) (T := TX0) (N := 8) hx hb hts (by decide +kernel) hown hK hP 40 cc_ext rfl 5 (by decide) (hts (.fieldLink RX0 27 "NumberFieldFactors$Extension" "t" "I") (by decide +kernel)) (fun _ h9 => h9) rfl dX0_become_117 ?_
                refine lv_bipush (v := 101) hx hb dX0_become_120 (by decide) ?_
                obtain ⟨u43, g44, hf⟩ := Option.bind_eq_some_iff.mp hf
                try dsimp only at hf
                refine ct_call (va_runV (As := [.int ((va_up (va_up (va_up (va_up (va_up (va_up E 0 p0) 1 1030301) 2 p1) 3 0) 4 0) 5 (jrem (101 - p1) 101)) 5), .int 101]) (rest := [.ref (ad 40)]) ⟨hx, hb, hml, hown, hts⟩ (C_X0_power l D tys nw hn hnw hj htI htR (res := u43) g44) (cwV 2 hts gX0_become_X0_power rfl rfl rfl (by decide +kernel) ⟨Nat.le_of_ble_eq_true rfl, Nat.le_of_ble_eq_true rfl⟩) (ct_preV hn hP hK hN (ci := 0) (k := 40) rfl (by decide) rfl) rfl rfl hl.1 rfl (lv_room (Nat.le_of_ble_eq_true rfl)) dX0_become_122 ⟨Nat.zero_le _, Nat.zero_le _⟩) hS (fun H locs hP hS => ?_)
                refine va_put (ci := 0) (v := .int u43) (ty := .int) (C := RX0) (T := TX0) (N := 8) hx hb hts (by decide +kernel) tyX0 tyX0_ok nmX0 hown hK hP (ww_D hj) hS 40 cc_ext rfl 6 (by decide) (hts (.fieldLink RX0 30 "NumberFieldFactors$Extension" "mateOfT" "I") (by decide +kernel)) (fun _ h9 => h9) rfl (by decide +kernel) rfl rfl (Nat.le_of_ble_eq_true rfl) dX0_become_125 (fun H locs hP hD hS => ?_)
                have hP := cs_E6 hP
                refine lv_aload_n hx hb dX0_become_128 rfl (lv_at hl 2 rfl) ?_
                refine lv_aload_n hx hb dX0_become_129 rfl (lv_at hl 2 rfl) ?_
                refine lv_aload_n hx hb dX0_become_130 rfl (lv_at hl 2 rfl) ?_
                refine va_get (ci := 0) (v := .int ((va_up (va_up (va_up (va_up (va_up (va_up (va_up E 0 p0) 1 1030301) 2 p1) 3 0) 4 0) 5 (jrem (101 - p1) 101)) 6 u43) 6)) (C := RX0) (T := TX0) (N := 8) hx hb hts (by decide +kernel) hown hK hP 40 cc_ext rfl 6 (by decide) (hts (.fieldLink RX0 30 "NumberFieldFactors$Extension" "mateOfT" "I") (by decide +kernel)) (fun _ h9 => h9) rfl dX0_become_131 ?_
                refine lv_aload_n hx hb dX0_become_134 rfl (lv_at hl 2 rfl) ?_
                refine va_get (ci := 0) (v := .int ((va_up (va_up (va_up (va_up (va_up (va_up (va_up E 0 p0) 1 1030301) 2 p1) 3 0) 4 0) 5 (jrem (101 - p1) 101)) 6 u43) 6)) (C := RX0) (T := TX0) (N := 8) hx hb hts (by decide +kernel) hown hK hP 40 cc_ext rfl 6 (by decide) (hts (.fieldLink RX0 30 "NumberFieldFactors$Extension" "mateOfT" "I") (by decide +kernel)) (fun _ h9 => h9) rfl dX0_become_135 ?_
                obtain ⟨u45, g46, hf⟩ := Option.bind_eq_some_iff.mp hf
                try dsimp only at hf
                refine ct_call (va_runV (As := [.int ((va_up (va_up (va_up (va_up (va_up (va_up (va_up E 0 p0) 1 1030301) 2 p1) 3 0) 4 0) 5 (jrem (101 - p1) 101)) 6 u43) 6), .int ((va_up (va_up (va_up (va_up (va_up (va_up (va_up E 0 p0) 1 1030301) 2 p1) 3 0) 4 0) 5 (jrem (101 - p1) 101)) 6 u43) 6)]) (rest := [.ref (ad 40)]) ⟨hx, hb, hml, hown, hts⟩ (C_X0_times l D tys nw hn hnw hj htI htR (res := u45) g46) (cwV 2 hts gX0_become_X0_times rfl rfl rfl (by decide +kernel) ⟨Nat.le_of_ble_eq_true rfl, Nat.le_of_ble_eq_true rfl⟩) (ct_preV hn hP hK hN (ci := 0) (k := 40) rfl (by decide) rfl) rfl rfl hl.1 rfl (lv_room (Nat.le_of_ble_eq_true rfl)) dX0_become_138 ⟨Nat.zero_le _, Nat.zero_le _⟩) hS (fun H locs hP hS => ?_)
                refine va_put (ci := 0) (v := .int u45) (ty := .int) (C := RX0) (T := TX0) (N := 8) hx hb hts (by decide +kernel) tyX0 tyX0_ok nmX0 hown hK hP (ww_D hj) hS 40 cc_ext rfl 7 (by decide) (hts (.fieldLink RX0 33 "NumberFieldFactors$Extension" "mateOfTSquared" "I") (by decide +kernel)) (fun _ h9 => h9) rfl (by decide +kernel) rfl rfl (Nat.le_of_ble_eq_true rfl) dX0_become_141 (fun H locs hP hD hS => ?_)
                have hP := cs_E7 hP
                refine lv_iconst (v := 1) hx hb dX0_become_144 (by decide) ?_
                obtain rfl := Option.some.inj hf
                exact W.zret (v := 1) (ty := .boolean) hx hb hr (by decide) (fun t ht hW => ⟨rfl, by rw [ht]; exact hP, hS.F ht⟩) hS.2.2 dX0_become_145
            · rw [if_pos c37] at hf
              refine lv_sipush (v := 10201) hx hb dX0_become_65 (by decide) ?_
              refine lv_goto (tgt := 73) hx hb dX0_become_68 (by decide) ?_
              refine va_put (ci := 0) (v := .int 10201) (ty := .int) (C := RX0) (T := TX0) (N := 8) hx hb hts (by decide +kernel) tyX0 tyX0_ok nmX0 hown hK hP (ww_D hj) hS 40 cc_ext rfl 1 (by decide) (hts (.fieldLink RX0 15 "NumberFieldFactors$Extension" "size" "I") (by decide +kernel)) (fun _ h9 => h9) rfl (by decide +kernel) rfl rfl (Nat.le_of_ble_eq_true rfl) dX0_become_73 (fun H locs hP hD hS => ?_)
              have hP := cs_E1 hP
              refine lv_aload_n hx hb dX0_become_76 rfl (lv_at hl 2 rfl) ?_
              refine lv_iload_n hx hb dX0_become_77 rfl (lv_at hl 4 rfl) ?_
              refine va_put (ci := 0) (v := .int p1) (ty := .int) (C := RX0) (T := TX0) (N := 8) hx hb hts (by decide +kernel) tyX0 tyX0_ok nmX0 hown hK hP (ww_D hj) hS 40 cc_ext rfl 2 (by decide) (hts (.fieldLink RX0 18 "NumberFieldFactors$Extension" "low0" "I") (by decide +kernel)) (fun _ h9 => h9) rfl (by decide +kernel) rfl rfl (Nat.le_of_ble_eq_true rfl) dX0_become_78 (fun H locs hP hD hS => ?_)
              have hP := cs_E2 hP
              refine lv_aload_n hx hb dX0_become_81 rfl (lv_at hl 2 rfl) ?_
              refine lv_iload hx hb dX0_become_82 (lv_at hl 1 rfl) ?_
              refine va_put (ci := 0) (v := .int 0) (ty := .int) (C := RX0) (T := TX0) (N := 8) hx hb hts (by decide +kernel) tyX0 tyX0_ok nmX0 hown hK hP (ww_D hj) hS 40 cc_ext rfl 3 (by decide) (hts (.fieldLink RX0 21 "NumberFieldFactors$Extension" "low1" "I") (by decide +kernel)) (fun _ h9 => h9) rfl (by decide +kernel) rfl rfl (Nat.le_of_ble_eq_true rfl) dX0_become_84 (fun H locs hP hD hS => ?_)
              have hP := cs_E3 hP
              refine lv_aload_n hx hb dX0_become_87 rfl (lv_at hl 2 rfl) ?_
              refine lv_iload hx hb dX0_become_88 (lv_at hl 0 rfl) ?_
              refine va_put (ci := 0) (v := .int 0) (ty := .int) (C := RX0) (T := TX0) (N := 8) hx hb hts (by decide +kernel) tyX0 tyX0_ok nmX0 hown hK hP (ww_D hj) hS 40 cc_ext rfl 4 (by decide) (hts (.fieldLink RX0 24 "NumberFieldFactors$Extension" "low2" "I") (by decide +kernel)) (fun _ h9 => h9) rfl (by decide +kernel) rfl rfl (Nat.le_of_ble_eq_true rfl) dX0_become_90 (fun H locs hP hD hS => ?_)
              have hP := cs_E4 hP
              refine lv_aload_n hx hb dX0_become_93 rfl (lv_at hl 2 rfl) ?_
              refine lv_iload_n hx hb dX0_become_94 rfl (lv_at hl 3 rfl) ?_
              refine lv_iconst (v := 1) hx hb dX0_become_95 (by decide) ?_
              refine lv_icmp_ne (tgt := 109) hx hb dX0_become_96 (by decide) (fun c47 => ?_) (fun c47 => ?_)
              · rw [if_neg c47] at hf
                refine lv_bipush (v := 101) hx hb dX0_become_109 (by decide) ?_
                refine va_put (ci := 0) (v := .int 101) (ty := .int) (C := RX0) (T := TX0) (N := 8) hx hb hts (by decide +kernel) tyX0 tyX0_ok nmX0 hown hK hP (ww_D hj) hS 40 cc_ext rfl 5 (by decide) (hts (.fieldLink RX0 27 "NumberFieldFactors$Extension" "t" "I") (by decide +kernel)) (fun _ h9 => h9) rfl (by decide +kernel) rfl rfl (Nat.le_of_ble_eq_true rfl) dX0_become_111 (fun H locs hP hD hS => ?_)
                have hP := cs_E5 hP
                refine lv_aload_n hx hb dX0_become_114 rfl (lv_at hl 2 rfl) ?_
                refine lv_aload_n hx hb dX0_become_115 rfl (lv_at hl 2 rfl) ?_
                refine lv_aload_n hx hb dX0_become_116 rfl (lv_at hl 2 rfl) ?_
                refine va_get (ci := 0) (v := .int ((va_up (va_up (va_up (va_up (va_up (va_up E 0 p0) 1 10201) 2 p1) 3 0) 4 0) 5 101) 5)) (C := RX0) (T := TX0) (N := 8) hx hb hts (by decide +kernel) hown hK hP 40 cc_ext rfl 5 (by decide) (hts (.fieldLink RX0 27 "NumberFieldFactors$Extension" "t" "I") (by decide +kernel)) (fun _ h9 => h9) rfl dX0_become_117 ?_
                refine lv_bipush (v := 101) hx hb dX0_become_120 (by decide) ?_
                obtain ⟨u48, g49, hf⟩ := Option.bind_eq_some_iff.mp hf
                try dsimp only at hf
                refine ct_call (va_runV (As := [.int ((va_up (va_up (va_up (va_up (va_up (va_up E 0 p0) 1 10201) 2 p1) 3 0) 4 0) 5 101) 5), .int 101]) (rest := [.ref (ad 40)]) ⟨hx, hb, hml, hown, hts⟩ (C_X0_power l D tys nw hn hnw hj htI htR (res := u48) g49) (cwV 2 hts gX0_become_X0_power rfl rfl rfl (by decide +kernel) ⟨Nat.le_of_ble_eq_true rfl, Nat.le_of_ble_eq_true rfl⟩) (ct_preV hn hP hK hN (ci := 0) (k := 40) rfl (by decide) rfl) rfl rfl hl.1 rfl (lv_room (Nat.le_of_ble_eq_true rfl)) dX0_become_122 ⟨Nat.zero_le _, Nat.zero_le _⟩) hS (fun H locs hP hS => ?_)
                refine va_put (ci := 0) (v := .int u48) (ty := .int) (C := RX0) (T := TX0) (N := 8) hx hb hts (by decide +kernel) tyX0 tyX0_ok nmX0 hown hK hP (ww_D hj) hS 40 cc_ext rfl 6 (by decide) (hts (.fieldLink RX0 30 "NumberFieldFactors$Extension" "mateOfT" "I") (by decide +kernel)) (fun _ h9 => h9) rfl (by decide +kernel) rfl rfl (Nat.le_of_ble_eq_true rfl) dX0_become_125 (fun H locs hP hD hS => ?_)
                have hP := cs_E6 hP
                refine lv_aload_n hx hb dX0_become_128 rfl (lv_at hl 2 rfl) ?_
                refine lv_aload_n hx hb dX0_become_129 rfl (lv_at hl 2 rfl) ?_
                refine lv_aload_n hx hb dX0_become_130 rfl (lv_at hl 2 rfl) ?_
                refine va_get (ci := 0) (v := .int ((va_up (va_up (va_up (va_up (va_up (va_up (va_up E 0 p0) 1 10201) 2 p1) 3 0) 4 0) 5 101) 6 u48) 6)) (C := RX0) (T := TX0) (N := 8) hx hb hts (by decide +kernel) hown hK hP 40 cc_ext rfl 6 (by decide) (hts (.fieldLink RX0 30 "NumberFieldFactors$Extension" "mateOfT" "I") (by decide +kernel)) (fun _ h9 => h9) rfl dX0_become_131 ?_
                refine lv_aload_n hx hb dX0_become_134 rfl (lv_at hl 2 rfl) ?_
                refine va_get (ci := 0) (v := .int ((va_up (va_up (va_up (va_up (va_up (va_up (va_up E 0 p0) 1 10201) 2 p1) 3 0) 4 0) 5 101) 6 u48) 6)) (C := RX0) (T := TX0) (N := 8) hx hb hts (by decide +kernel) hown hK hP 40 cc_ext rfl 6 (by decide) (hts (.fieldLink RX0 30 "NumberFieldFactors$Extension" "mateOfT" "I") (by decide +kernel)) (fun _ h9 => h9) rfl dX0_become_135 ?_
                obtain ⟨u50, g51, hf⟩ := Option.bind_eq_some_iff.mp hf
                try dsimp only at hf
                refine ct_call (va_runV (As := [.int ((va_up (va_up (va_up (va_up (va_up (va_up (va_up E 0 p0) 1 10201) 2 p1) 3 0) 4 0) 5 101) 6 u48) 6), .int ((va_up (va_up (va_up (va_up (va_up (va_up (va_up E 0 p0) 1 10201) 2 p1) 3 0) 4 0) 5 101) 6 u48) 6)]) (rest := [.ref (ad 40)]) ⟨hx, hb, hml, hown, hts⟩ (C_X0_times l D tys nw hn hnw hj htI htR (res := u50) g51) (cwV 2 hts gX0_become_X0_times rfl rfl rfl (by decide +kernel) ⟨Nat.le_of_ble_eq_true rfl, Nat.le_of_ble_eq_true rfl⟩) (ct_preV hn hP hK hN (ci := 0) (k := 40) rfl (by decide) rfl) rfl rfl hl.1 rfl (lv_room (Nat.le_of_ble_eq_true rfl)) dX0_become_138 ⟨Nat.zero_le _, Nat.zero_le _⟩) hS (fun H locs hP hS => ?_)
                refine va_put (ci := 0) (v := .int u50) (ty := .int) (C := RX0) (T := TX0) (N := 8) hx hb hts (by decide +kernel) tyX0 tyX0_ok nmX0 hown hK hP (ww_D hj) hS 40 cc_ext rfl 7 (by decide) (hts (.fieldLink RX0 33 "NumberFieldFactors$Extension" "mateOfTSquared" "I") (by decide +kernel)) (fun _ h9 => h9) rfl (by decide +kernel) rfl rfl (Nat.le_of_ble_eq_true rfl) dX0_become_141 (fun H locs hP hD hS => ?_)
                have hP := cs_E7 hP
                refine lv_iconst (v := 1) hx hb dX0_become_144 (by decide) ?_
                obtain rfl := Option.some.inj hf
                exact W.zret (v := 1) (ty := .boolean) hx hb hr (by decide) (fun t ht hW => ⟨rfl, by rw [ht]; exact hP, hS.F ht⟩) hS.2.2 dX0_become_145
              · rw [if_pos c47] at hf
                refine lv_bipush (v := 101) hx hb dX0_become_99 (by decide) ?_
                refine lv_iload_n hx hb dX0_become_101 rfl (lv_at hl 4 rfl) ?_
                refine lv_isub hx hb dX0_become_102 ?_
                refine lv_bipush (v := 101) hx hb dX0_become_103 (by decide) ?_
                refine jv_irem hx hb dX0_become_105 (by decide) ?_
                refine lv_goto (tgt := 111) hx hb dX0_become_106 (by decide) ?_
                refine va_put (ci := 0) (v := .int (jrem (101 - p1) 101)) (ty := .int) (C := RX0) (T := TX0) (N := 8) hx hb hts (by decide +kernel) tyX0 tyX0_ok nmX0 hown hK hP (ww_D hj) hS 40 cc_ext rfl 5 (by decide) (hts (.fieldLink RX0 27 "NumberFieldFactors$Extension" "t" "I") (by decide +kernel)) (fun _ h9 => h9) rfl (by decide +kernel) rfl rfl (Nat.le_of_ble_eq_true rfl) dX0_become_111 (fun H locs hP hD hS => ?_)
                have hP := cs_E5 hP
                refine lv_aload_n hx hb dX0_become_114 rfl (lv_at hl 2 rfl) ?_
                refine lv_aload_n hx hb dX0_become_115 rfl (lv_at hl 2 rfl) ?_
                refine lv_aload_n hx hb dX0_become_116 rfl (lv_at hl 2 rfl) ?_
                refine va_get (ci := 0) (v := .int ((va_up (va_up (va_up (va_up (va_up (va_up E 0 p0) 1 10201) 2 p1) 3 0) 4 0) 5 (jrem (101 - p1) 101)) 5)) (C := RX0) (T := TX0) (N := 8) hx hb hts (by decide +kernel) hown hK hP 40 cc_ext rfl 5 (by decide) (hts (.fieldLink RX0 27 "NumberFieldFactors$Extension" "t" "I") (by decide +kernel)) (fun _ h9 => h9) rfl dX0_become_117 ?_
                refine lv_bipush (v := 101) hx hb dX0_become_120 (by decide) ?_
                obtain ⟨u52, g53, hf⟩ := Option.bind_eq_some_iff.mp hf
                try dsimp only at hf
                refine ct_call (va_runV (As := [.int ((va_up (va_up (va_up (va_up (va_up (va_up E 0 p0) 1 10201) 2 p1) 3 0) 4 0) 5 (jrem (101 - p1) 101)) 5), .int 101]) (rest := [.ref (ad 40)]) ⟨hx, hb, hml, hown, hts⟩ (C_X0_power l D tys nw hn hnw hj htI htR (res := u52) g53) (cwV 2 hts gX0_become_X0_power rfl rfl rfl (by decide +kernel) ⟨Nat.le_of_ble_eq_true rfl, Nat.le_of_ble_eq_true rfl⟩) (ct_preV hn hP hK hN (ci := 0) (k := 40) rfl (by decide) rfl) rfl rfl hl.1 rfl (lv_room (Nat.le_of_ble_eq_true rfl)) dX0_become_122 ⟨Nat.zero_le _, Nat.zero_le _⟩) hS (fun H locs hP hS => ?_)
                refine va_put (ci := 0) (v := .int u52) (ty := .int) (C := RX0) (T := TX0) (N := 8) hx hb hts (by decide +kernel) tyX0 tyX0_ok nmX0 hown hK hP (ww_D hj) hS 40 cc_ext rfl 6 (by decide) (hts (.fieldLink RX0 30 "NumberFieldFactors$Extension" "mateOfT" "I") (by decide +kernel)) (fun _ h9 => h9) rfl (by decide +kernel) rfl rfl (Nat.le_of_ble_eq_true rfl) dX0_become_125 (fun H locs hP hD hS => ?_)
                have hP := cs_E6 hP
                refine lv_aload_n hx hb dX0_become_128 rfl (lv_at hl 2 rfl) ?_
                refine lv_aload_n hx hb dX0_become_129 rfl (lv_at hl 2 rfl) ?_
                refine lv_aload_n hx hb dX0_become_130 rfl (lv_at hl 2 rfl) ?_
                refine va_get (ci := 0) (v := .int ((va_up (va_up (va_up (va_up (va_up (va_up (va_up E 0 p0) 1 10201) 2 p1) 3 0) 4 0) 5 (jrem (101 - p1) 101)) 6 u52) 6)) (C := RX0) (T := TX0) (N := 8) hx hb hts (by decide +kernel) hown hK hP 40 cc_ext rfl 6 (by decide) (hts (.fieldLink RX0 30 "NumberFieldFactors$Extension" "mateOfT" "I") (by decide +kernel)) (fun _ h9 => h9) rfl dX0_become_131 ?_
                refine lv_aload_n hx hb dX0_become_134 rfl (lv_at hl 2 rfl) ?_
                refine va_get (ci := 0) (v := .int ((va_up (va_up (va_up (va_up (va_up (va_up (va_up E 0 p0) 1 10201) 2 p1) 3 0) 4 0) 5 (jrem (101 - p1) 101)) 6 u52) 6)) (C := RX0) (T := TX0) (N := 8) hx hb hts (by decide +kernel) hown hK hP 40 cc_ext rfl 6 (by decide) (hts (.fieldLink RX0 30 "NumberFieldFactors$Extension" "mateOfT" "I") (by decide +kernel)) (fun _ h9 => h9) rfl dX0_become_135 ?_
                obtain ⟨u54, g55, hf⟩ := Option.bind_eq_some_iff.mp hf
                try dsimp only at hf
                refine ct_call (va_runV (As := [.int ((va_up (va_up (va_up (va_up (va_up (va_up (va_up E 0 p0) 1 10201) 2 p1) 3 0) 4 0) 5 (jrem (101 - p1) 101)) 6 u52) 6), .int ((va_up (va_up (va_up (va_up (va_up (va_up (va_up E 0 p0) 1 10201) 2 p1) 3 0) 4 0) 5 (jrem (101 - p1) 101)) 6 u52) 6)]) (rest := [.ref (ad 40)]) ⟨hx, hb, hml, hown, hts⟩ (C_X0_times l D tys nw hn hnw hj htI htR (res := u54) g55) (cwV 2 hts gX0_become_X0_times rfl rfl rfl (by decide +kernel) ⟨Nat.le_of_ble_eq_true rfl, Nat.le_of_ble_eq_true rfl⟩) (ct_preV hn hP hK hN (ci := 0) (k := 40) rfl (by decide) rfl) rfl rfl hl.1 rfl (lv_room (Nat.le_of_ble_eq_true rfl)) dX0_become_138 ⟨Nat.zero_le _, Nat.zero_le _⟩) hS (fun H locs hP hS => ?_)
                refine va_put (ci := 0) (v := .int u54) (ty := .int) (C := RX0) (T := TX0) (N := 8) hx hb hts (by decide +kernel) tyX0 tyX0_ok nmX0 hown hK hP (ww_D hj) hS 40 cc_ext rfl 7 (by decide) (hts (.fieldLink RX0 33 "NumberFieldFactors$Extension" "mateOfTSquared" "I") (by decide +kernel)) (fun _ h9 => h9) rfl (by decide +kernel) rfl rfl (Nat.le_of_ble_eq_true rfl) dX0_become_141 (fun H locs hP hD hS => ?_)
                have hP := cs_E7 hP
                refine lv_iconst (v := 1) hx hb dX0_become_144 (by decide) ?_
                obtain rfl := Option.some.inj hf
                exact W.zret (v := 1) (ty := .boolean) hx hb hr (by decide) (fun t ht hW => ⟨rfl, by rw [ht]; exact hP, hS.F ht⟩) hS.2.2 dX0_become_145
          · rw [if_pos c36] at hf
            refine lv_bipush (v := 101) hx hb dX0_become_55 (by decide) ?_
            refine lv_goto (tgt := 73) hx hb dX0_become_57 (by decide) ?_
            refine va_put (ci := 0) (v := .int 101) (ty := .int) (C := RX0) (T := TX0) (N := 8) hx hb hts (by decide +kernel) tyX0 tyX0_ok nmX0 hown hK hP (ww_D hj) hS 40 cc_ext rfl 1 (by decide) (hts (.fieldLink RX0 15 "NumberFieldFactors$Extension" "size" "I") (by decide +kernel)) (fun _ h9 => h9) rfl (by decide +kernel) rfl rfl (Nat.le_of_ble_eq_true rfl) dX0_become_73 (fun H locs hP hD hS => ?_)
            have hP := cs_E1 hP
            refine lv_aload_n hx hb dX0_become_76 rfl (lv_at hl 2 rfl) ?_
            refine lv_iload_n hx hb dX0_become_77 rfl (lv_at hl 4 rfl) ?_
            refine va_put (ci := 0) (v := .int p1) (ty := .int) (C := RX0) (T := TX0) (N := 8) hx hb hts (by decide +kernel) tyX0 tyX0_ok nmX0 hown hK hP (ww_D hj) hS 40 cc_ext rfl 2 (by decide) (hts (.fieldLink RX0 18 "NumberFieldFactors$Extension" "low0" "I") (by decide +kernel)) (fun _ h9 => h9) rfl (by decide +kernel) rfl rfl (Nat.le_of_ble_eq_true rfl) dX0_become_78 (fun H locs hP hD hS => ?_)
            have hP := cs_E2 hP
            refine lv_aload_n hx hb dX0_become_81 rfl (lv_at hl 2 rfl) ?_
            refine lv_iload hx hb dX0_become_82 (lv_at hl 1 rfl) ?_
            refine va_put (ci := 0) (v := .int 0) (ty := .int) (C := RX0) (T := TX0) (N := 8) hx hb hts (by decide +kernel) tyX0 tyX0_ok nmX0 hown hK hP (ww_D hj) hS 40 cc_ext rfl 3 (by decide) (hts (.fieldLink RX0 21 "NumberFieldFactors$Extension" "low1" "I") (by decide +kernel)) (fun _ h9 => h9) rfl (by decide +kernel) rfl rfl (Nat.le_of_ble_eq_true rfl) dX0_become_84 (fun H locs hP hD hS => ?_)
            have hP := cs_E3 hP
            refine lv_aload_n hx hb dX0_become_87 rfl (lv_at hl 2 rfl) ?_
            refine lv_iload hx hb dX0_become_88 (lv_at hl 0 rfl) ?_
            refine va_put (ci := 0) (v := .int 0) (ty := .int) (C := RX0) (T := TX0) (N := 8) hx hb hts (by decide +kernel) tyX0 tyX0_ok nmX0 hown hK hP (ww_D hj) hS 40 cc_ext rfl 4 (by decide) (hts (.fieldLink RX0 24 "NumberFieldFactors$Extension" "low2" "I") (by decide +kernel)) (fun _ h9 => h9) rfl (by decide +kernel) rfl rfl (Nat.le_of_ble_eq_true rfl) dX0_become_90 (fun H locs hP hD hS => ?_)
            have hP := cs_E4 hP
            refine lv_aload_n hx hb dX0_become_93 rfl (lv_at hl 2 rfl) ?_
            refine lv_iload_n hx hb dX0_become_94 rfl (lv_at hl 3 rfl) ?_
            refine lv_iconst (v := 1) hx hb dX0_become_95 (by decide) ?_
            refine lv_icmp_ne (tgt := 109) hx hb dX0_become_96 (by decide) (fun c56 => ?_) (fun c56 => ?_)
            · rw [if_neg c56] at hf
              refine lv_bipush (v := 101) hx hb dX0_become_109 (by decide) ?_
              refine va_put (ci := 0) (v := .int 101) (ty := .int) (C := RX0) (T := TX0) (N := 8) hx hb hts (by decide +kernel) tyX0 tyX0_ok nmX0 hown hK hP (ww_D hj) hS 40 cc_ext rfl 5 (by decide) (hts (.fieldLink RX0 27 "NumberFieldFactors$Extension" "t" "I") (by decide +kernel)) (fun _ h9 => h9) rfl (by decide +kernel) rfl rfl (Nat.le_of_ble_eq_true rfl) dX0_become_111 (fun H locs hP hD hS => ?_)
              have hP := cs_E5 hP
              refine lv_aload_n hx hb dX0_become_114 rfl (lv_at hl 2 rfl) ?_
              refine lv_aload_n hx hb dX0_become_115 rfl (lv_at hl 2 rfl) ?_
              refine lv_aload_n hx hb dX0_become_116 rfl (lv_at hl 2 rfl) ?_
              refine va_get (ci := 0) (v := .int ((va_up (va_up (va_up (va_up (va_up (va_up E 0 p0) 1 101) 2 p1) 3 0) 4 0) 5 101) 5)) (C := RX0) (T := TX0) (N := 8) hx hb hts (by decide +kernel) hown hK hP 40 cc_ext rfl 5 (by decide) (hts (.fieldLink RX0 27 "NumberFieldFactors$Extension" "t" "I") (by decide +kernel)) (fun _ h9 => h9) rfl dX0_become_117 ?_
              refine lv_bipush (v := 101) hx hb dX0_become_120 (by decide) ?_
              obtain ⟨u57, g58, hf⟩ := Option.bind_eq_some_iff.mp hf
              try dsimp only at hf
              refine ct_call (va_runV (As := [.int ((va_up (va_up (va_up (va_up (va_up (va_up E 0 p0) 1 101) 2 p1) 3 0) 4 0) 5 101) 5), .int 101]) (rest := [.ref (ad 40)]) ⟨hx, hb, hml, hown, hts⟩ (C_X0_power l D tys nw hn hnw hj htI htR (res := u57) g58) (cwV 2 hts gX0_become_X0_power rfl rfl rfl (by decide +kernel) ⟨Nat.le_of_ble_eq_true rfl, Nat.le_of_ble_eq_true rfl⟩) (ct_preV hn hP hK hN (ci := 0) (k := 40) rfl (by decide) rfl) rfl rfl hl.1 rfl (lv_room (Nat.le_of_ble_eq_true rfl)) dX0_become_122 ⟨Nat.zero_le _, Nat.zero_le _⟩) hS (fun H locs hP hS => ?_)
              refine va_put (ci := 0) (v := .int u57) (ty := .int) (C := RX0) (T := TX0) (N := 8) hx hb hts (by decide +kernel) tyX0 tyX0_ok nmX0 hown hK hP (ww_D hj) hS 40 cc_ext rfl 6 (by decide) (hts (.fieldLink RX0 30 "NumberFieldFactors$Extension" "mateOfT" "I") (by decide +kernel)) (fun _ h9 => h9) rfl (by decide +kernel) rfl rfl (Nat.le_of_ble_eq_true rfl) dX0_become_125 (fun H locs hP hD hS => ?_)
              have hP := cs_E6 hP
              refine lv_aload_n hx hb dX0_become_128 rfl (lv_at hl 2 rfl) ?_
              refine lv_aload_n hx hb dX0_become_129 rfl (lv_at hl 2 rfl) ?_
              refine lv_aload_n hx hb dX0_become_130 rfl (lv_at hl 2 rfl) ?_
              refine va_get (ci := 0) (v := .int ((va_up (va_up (va_up (va_up (va_up (va_up (va_up E 0 p0) 1 101) 2 p1) 3 0) 4 0) 5 101) 6 u57) 6)) (C := RX0) (T := TX0) (N := 8) hx hb hts (by decide +kernel) hown hK hP 40 cc_ext rfl 6 (by decide) (hts (.fieldLink RX0 30 "NumberFieldFactors$Extension" "mateOfT" "I") (by decide +kernel)) (fun _ h9 => h9) rfl dX0_become_131 ?_
              refine lv_aload_n hx hb dX0_become_134 rfl (lv_at hl 2 rfl) ?_
              refine va_get (ci := 0) (v := .int ((va_up (va_up (va_up (va_up (va_up (va_up (va_up E 0 p0) 1 101) 2 p1) 3 0) 4 0) 5 101) 6 u57) 6)) (C := RX0) (T := TX0) (N := 8) hx hb hts (by decide +kernel) hown hK hP 40 cc_ext rfl 6 (by decide) (hts (.fieldLink RX0 30 "NumberFieldFactors$Extension" "mateOfT" "I") (by decide +kernel)) (fun _ h9 => h9) rfl dX0_become_135 ?_
              obtain ⟨u59, g60, hf⟩ := Option.bind_eq_some_iff.mp hf
              try dsimp only at hf
              refine ct_call (va_runV (As := [.int ((va_up (va_up (va_up (va_up (va_up (va_up (va_up E 0 p0) 1 101) 2 p1) 3 0) 4 0) 5 101) 6 u57) 6), .int ((va_up (va_up (va_up (va_up (va_up (va_up (va_up E 0 p0) 1 101) 2 p1) 3 0) 4 0) 5 101) 6 u57) 6)]) (rest := [.ref (ad 40)]) ⟨hx, hb, hml, hown, hts⟩ (C_X0_times l D tys nw hn hnw hj htI htR (res := u59) g60) (cwV 2 hts gX0_become_X0_times rfl rfl rfl (by decide +kernel) ⟨Nat.le_of_ble_eq_true rfl, Nat.le_of_ble_eq_true rfl⟩) (ct_preV hn hP hK hN (ci := 0) (k := 40) rfl (by decide) rfl) rfl rfl hl.1 rfl (lv_room (Nat.le_of_ble_eq_true rfl)) dX0_become_138 ⟨Nat.zero_le _, Nat.zero_le _⟩) hS (fun H locs hP hS => ?_)
              refine va_put (ci := 0) (v := .int u59) (ty := .int) (C := RX0) (T := TX0) (N := 8) hx hb hts (by decide +kernel) tyX0 tyX0_ok nmX0 hown hK hP (ww_D hj) hS 40 cc_ext rfl 7 (by decide) (hts (.fieldLink RX0 33 "NumberFieldFactors$Extension" "mateOfTSquared" "I") (by decide +kernel)) (fun _ h9 => h9) rfl (by decide +kernel) rfl rfl (Nat.le_of_ble_eq_true rfl) dX0_become_141 (fun H locs hP hD hS => ?_)
              have hP := cs_E7 hP
              refine lv_iconst (v := 1) hx hb dX0_become_144 (by decide) ?_
              obtain rfl := Option.some.inj hf
              exact W.zret (v := 1) (ty := .boolean) hx hb hr (by decide) (fun t ht hW => ⟨rfl, by rw [ht]; exact hP, hS.F ht⟩) hS.2.2 dX0_become_145
            · rw [if_pos c56] at hf
              refine lv_bipush (v := 101) hx hb dX0_become_99 (by decide) ?_
              refine lv_iload_n hx hb dX0_become_101 rfl (lv_at hl 4 rfl) ?_
              refine lv_isub hx hb dX0_become_102 ?_
              refine lv_bipush (v := 101) hx hb dX0_become_103 (by decide) ?_
              refine jv_irem hx hb dX0_become_105 (by decide) ?_
              refine lv_goto (tgt := 111) hx hb dX0_become_106 (by decide) ?_
              refine va_put (ci := 0) (v := .int (jrem (101 - p1) 101)) (ty := .int) (C := RX0) (T := TX0) (N := 8) hx hb hts (by decide +kernel) tyX0 tyX0_ok nmX0 hown hK hP (ww_D hj) hS 40 cc_ext rfl 5 (by decide) (hts (.fieldLink RX0 27 "NumberFieldFactors$Extension" "t" "I") (by decide +kernel)) (fun _ h9 => h9) rfl (by decide +kernel) rfl rfl (Nat.le_of_ble_eq_true rfl) dX0_become_111 (fun H locs hP hD hS => ?_)
              have hP := cs_E5 hP
              refine lv_aload_n hx hb dX0_become_114 rfl (lv_at hl 2 rfl) ?_
              refine lv_aload_n hx hb dX0_become_115 rfl (lv_at hl 2 rfl) ?_
              refine lv_aload_n hx hb dX0_become_116 rfl (lv_at hl 2 rfl) ?_
              refine va_get (ci := 0) (v := .int ((va_up (va_up (va_up (va_up (va_up (va_up E 0 p0) 1 101) 2 p1) 3 0) 4 0) 5 (jrem (101 - p1) 101)) 5)) (C := RX0) (T := TX0) (N := 8) hx hb hts (by decide +kernel) hown hK hP 40 cc_ext rfl 5 (by decide) (hts (.fieldLink RX0 27 "NumberFieldFactors$Extension" "t" "I") (by decide +kernel)) (fun _ h9 => h9) rfl dX0_become_117 ?_
              refine lv_bipush (v := 101) hx hb dX0_become_120 (by decide) ?_
              obtain ⟨u61, g62, hf⟩ := Option.bind_eq_some_iff.mp hf
              try dsimp only at hf
              refine ct_call (va_runV (As := [.int ((va_up (va_up (va_up (va_up (va_up (va_up E 0 p0) 1 101) 2 p1) 3 0) 4 0) 5 (jrem (101 - p1) 101)) 5), .int 101]) (rest := [.ref (ad 40)]) ⟨hx, hb, hml, hown, hts⟩ (C_X0_power l D tys nw hn hnw hj htI htR (res := u61) g62) (cwV 2 hts gX0_become_X0_power rfl rfl rfl (by decide +kernel) ⟨Nat.le_of_ble_eq_true rfl, Nat.le_of_ble_eq_true rfl⟩) (ct_preV hn hP hK hN (ci := 0) (k := 40) rfl (by decide) rfl) rfl rfl hl.1 rfl (lv_room (Nat.le_of_ble_eq_true rfl)) dX0_become_122 ⟨Nat.zero_le _, Nat.zero_le _⟩) hS (fun H locs hP hS => ?_)
              refine va_put (ci := 0) (v := .int u61) (ty := .int) (C := RX0) (T := TX0) (N := 8) hx hb hts (by decide +kernel) tyX0 tyX0_ok nmX0 hown hK hP (ww_D hj) hS 40 cc_ext rfl 6 (by decide) (hts (.fieldLink RX0 30 "NumberFieldFactors$Extension" "mateOfT" "I") (by decide +kernel)) (fun _ h9 => h9) rfl (by decide +kernel) rfl rfl (Nat.le_of_ble_eq_true rfl) dX0_become_125 (fun H locs hP hD hS => ?_)
              have hP := cs_E6 hP
              refine lv_aload_n hx hb dX0_become_128 rfl (lv_at hl 2 rfl) ?_
              refine lv_aload_n hx hb dX0_become_129 rfl (lv_at hl 2 rfl) ?_
              refine lv_aload_n hx hb dX0_become_130 rfl (lv_at hl 2 rfl) ?_
              refine va_get (ci := 0) (v := .int ((va_up (va_up (va_up (va_up (va_up (va_up (va_up E 0 p0) 1 101) 2 p1) 3 0) 4 0) 5 (jrem (101 - p1) 101)) 6 u61) 6)) (C := RX0) (T := TX0) (N := 8) hx hb hts (by decide +kernel) hown hK hP 40 cc_ext rfl 6 (by decide) (hts (.fieldLink RX0 30 "NumberFieldFactors$Extension" "mateOfT" "I") (by decide +kernel)) (fun _ h9 => h9) rfl dX0_become_131 ?_
              refine lv_aload_n hx hb dX0_become_134 rfl (lv_at hl 2 rfl) ?_
              refine va_get (ci := 0) (v := .int ((va_up (va_up (va_up (va_up (va_up (va_up (va_up E 0 p0) 1 101) 2 p1) 3 0) 4 0) 5 (jrem (101 - p1) 101)) 6 u61) 6)) (C := RX0) (T := TX0) (N := 8) hx hb hts (by decide +kernel) hown hK hP 40 cc_ext rfl 6 (by decide) (hts (.fieldLink RX0 30 "NumberFieldFactors$Extension" "mateOfT" "I") (by decide +kernel)) (fun _ h9 => h9) rfl dX0_become_135 ?_
              obtain ⟨u63, g64, hf⟩ := Option.bind_eq_some_iff.mp hf
              try dsimp only at hf
              refine ct_call (va_runV (As := [.int ((va_up (va_up (va_up (va_up (va_up (va_up (va_up E 0 p0) 1 101) 2 p1) 3 0) 4 0) 5 (jrem (101 - p1) 101)) 6 u61) 6), .int ((va_up (va_up (va_up (va_up (va_up (va_up (va_up E 0 p0) 1 101) 2 p1) 3 0) 4 0) 5 (jrem (101 - p1) 101)) 6 u61) 6)]) (rest := [.ref (ad 40)]) ⟨hx, hb, hml, hown, hts⟩ (C_X0_times l D tys nw hn hnw hj htI htR (res := u63) g64) (cwV 2 hts gX0_become_X0_times rfl rfl rfl (by decide +kernel) ⟨Nat.le_of_ble_eq_true rfl, Nat.le_of_ble_eq_true rfl⟩) (ct_preV hn hP hK hN (ci := 0) (k := 40) rfl (by decide) rfl) rfl rfl hl.1 rfl (lv_room (Nat.le_of_ble_eq_true rfl)) dX0_become_138 ⟨Nat.zero_le _, Nat.zero_le _⟩) hS (fun H locs hP hS => ?_)
              refine va_put (ci := 0) (v := .int u63) (ty := .int) (C := RX0) (T := TX0) (N := 8) hx hb hts (by decide +kernel) tyX0 tyX0_ok nmX0 hown hK hP (ww_D hj) hS 40 cc_ext rfl 7 (by decide) (hts (.fieldLink RX0 33 "NumberFieldFactors$Extension" "mateOfTSquared" "I") (by decide +kernel)) (fun _ h9 => h9) rfl (by decide +kernel) rfl rfl (Nat.le_of_ble_eq_true rfl) dX0_become_141 (fun H locs hP hD hS => ?_)
              have hP := cs_E7 hP
              refine lv_iconst (v := 1) hx hb dX0_become_144 (by decide) ?_
              obtain rfl := Option.some.inj hf
              exact W.zret (v := 1) (ty := .boolean) hx hb hr (by decide) (fun t ht hW => ⟨rfl, by rw [ht]; exact hP, hS.F ht⟩) hS.2.2 dX0_become_145
        · rw [if_neg c35] at hf
          refine lv_iconst (v := 0) hx hb dX0_become_42 (by decide) ?_
          obtain rfl := Option.some.inj hf
          exact W.zret (v := 0) (ty := .boolean) hx hb hr (by decide) (fun t ht hW => ⟨rfl, by rw [ht]; exact hP, hS.F ht⟩) hS.2.2 dX0_become_43
    · rw [if_neg c2] at hf
      refine lv_iload hx hb dX0_become_17 (lv_at hl 5 rfl) ?_
      refine lv_goto (tgt := 23) hx hb dX0_become_19 (by decide) ?_
      refine lv_istore (lv' := [(6, .int p3), (5, .int 0), (0, .ref (ad 40)), (1, .int p0), (2, .int p1), (3, .int p2), (4, .int p3)]) hx hb dX0_become_23 hl (by decide) rfl (fun ls hl => ?_)
      refine lv_iload_n hx hb dX0_become_25 rfl (lv_at hl 3 rfl) ?_
      refine lv_iconst (v := 1) hx hb dX0_become_26 (by decide) ?_
      refine lv_icmp_le (tgt := 44) hx hb dX0_become_27 (by decide) (fun c65 => ?_) (fun c65 => ?_)
      · rw [if_pos c65] at hf
        refine lv_aload_n hx hb dX0_become_44 rfl (lv_at hl 2 rfl) ?_
        refine lv_iload_n hx hb dX0_become_45 rfl (lv_at hl 3 rfl) ?_
        refine va_put (ci := 0) (v := .int p0) (ty := .int) (C := RX0) (T := TX0) (N := 8) hx hb hts (by decide +kernel) tyX0 tyX0_ok nmX0 hown hK hP (ww_D hj) hS 40 cc_ext rfl 0 (by decide) (hts (.fieldLink RX0 9 "NumberFieldFactors$Extension" "degree" "I") (by decide +kernel)) (fun _ h9 => h9) rfl (by decide +kernel) rfl rfl (Nat.le_of_ble_eq_true rfl) dX0_become_46 (fun H locs hP hD hS => ?_)
        have hP := cs_E0 hP
        refine lv_aload_n hx hb dX0_become_49 rfl (lv_at hl 2 rfl) ?_
        refine lv_iload_n hx hb dX0_become_50 rfl (lv_at hl 3 rfl) ?_
        refine lv_iconst (v := 1) hx hb dX0_become_51 (by decide) ?_
        refine lv_icmp_ne (tgt := 60) hx hb dX0_become_52 (by decide) (fun c66 => ?_) (fun c66 => ?_)
        · rw [if_neg c66] at hf
          refine lv_iload_n hx hb dX0_become_60 rfl (lv_at hl 3 rfl) ?_
          refine lv_iconst (v := 2) hx hb dX0_become_61 (by decide) ?_
          refine lv_icmp_ne (tgt := 71) hx hb dX0_become_62 (by decide) (fun c67 => ?_) (fun c67 => ?_)
          · rw [if_neg c67] at hf
            refine lv_ldc (v := 1030301) hx hb hown (hts (.constant RX0 40 (1030301)) (by decide +kernel)) dX0_become_71 ?_
            refine va_put (ci := 0) (v := .int 1030301) (ty := .int) (C := RX0) (T := TX0) (N := 8) hx hb hts (by decide +kernel) tyX0 tyX0_ok nmX0 hown hK hP (ww_D hj) hS 40 cc_ext rfl 1 (by decide) (hts (.fieldLink RX0 15 "NumberFieldFactors$Extension" "size" "I") (by decide +kernel)) (fun _ h9 => h9) rfl (by decide +kernel) rfl rfl (Nat.le_of_ble_eq_true rfl) dX0_become_73 (fun H locs hP hD hS => ?_)
            have hP := cs_E1 hP
            refine lv_aload_n hx hb dX0_become_76 rfl (lv_at hl 2 rfl) ?_
            refine lv_iload_n hx hb dX0_become_77 rfl (lv_at hl 4 rfl) ?_
            refine va_put (ci := 0) (v := .int p1) (ty := .int) (C := RX0) (T := TX0) (N := 8) hx hb hts (by decide +kernel) tyX0 tyX0_ok nmX0 hown hK hP (ww_D hj) hS 40 cc_ext rfl 2 (by decide) (hts (.fieldLink RX0 18 "NumberFieldFactors$Extension" "low0" "I") (by decide +kernel)) (fun _ h9 => h9) rfl (by decide +kernel) rfl rfl (Nat.le_of_ble_eq_true rfl) dX0_become_78 (fun H locs hP hD hS => ?_)
            have hP := cs_E2 hP
            refine lv_aload_n hx hb dX0_become_81 rfl (lv_at hl 2 rfl) ?_
            refine lv_iload hx hb dX0_become_82 (lv_at hl 1 rfl) ?_
            refine va_put (ci := 0) (v := .int 0) (ty := .int) (C := RX0) (T := TX0) (N := 8) hx hb hts (by decide +kernel) tyX0 tyX0_ok nmX0 hown hK hP (ww_D hj) hS 40 cc_ext rfl 3 (by decide) (hts (.fieldLink RX0 21 "NumberFieldFactors$Extension" "low1" "I") (by decide +kernel)) (fun _ h9 => h9) rfl (by decide +kernel) rfl rfl (Nat.le_of_ble_eq_true rfl) dX0_become_84 (fun H locs hP hD hS => ?_)
            have hP := cs_E3 hP
            refine lv_aload_n hx hb dX0_become_87 rfl (lv_at hl 2 rfl) ?_
            refine lv_iload hx hb dX0_become_88 (lv_at hl 0 rfl) ?_
            refine va_put (ci := 0) (v := .int p3) (ty := .int) (C := RX0) (T := TX0) (N := 8) hx hb hts (by decide +kernel) tyX0 tyX0_ok nmX0 hown hK hP (ww_D hj) hS 40 cc_ext rfl 4 (by decide) (hts (.fieldLink RX0 24 "NumberFieldFactors$Extension" "low2" "I") (by decide +kernel)) (fun _ h9 => h9) rfl (by decide +kernel) rfl rfl (Nat.le_of_ble_eq_true rfl) dX0_become_90 (fun H locs hP hD hS => ?_)
            have hP := cs_E4 hP
            refine lv_aload_n hx hb dX0_become_93 rfl (lv_at hl 2 rfl) ?_
            refine lv_iload_n hx hb dX0_become_94 rfl (lv_at hl 3 rfl) ?_
            refine lv_iconst (v := 1) hx hb dX0_become_95 (by decide) ?_
            refine lv_icmp_ne (tgt := 109) hx hb dX0_become_96 (by decide) (fun c68 => ?_) (fun c68 => ?_)
            · rw [if_neg c68] at hf
              refine lv_bipush (v := 101) hx hb dX0_become_109 (by decide) ?_
              refine va_put (ci := 0) (v := .int 101) (ty := .int) (C := RX0) (T := TX0) (N := 8) hx hb hts (by decide +kernel) tyX0 tyX0_ok nmX0 hown hK hP (ww_D hj) hS 40 cc_ext rfl 5 (by decide) (hts (.fieldLink RX0 27 "NumberFieldFactors$Extension" "t" "I") (by decide +kernel)) (fun _ h9 => h9) rfl (by decide +kernel) rfl rfl (Nat.le_of_ble_eq_true rfl) dX0_become_111 (fun H locs hP hD hS => ?_)
              have hP := cs_E5 hP
              refine lv_aload_n hx hb dX0_become_114 rfl (lv_at hl 2 rfl) ?_
              refine lv_aload_n hx hb dX0_become_115 rfl (lv_at hl 2 rfl) ?_
              refine lv_aload_n hx hb dX0_become_116 rfl (lv_at hl 2 rfl) ?_
              refine va_get (ci := 0) (v := .int ((va_up (va_up (va_up (va_up (va_up (va_up E 0 p0) 1 1030301) 2 p1) 3 0) 4 p3) 5 101) 5)) (C := RX0) (T := TX0) (N := 8) hx hb hts (by decide +kernel) hown hK hP 40 cc_ext rfl 5 (by decide) (hts (.fieldLink RX0 27 "NumberFieldFactors$Extension" "t" "I") (by decide +kernel)) (fun _ h9 => h9) rfl dX0_become_117 ?_
              refine lv_bipush (v := 101) hx hb dX0_become_120 (by decide) ?_
              obtain ⟨u69, g70, hf⟩ := Option.bind_eq_some_iff.mp hf
              try dsimp only at hf
              refine ct_call (va_runV (As := [.int ((va_up (va_up (va_up (va_up (va_up (va_up E 0 p0) 1 1030301) 2 p1) 3 0) 4 p3) 5 101) 5), .int 101]) (rest := [.ref (ad 40)]) ⟨hx, hb, hml, hown, hts⟩ (C_X0_power l D tys nw hn hnw hj htI htR (res := u69) g70) (cwV 2 hts gX0_become_X0_power rfl rfl rfl (by decide +kernel) ⟨Nat.le_of_ble_eq_true rfl, Nat.le_of_ble_eq_true rfl⟩) (ct_preV hn hP hK hN (ci := 0) (k := 40) rfl (by decide) rfl) rfl rfl hl.1 rfl (lv_room (Nat.le_of_ble_eq_true rfl)) dX0_become_122 ⟨Nat.zero_le _, Nat.zero_le _⟩) hS (fun H locs hP hS => ?_)
              refine va_put (ci := 0) (v := .int u69) (ty := .int) (C := RX0) (T := TX0) (N := 8) hx hb hts (by decide +kernel) tyX0 tyX0_ok nmX0 hown hK hP (ww_D hj) hS 40 cc_ext rfl 6 (by decide) (hts (.fieldLink RX0 30 "NumberFieldFactors$Extension" "mateOfT" "I") (by decide +kernel)) (fun _ h9 => h9) rfl (by decide +kernel) rfl rfl (Nat.le_of_ble_eq_true rfl) dX0_become_125 (fun H locs hP hD hS => ?_)
              have hP := cs_E6 hP
              refine lv_aload_n hx hb dX0_become_128 rfl (lv_at hl 2 rfl) ?_
              refine lv_aload_n hx hb dX0_become_129 rfl (lv_at hl 2 rfl) ?_
              refine lv_aload_n hx hb dX0_become_130 rfl (lv_at hl 2 rfl) ?_
              refine va_get (ci := 0) (v := .int ((va_up (va_up (va_up (va_up (va_up (va_up (va_up E 0 p0) 1 1030301) 2 p1) 3 0) 4 p3) 5 101) 6 u69) 6)) (C := RX0) (T := TX0) (N := 8) hx hb hts (by decide +kernel) hown hK hP 40 cc_ext rfl 6 (by decide) (hts (.fieldLink RX0 30 "NumberFieldFactors$Extension" "mateOfT" "I") (by decide +kernel)) (fun _ h9 => h9) rfl dX0_become_131 ?_
              refine lv_aload_n hx hb dX0_become_134 rfl (lv_at hl 2 rfl) ?_
              refine va_get (ci := 0) (v := .int ((va_up (va_up (va_up (va_up (va_up (va_up (va_up E 0 p0) 1 1030301) 2 p1) 3 0) 4 p3) 5 101) 6 u69) 6)) (C := RX0) (T := TX0) (N := 8) hx hb hts (by decide +kernel) hown hK hP 40 cc_ext rfl 6 (by decide) (hts (.fieldLink RX0 30 "NumberFieldFactors$Extension" "mateOfT" "I") (by decide +kernel)) (fun _ h9 => h9) rfl dX0_become_135 ?_
              obtain ⟨u71, g72, hf⟩ := Option.bind_eq_some_iff.mp hf
              try dsimp only at hf
              refine ct_call (va_runV (As := [.int ((va_up (va_up (va_up (va_up (va_up (va_up (va_up E 0 p0) 1 1030301) 2 p1) 3 0) 4 p3) 5 101) 6 u69) 6), .int ((va_up (va_up (va_up (va_up (va_up (va_up (va_up E 0 p0) 1 1030301) 2 p1) 3 0) 4 p3) 5 101) 6 u69) 6)]) (rest := [.ref (ad 40)]) ⟨hx, hb, hml, hown, hts⟩ (C_X0_times l D tys nw hn hnw hj htI htR (res := u71) g72) (cwV 2 hts gX0_become_X0_times rfl rfl rfl (by decide +kernel) ⟨Nat.le_of_ble_eq_true rfl, Nat.le_of_ble_eq_true rfl⟩) (ct_preV hn hP hK hN (ci := 0) (k := 40) rfl (by decide) rfl) rfl rfl hl.1 rfl (lv_room (Nat.le_of_ble_eq_true rfl)) dX0_become_138 ⟨Nat.zero_le _, Nat.zero_le _⟩) hS (fun H locs hP hS => ?_)
              refine va_put (ci := 0) (v := .int u71) (ty := .int) (C := RX0) (T := TX0) (N := 8) hx hb hts (by decide +kernel) tyX0 tyX0_ok nmX0 hown hK hP (ww_D hj) hS 40 cc_ext rfl 7 (by decide) (hts (.fieldLink RX0 33 "NumberFieldFactors$Extension" "mateOfTSquared" "I") (by decide +kernel)) (fun _ h9 => h9) rfl (by decide +kernel) rfl rfl (Nat.le_of_ble_eq_true rfl) dX0_become_141 (fun H locs hP hD hS => ?_)
              have hP := cs_E7 hP
              refine lv_iconst (v := 1) hx hb dX0_become_144 (by decide) ?_
              obtain rfl := Option.some.inj hf
              exact W.zret (v := 1) (ty := .boolean) hx hb hr (by decide) (fun t ht hW => ⟨rfl, by rw [ht]; exact hP, hS.F ht⟩) hS.2.2 dX0_become_145
            · rw [if_pos c68] at hf
              refine lv_bipush (v := 101) hx hb dX0_become_99 (by decide) ?_
              refine lv_iload_n hx hb dX0_become_101 rfl (lv_at hl 4 rfl) ?_
              refine lv_isub hx hb dX0_become_102 ?_
              refine lv_bipush (v := 101) hx hb dX0_become_103 (by decide) ?_
              refine jv_irem hx hb dX0_become_105 (by decide) ?_
              refine lv_goto (tgt := 111) hx hb dX0_become_106 (by decide) ?_
              refine va_put (ci := 0) (v := .int (jrem (101 - p1) 101)) (ty := .int) (C := RX0) (T := TX0) (N := 8) hx hb hts (by decide +kernel) tyX0 tyX0_ok nmX0 hown hK hP (ww_D hj) hS 40 cc_ext rfl 5 (by decide) (hts (.fieldLink RX0 27 "NumberFieldFactors$Extension" "t" "I") (by decide +kernel)) (fun _ h9 => h9) rfl (by decide +kernel) rfl rfl (Nat.le_of_ble_eq_true rfl) dX0_become_111 (fun H locs hP hD hS => ?_)
              have hP := cs_E5 hP
              refine lv_aload_n hx hb dX0_become_114 rfl (lv_at hl 2 rfl) ?_
              refine lv_aload_n hx hb dX0_become_115 rfl (lv_at hl 2 rfl) ?_
              refine lv_aload_n hx hb dX0_become_116 rfl (lv_at hl 2 rfl) ?_
              refine va_get (ci := 0) (v := .int ((va_up (va_up (va_up (va_up (va_up (va_up E 0 p0) 1 1030301) 2 p1) 3 0) 4 p3) 5 (jrem (101 - p1) 101)) 5)) (C := RX0) (T := TX0) (N := 8) hx hb hts (by decide +kernel) hown hK hP 40 cc_ext rfl 5 (by decide) (hts (.fieldLink RX0 27 "NumberFieldFactors$Extension" "t" "I") (by decide +kernel)) (fun _ h9 => h9) rfl dX0_become_117 ?_
              refine lv_bipush (v := 101) hx hb dX0_become_120 (by decide) ?_
              obtain ⟨u73, g74, hf⟩ := Option.bind_eq_some_iff.mp hf
              try dsimp only at hf
              refine ct_call (va_runV (As := [.int ((va_up (va_up (va_up (va_up (va_up (va_up E 0 p0) 1 1030301) 2 p1) 3 0) 4 p3) 5 (jrem (101 - p1) 101)) 5), .int 101]) (rest := [.ref (ad 40)]) ⟨hx, hb, hml, hown, hts⟩ (C_X0_power l D tys nw hn hnw hj htI htR (res := u73) g74) (cwV 2 hts gX0_become_X0_power rfl rfl rfl (by decide +kernel) ⟨Nat.le_of_ble_eq_true rfl, Nat.le_of_ble_eq_true rfl⟩) (ct_preV hn hP hK hN (ci := 0) (k := 40) rfl (by decide) rfl) rfl rfl hl.1 rfl (lv_room (Nat.le_of_ble_eq_true rfl)) dX0_become_122 ⟨Nat.zero_le _, Nat.zero_le _⟩) hS (fun H locs hP hS => ?_)
              refine va_put (ci := 0) (v := .int u73) (ty := .int) (C := RX0) (T := TX0) (N := 8) hx hb hts (by decide +kernel) tyX0 tyX0_ok nmX0 hown hK hP (ww_D hj) hS 40 cc_ext rfl 6 (by decide) (hts (.fieldLink RX0 30 "NumberFieldFactors$Extension" "mateOfT" "I") (by decide +kernel)) (fun _ h9 => h9) rfl (by decide +kernel) rfl rfl (Nat.le_of_ble_eq_true rfl) dX0_become_125 (fun H locs hP hD hS => ?_)
              have hP := cs_E6 hP
              refine lv_aload_n hx hb dX0_become_128 rfl (lv_at hl 2 rfl) ?_
              refine lv_aload_n hx hb dX0_become_129 rfl (lv_at hl 2 rfl) ?_
              refine lv_aload_n hx hb dX0_become_130 rfl (lv_at hl 2 rfl) ?_
              refine va_get (ci := 0) (v := .int ((va_up (va_up (va_up (va_up (va_up (va_up (va_up E 0 p0) 1 1030301) 2 p1) 3 0) 4 p3) 5 (jrem (101 - p1) 101)) 6 u73) 6)) (C := RX0) (T := TX0) (N := 8) hx hb hts (by decide +kernel) hown hK hP 40 cc_ext rfl 6 (by decide) (hts (.fieldLink RX0 30 "NumberFieldFactors$Extension" "mateOfT" "I") (by decide +kernel)) (fun _ h9 => h9) rfl dX0_become_131 ?_
              refine lv_aload_n hx hb dX0_become_134 rfl (lv_at hl 2 rfl) ?_
              refine va_get (ci := 0) (v := .int ((va_up (va_up (va_up (va_up (va_up (va_up (va_up E 0 p0) 1 1030301) 2 p1) 3 0) 4 p3) 5 (jrem (101 - p1) 101)) 6 u73) 6)) (C := RX0) (T := TX0) (N := 8) hx hb hts (by decide +kernel) hown hK hP 40 cc_ext rfl 6 (by decide) (hts (.fieldLink RX0 30 "NumberFieldFactors$Extension" "mateOfT" "I") (by decide +kernel)) (fun _ h9 => h9) rfl dX0_become_135 ?_
              obtain ⟨u75, g76, hf⟩ := Option.bind_eq_some_iff.mp hf
              try dsimp only at hf
              refine ct_call (va_runV (As := [.int ((va_up (va_up (va_up (va_up (va_up (va_up (va_up E 0 p0) 1 1030301) 2 p1) 3 0) 4 p3) 5 (jrem (101 - p1) 101)) 6 u73) 6), .int ((va_up (va_up (va_up (va_up (va_up (va_up (va_up E 0 p0) 1 1030301) 2 p1) 3 0) 4 p3) 5 (jrem (101 - p1) 101)) 6 u73) 6)]) (rest := [.ref (ad 40)]) ⟨hx, hb, hml, hown, hts⟩ (C_X0_times l D tys nw hn hnw hj htI htR (res := u75) g76) (cwV 2 hts gX0_become_X0_times rfl rfl rfl (by decide +kernel) ⟨Nat.le_of_ble_eq_true rfl, Nat.le_of_ble_eq_true rfl⟩) (ct_preV hn hP hK hN (ci := 0) (k := 40) rfl (by decide) rfl) rfl rfl hl.1 rfl (lv_room (Nat.le_of_ble_eq_true rfl)) dX0_become_138 ⟨Nat.zero_le _, Nat.zero_le _⟩) hS (fun H locs hP hS => ?_)
              refine va_put (ci := 0) (v := .int u75) (ty := .int) (C := RX0) (T := TX0) (N := 8) hx hb hts (by decide +kernel) tyX0 tyX0_ok nmX0 hown hK hP (ww_D hj) hS 40 cc_ext rfl 7 (by decide) (hts (.fieldLink RX0 33 "NumberFieldFactors$Extension" "mateOfTSquared" "I") (by decide +kernel)) (fun _ h9 => h9) rfl (by decide +kernel) rfl rfl (Nat.le_of_ble_eq_true rfl) dX0_become_141 (fun H locs hP hD hS => ?_)
              have hP := cs_E7 hP
              refine lv_iconst (v := 1) hx hb dX0_become_144 (by decide) ?_
              obtain rfl := Option.some.inj hf
              exact W.zret (v := 1) (ty := .boolean) hx hb hr (by decide) (fun t ht hW => ⟨rfl, by rw [ht]; exact hP, hS.F ht⟩) hS.2.2 dX0_become_145
          · rw [if_pos c67] at hf
            refine lv_sipush (v := 10201) hx hb dX0_become_65 (by decide) ?_
            refine lv_goto (tgt := 73) hx hb dX0_become_68 (by decide) ?_
            refine va_put (ci := 0) (v := .int 10201) (ty := .int) (C := RX0) (T := TX0) (N := 8) hx hb hts (by decide +kernel) tyX0 tyX0_ok nmX0 hown hK hP (ww_D hj) hS 40 cc_ext rfl 1 (by decide) (hts (.fieldLink RX0 15 "NumberFieldFactors$Extension" "size" "I") (by decide +kernel)) (fun _ h9 => h9) rfl (by decide +kernel) rfl rfl (Nat.le_of_ble_eq_true rfl) dX0_become_73 (fun H locs hP hD hS => ?_)
            have hP := cs_E1 hP
            refine lv_aload_n hx hb dX0_become_76 rfl (lv_at hl 2 rfl) ?_
            refine lv_iload_n hx hb dX0_become_77 rfl (lv_at hl 4 rfl) ?_
            refine va_put (ci := 0) (v := .int p1) (ty := .int) (C := RX0) (T := TX0) (N := 8) hx hb hts (by decide +kernel) tyX0 tyX0_ok nmX0 hown hK hP (ww_D hj) hS 40 cc_ext rfl 2 (by decide) (hts (.fieldLink RX0 18 "NumberFieldFactors$Extension" "low0" "I") (by decide +kernel)) (fun _ h9 => h9) rfl (by decide +kernel) rfl rfl (Nat.le_of_ble_eq_true rfl) dX0_become_78 (fun H locs hP hD hS => ?_)
            have hP := cs_E2 hP
            refine lv_aload_n hx hb dX0_become_81 rfl (lv_at hl 2 rfl) ?_
            refine lv_iload hx hb dX0_become_82 (lv_at hl 1 rfl) ?_
            refine va_put (ci := 0) (v := .int 0) (ty := .int) (C := RX0) (T := TX0) (N := 8) hx hb hts (by decide +kernel) tyX0 tyX0_ok nmX0 hown hK hP (ww_D hj) hS 40 cc_ext rfl 3 (by decide) (hts (.fieldLink RX0 21 "NumberFieldFactors$Extension" "low1" "I") (by decide +kernel)) (fun _ h9 => h9) rfl (by decide +kernel) rfl rfl (Nat.le_of_ble_eq_true rfl) dX0_become_84 (fun H locs hP hD hS => ?_)
            have hP := cs_E3 hP
            refine lv_aload_n hx hb dX0_become_87 rfl (lv_at hl 2 rfl) ?_
            refine lv_iload hx hb dX0_become_88 (lv_at hl 0 rfl) ?_
            refine va_put (ci := 0) (v := .int p3) (ty := .int) (C := RX0) (T := TX0) (N := 8) hx hb hts (by decide +kernel) tyX0 tyX0_ok nmX0 hown hK hP (ww_D hj) hS 40 cc_ext rfl 4 (by decide) (hts (.fieldLink RX0 24 "NumberFieldFactors$Extension" "low2" "I") (by decide +kernel)) (fun _ h9 => h9) rfl (by decide +kernel) rfl rfl (Nat.le_of_ble_eq_true rfl) dX0_become_90 (fun H locs hP hD hS => ?_)
            have hP := cs_E4 hP
            refine lv_aload_n hx hb dX0_become_93 rfl (lv_at hl 2 rfl) ?_
            refine lv_iload_n hx hb dX0_become_94 rfl (lv_at hl 3 rfl) ?_
            refine lv_iconst (v := 1) hx hb dX0_become_95 (by decide) ?_
            refine lv_icmp_ne (tgt := 109) hx hb dX0_become_96 (by decide) (fun c77 => ?_) (fun c77 => ?_)
            · rw [if_neg c77] at hf
              refine lv_bipush (v := 101) hx hb dX0_become_109 (by decide) ?_
              refine va_put (ci := 0) (v := .int 101) (ty := .int) (C := RX0) (T := TX0) (N := 8) hx hb hts (by decide +kernel) tyX0 tyX0_ok nmX0 hown hK hP (ww_D hj) hS 40 cc_ext rfl 5 (by decide) (hts (.fieldLink RX0 27 "NumberFieldFactors$Extension" "t" "I") (by decide +kernel)) (fun _ h9 => h9) rfl (by decide +kernel) rfl rfl (Nat.le_of_ble_eq_true rfl) dX0_become_111 (fun H locs hP hD hS => ?_)
              have hP := cs_E5 hP
              refine lv_aload_n hx hb dX0_become_114 rfl (lv_at hl 2 rfl) ?_
              refine lv_aload_n hx hb dX0_become_115 rfl (lv_at hl 2 rfl) ?_
              refine lv_aload_n hx hb dX0_become_116 rfl (lv_at hl 2 rfl) ?_
              refine va_get (ci := 0) (v := .int ((va_up (va_up (va_up (va_up (va_up (va_up E 0 p0) 1 10201) 2 p1) 3 0) 4 p3) 5 101) 5)) (C := RX0) (T := TX0) (N := 8) hx hb hts (by decide +kernel) hown hK hP 40 cc_ext rfl 5 (by decide) (hts (.fieldLink RX0 27 "NumberFieldFactors$Extension" "t" "I") (by decide +kernel)) (fun _ h9 => h9) rfl dX0_become_117 ?_
              refine lv_bipush (v := 101) hx hb dX0_become_120 (by decide) ?_
              obtain ⟨u78, g79, hf⟩ := Option.bind_eq_some_iff.mp hf
              try dsimp only at hf
              refine ct_call (va_runV (As := [.int ((va_up (va_up (va_up (va_up (va_up (va_up E 0 p0) 1 10201) 2 p1) 3 0) 4 p3) 5 101) 5), .int 101]) (rest := [.ref (ad 40)]) ⟨hx, hb, hml, hown, hts⟩ (C_X0_power l D tys nw hn hnw hj htI htR (res := u78) g79) (cwV 2 hts gX0_become_X0_power rfl rfl rfl (by decide +kernel) ⟨Nat.le_of_ble_eq_true rfl, Nat.le_of_ble_eq_true rfl⟩) (ct_preV hn hP hK hN (ci := 0) (k := 40) rfl (by decide) rfl) rfl rfl hl.1 rfl (lv_room (Nat.le_of_ble_eq_true rfl)) dX0_become_122 ⟨Nat.zero_le _, Nat.zero_le _⟩) hS (fun H locs hP hS => ?_)
              refine va_put (ci := 0) (v := .int u78) (ty := .int) (C := RX0) (T := TX0) (N := 8) hx hb hts (by decide +kernel) tyX0 tyX0_ok nmX0 hown hK hP (ww_D hj) hS 40 cc_ext rfl 6 (by decide) (hts (.fieldLink RX0 30 "NumberFieldFactors$Extension" "mateOfT" "I") (by decide +kernel)) (fun _ h9 => h9) rfl (by decide +kernel) rfl rfl (Nat.le_of_ble_eq_true rfl) dX0_become_125 (fun H locs hP hD hS => ?_)
              have hP := cs_E6 hP
              refine lv_aload_n hx hb dX0_become_128 rfl (lv_at hl 2 rfl) ?_
              refine lv_aload_n hx hb dX0_become_129 rfl (lv_at hl 2 rfl) ?_
              refine lv_aload_n hx hb dX0_become_130 rfl (lv_at hl 2 rfl) ?_
              refine va_get (ci := 0) (v := .int ((va_up (va_up (va_up (va_up (va_up (va_up (va_up E 0 p0) 1 10201) 2 p1) 3 0) 4 p3) 5 101) 6 u78) 6)) (C := RX0) (T := TX0) (N := 8) hx hb hts (by decide +kernel) hown hK hP 40 cc_ext rfl 6 (by decide) (hts (.fieldLink RX0 30 "NumberFieldFactors$Extension" "mateOfT" "I") (by decide +kernel)) (fun _ h9 => h9) rfl dX0_become_131 ?_
              refine lv_aload_n hx hb dX0_become_134 rfl (lv_at hl 2 rfl) ?_
              refine va_get (ci := 0) (v := .int ((va_up (va_up (va_up (va_up (va_up (va_up (va_up E 0 p0) 1 10201) 2 p1) 3 0) 4 p3) 5 101) 6 u78) 6)) (C := RX0) (T := TX0) (N := 8) hx hb hts (by decide +kernel) hown hK hP 40 cc_ext rfl 6 (by decide) (hts (.fieldLink RX0 30 "NumberFieldFactors$Extension" "mateOfT" "I") (by decide +kernel)) (fun _ h9 => h9) rfl dX0_become_135 ?_
              obtain ⟨u80, g81, hf⟩ := Option.bind_eq_some_iff.mp hf
              try dsimp only at hf
              refine ct_call (va_runV (As := [.int ((va_up (va_up (va_up (va_up (va_up (va_up (va_up E 0 p0) 1 10201) 2 p1) 3 0) 4 p3) 5 101) 6 u78) 6), .int ((va_up (va_up (va_up (va_up (va_up (va_up (va_up E 0 p0) 1 10201) 2 p1) 3 0) 4 p3) 5 101) 6 u78) 6)]) (rest := [.ref (ad 40)]) ⟨hx, hb, hml, hown, hts⟩ (C_X0_times l D tys nw hn hnw hj htI htR (res := u80) g81) (cwV 2 hts gX0_become_X0_times rfl rfl rfl (by decide +kernel) ⟨Nat.le_of_ble_eq_true rfl, Nat.le_of_ble_eq_true rfl⟩) (ct_preV hn hP hK hN (ci := 0) (k := 40) rfl (by decide) rfl) rfl rfl hl.1 rfl (lv_room (Nat.le_of_ble_eq_true rfl)) dX0_become_138 ⟨Nat.zero_le _, Nat.zero_le _⟩) hS (fun H locs hP hS => ?_)
              refine va_put (ci := 0) (v := .int u80) (ty := .int) (C := RX0) (T := TX0) (N := 8) hx hb hts (by decide +kernel) tyX0 tyX0_ok nmX0 hown hK hP (ww_D hj) hS 40 cc_ext rfl 7 (by decide) (hts (.fieldLink RX0 33 "NumberFieldFactors$Extension" "mateOfTSquared" "I") (by decide +kernel)) (fun _ h9 => h9) rfl (by decide +kernel) rfl rfl (Nat.le_of_ble_eq_true rfl) dX0_become_141 (fun H locs hP hD hS => ?_)
              have hP := cs_E7 hP
              refine lv_iconst (v := 1) hx hb dX0_become_144 (by decide) ?_
              obtain rfl := Option.some.inj hf
              exact W.zret (v := 1) (ty := .boolean) hx hb hr (by decide) (fun t ht hW => ⟨rfl, by rw [ht]; exact hP, hS.F ht⟩) hS.2.2 dX0_become_145
            · rw [if_pos c77] at hf
              refine lv_bipush (v := 101) hx hb dX0_become_99 (by decide) ?_
              refine lv_iload_n hx hb dX0_become_101 rfl (lv_at hl 4 rfl) ?_
              refine lv_isub hx hb dX0_become_102 ?_
              refine lv_bipush (v := 101) hx hb dX0_become_103 (by decide) ?_
              refine jv_irem hx hb dX0_become_105 (by decide) ?_
              refine lv_goto (tgt := 111) hx hb dX0_become_106 (by decide) ?_
              refine va_put (ci := 0) (v := .int (jrem (101 - p1) 101)) (ty := .int) (C := RX0) (T := TX0) (N := 8) hx hb hts (by decide +kernel) tyX0 tyX0_ok nmX0 hown hK hP (ww_D hj) hS 40 cc_ext rfl 5 (by decide) (hts (.fieldLink RX0 27 "NumberFieldFactors$Extension" "t" "I") (by decide +kernel)) (fun _ h9 => h9) rfl (by decide +kernel) rfl rfl (Nat.le_of_ble_eq_true rfl) dX0_become_111 (fun H locs hP hD hS => ?_)
              have hP := cs_E5 hP
              refine lv_aload_n hx hb dX0_become_114 rfl (lv_at hl 2 rfl) ?_
              refine lv_aload_n hx hb dX0_become_115 rfl (lv_at hl 2 rfl) ?_
              refine lv_aload_n hx hb dX0_become_116 rfl (lv_at hl 2 rfl) ?_
              refine va_get (ci := 0) (v := .int ((va_up (va_up (va_up (va_up (va_up (va_up E 0 p0) 1 10201) 2 p1) 3 0) 4 p3) 5 (jrem (101 - p1) 101)) 5)) (C := RX0) (T := TX0) (N := 8) hx hb hts (by decide +kernel) hown hK hP 40 cc_ext rfl 5 (by decide) (hts (.fieldLink RX0 27 "NumberFieldFactors$Extension" "t" "I") (by decide +kernel)) (fun _ h9 => h9) rfl dX0_become_117 ?_
              refine lv_bipush (v := 101) hx hb dX0_become_120 (by decide) ?_
              obtain ⟨u82, g83, hf⟩ := Option.bind_eq_some_iff.mp hf
              try dsimp only at hf
              refine ct_call (va_runV (As := [.int ((va_up (va_up (va_up (va_up (va_up (va_up E 0 p0) 1 10201) 2 p1) 3 0) 4 p3) 5 (jrem (101 - p1) 101)) 5), .int 101]) (rest := [.ref (ad 40)]) ⟨hx, hb, hml, hown, hts⟩ (C_X0_power l D tys nw hn hnw hj htI htR (res := u82) g83) (cwV 2 hts gX0_become_X0_power rfl rfl rfl (by decide +kernel) ⟨Nat.le_of_ble_eq_true rfl, Nat.le_of_ble_eq_true rfl⟩) (ct_preV hn hP hK hN (ci := 0) (k := 40) rfl (by decide) rfl) rfl rfl hl.1 rfl (lv_room (Nat.le_of_ble_eq_true rfl)) dX0_become_122 ⟨Nat.zero_le _, Nat.zero_le _⟩) hS (fun H locs hP hS => ?_)
              refine va_put (ci := 0) (v := .int u82) (ty := .int) (C := RX0) (T := TX0) (N := 8) hx hb hts (by decide +kernel) tyX0 tyX0_ok nmX0 hown hK hP (ww_D hj) hS 40 cc_ext rfl 6 (by decide) (hts (.fieldLink RX0 30 "NumberFieldFactors$Extension" "mateOfT" "I") (by decide +kernel)) (fun _ h9 => h9) rfl (by decide +kernel) rfl rfl (Nat.le_of_ble_eq_true rfl) dX0_become_125 (fun H locs hP hD hS => ?_)
              have hP := cs_E6 hP
              refine lv_aload_n hx hb dX0_become_128 rfl (lv_at hl 2 rfl) ?_
              refine lv_aload_n hx hb dX0_become_129 rfl (lv_at hl 2 rfl) ?_
              refine lv_aload_n hx hb dX0_become_130 rfl (lv_at hl 2 rfl) ?_
              refine va_get (ci := 0) (v := .int ((va_up (va_up (va_up (va_up (va_up (va_up (va_up E 0 p0) 1 10201) 2 p1) 3 0) 4 p3) 5 (jrem (101 - p1) 101)) 6 u82) 6)) (C := RX0) (T := TX0) (N := 8) hx hb hts (by decide +kernel) hown hK hP 40 cc_ext rfl 6 (by decide) (hts (.fieldLink RX0 30 "NumberFieldFactors$Extension" "mateOfT" "I") (by decide +kernel)) (fun _ h9 => h9) rfl dX0_become_131 ?_
              refine lv_aload_n hx hb dX0_become_134 rfl (lv_at hl 2 rfl) ?_
              refine va_get (ci := 0) (v := .int ((va_up (va_up (va_up (va_up (va_up (va_up (va_up E 0 p0) 1 10201) 2 p1) 3 0) 4 p3) 5 (jrem (101 - p1) 101)) 6 u82) 6)) (C := RX0) (T := TX0) (N := 8) hx hb hts (by decide +kernel) hown hK hP 40 cc_ext rfl 6 (by decide) (hts (.fieldLink RX0 30 "NumberFieldFactors$Extension" "mateOfT" "I") (by decide +kernel)) (fun _ h9 => h9) rfl dX0_become_135 ?_
              obtain ⟨u84, g85, hf⟩ := Option.bind_eq_some_iff.mp hf
              try dsimp only at hf
              refine ct_call (va_runV (As := [.int ((va_up (va_up (va_up (va_up (va_up (va_up (va_up E 0 p0) 1 10201) 2 p1) 3 0) 4 p3) 5 (jrem (101 - p1) 101)) 6 u82) 6), .int ((va_up (va_up (va_up (va_up (va_up (va_up (va_up E 0 p0) 1 10201) 2 p1) 3 0) 4 p3) 5 (jrem (101 - p1) 101)) 6 u82) 6)]) (rest := [.ref (ad 40)]) ⟨hx, hb, hml, hown, hts⟩ (C_X0_times l D tys nw hn hnw hj htI htR (res := u84) g85) (cwV 2 hts gX0_become_X0_times rfl rfl rfl (by decide +kernel) ⟨Nat.le_of_ble_eq_true rfl, Nat.le_of_ble_eq_true rfl⟩) (ct_preV hn hP hK hN (ci := 0) (k := 40) rfl (by decide) rfl) rfl rfl hl.1 rfl (lv_room (Nat.le_of_ble_eq_true rfl)) dX0_become_138 ⟨Nat.zero_le _, Nat.zero_le _⟩) hS (fun H locs hP hS => ?_)
              refine va_put (ci := 0) (v := .int u84) (ty := .int) (C := RX0) (T := TX0) (N := 8) hx hb hts (by decide +kernel) tyX0 tyX0_ok nmX0 hown hK hP (ww_D hj) hS 40 cc_ext rfl 7 (by decide) (hts (.fieldLink RX0 33 "NumberFieldFactors$Extension" "mateOfTSquared" "I") (by decide +kernel)) (fun _ h9 => h9) rfl (by decide +kernel) rfl rfl (Nat.le_of_ble_eq_true rfl) dX0_become_141 (fun H locs hP hD hS => ?_)
              have hP := cs_E7 hP
              refine lv_iconst (v := 1) hx hb dX0_become_144 (by decide) ?_
              obtain rfl := Option.some.inj hf
              exact W.zret (v := 1) (ty := .boolean) hx hb hr (by decide) (fun t ht hW => ⟨rfl, by rw [ht]; exact hP, hS.F ht⟩) hS.2.2 dX0_become_145
        · rw [if_pos c66] at hf
          refine lv_bipush (v := 101) hx hb dX0_become_55 (by decide) ?_
          refine lv_goto (tgt := 73) hx hb dX0_become_57 (by decide) ?_
          refine va_put (ci := 0) (v := .int 101) (ty := .int) (C := RX0) (T := TX0) (N := 8) hx hb hts (by decide +kernel) tyX0 tyX0_ok nmX0 hown hK hP (ww_D hj) hS 40 cc_ext rfl 1 (by decide) (hts (.fieldLink RX0 15 "NumberFieldFactors$Extension" "size" "I") (by decide +kernel)) (fun _ h9 => h9) rfl (by decide +kernel) rfl rfl (Nat.le_of_ble_eq_true rfl) dX0_become_73 (fun H locs hP hD hS => ?_)
          have hP := cs_E1 hP
          refine lv_aload_n hx hb dX0_become_76 rfl (lv_at hl 2 rfl) ?_
          refine lv_iload_n hx hb dX0_become_77 rfl (lv_at hl 4 rfl) ?_
          refine va_put (ci := 0) (v := .int p1) (ty := .int) (C := RX0) (T := TX0) (N := 8) hx hb hts (by decide +kernel) tyX0 tyX0_ok nmX0 hown hK hP (ww_D hj) hS 40 cc_ext rfl 2 (by decide) (hts (.fieldLink RX0 18 "NumberFieldFactors$Extension" "low0" "I") (by decide +kernel)) (fun _ h9 => h9) rfl (by decide +kernel) rfl rfl (Nat.le_of_ble_eq_true rfl) dX0_become_78 (fun H locs hP hD hS => ?_)
          have hP := cs_E2 hP
          refine lv_aload_n hx hb dX0_become_81 rfl (lv_at hl 2 rfl) ?_
          refine lv_iload hx hb dX0_become_82 (lv_at hl 1 rfl) ?_
          refine va_put (ci := 0) (v := .int 0) (ty := .int) (C := RX0) (T := TX0) (N := 8) hx hb hts (by decide +kernel) tyX0 tyX0_ok nmX0 hown hK hP (ww_D hj) hS 40 cc_ext rfl 3 (by decide) (hts (.fieldLink RX0 21 "NumberFieldFactors$Extension" "low1" "I") (by decide +kernel)) (fun _ h9 => h9) rfl (by decide +kernel) rfl rfl (Nat.le_of_ble_eq_true rfl) dX0_become_84 (fun H locs hP hD hS => ?_)
          have hP := cs_E3 hP
          refine lv_aload_n hx hb dX0_become_87 rfl (lv_at hl 2 rfl) ?_
          refine lv_iload hx hb dX0_become_88 (lv_at hl 0 rfl) ?_
          refine va_put (ci := 0) (v := .int p3) (ty := .int) (C := RX0) (T := TX0) (N := 8) hx hb hts (by decide +kernel) tyX0 tyX0_ok nmX0 hown hK hP (ww_D hj) hS 40 cc_ext rfl 4 (by decide) (hts (.fieldLink RX0 24 "NumberFieldFactors$Extension" "low2" "I") (by decide +kernel)) (fun _ h9 => h9) rfl (by decide +kernel) rfl rfl (Nat.le_of_ble_eq_true rfl) dX0_become_90 (fun H locs hP hD hS => ?_)
          have hP := cs_E4 hP
          refine lv_aload_n hx hb dX0_become_93 rfl (lv_at hl 2 rfl) ?_
          refine lv_iload_n hx hb dX0_become_94 rfl (lv_at hl 3 rfl) ?_
          refine lv_iconst (v := 1) hx hb dX0_become_95 (by decide) ?_
          refine lv_icmp_ne (tgt := 109) hx hb dX0_become_96 (by decide) (fun c86 => ?_) (fun c86 => ?_)
          · rw [if_neg c86] at hf
            refine lv_bipush (v := 101) hx hb dX0_become_109 (by decide) ?_
            refine va_put (ci := 0) (v := .int 101) (ty := .int) (C := RX0) (T := TX0) (N := 8) hx hb hts (by decide +kernel) tyX0 tyX0_ok nmX0 hown hK hP (ww_D hj) hS 40 cc_ext rfl 5 (by decide) (hts (.fieldLink RX0 27 "NumberFieldFactors$Extension" "t" "I") (by decide +kernel)) (fun _ h9 => h9) rfl (by decide +kernel) rfl rfl (Nat.le_of_ble_eq_true rfl) dX0_become_111 (fun H locs hP hD hS => ?_)
            have hP := cs_E5 hP
            refine lv_aload_n hx hb dX0_become_114 rfl (lv_at hl 2 rfl) ?_
            refine lv_aload_n hx hb dX0_become_115 rfl (lv_at hl 2 rfl) ?_
            refine lv_aload_n hx hb dX0_become_116 rfl (lv_at hl 2 rfl) ?_
            refine va_get (ci := 0) (v := .int ((va_up (va_up (va_up (va_up (va_up (va_up E 0 p0) 1 101) 2 p1) 3 0) 4 p3) 5 101) 5)) (C := RX0) (T := TX0) (N := 8) hx hb hts (by decide +kernel) hown hK hP 40 cc_ext rfl 5 (by decide) (hts (.fieldLink RX0 27 "NumberFieldFactors$Extension" "t" "I") (by decide +kernel)) (fun _ h9 => h9) rfl dX0_become_117 ?_
            refine lv_bipush (v := 101) hx hb dX0_become_120 (by decide) ?_
            obtain ⟨u87, g88, hf⟩ := Option.bind_eq_some_iff.mp hf
            try dsimp only at hf
            refine ct_call (va_runV (As := [.int ((va_up (va_up (va_up (va_up (va_up (va_up E 0 p0) 1 101) 2 p1) 3 0) 4 p3) 5 101) 5), .int 101]) (rest := [.ref (ad 40)]) ⟨hx, hb, hml, hown, hts⟩ (C_X0_power l D tys nw hn hnw hj htI htR (res := u87) g88) (cwV 2 hts gX0_become_X0_power rfl rfl rfl (by decide +kernel) ⟨Nat.le_of_ble_eq_true rfl, Nat.le_of_ble_eq_true rfl⟩) (ct_preV hn hP hK hN (ci := 0) (k := 40) rfl (by decide) rfl) rfl rfl hl.1 rfl (lv_room (Nat.le_of_ble_eq_true rfl)) dX0_become_122 ⟨Nat.zero_le _, Nat.zero_le _⟩) hS (fun H locs hP hS => ?_)
            refine va_put (ci := 0) (v := .int u87) (ty := .int) (C := RX0) (T := TX0) (N := 8) hx hb hts (by decide +kernel) tyX0 tyX0_ok nmX0 hown hK hP (ww_D hj) hS 40 cc_ext rfl 6 (by decide) (hts (.fieldLink RX0 30 "NumberFieldFactors$Extension" "mateOfT" "I") (by decide +kernel)) (fun _ h9 => h9) rfl (by decide +kernel) rfl rfl (Nat.le_of_ble_eq_true rfl) dX0_become_125 (fun H locs hP hD hS => ?_)
            have hP := cs_E6 hP
            refine lv_aload_n hx hb dX0_become_128 rfl (lv_at hl 2 rfl) ?_
            refine lv_aload_n hx hb dX0_become_129 rfl (lv_at hl 2 rfl) ?_
            refine lv_aload_n hx hb dX0_become_130 rfl (lv_at hl 2 rfl) ?_
            refine va_get (ci := 0) (v := .int ((va_up (va_up (va_up (va_up (va_up (va_up (va_up E 0 p0) 1 101) 2 p1) 3 0) 4 p3) 5 101) 6 u87) 6)) (C := RX0) (T := TX0) (N := 8) hx hb hts (by decide +kernel) hown hK hP 40 cc_ext rfl 6 (by decide) (hts (.fieldLink RX0 30 "NumberFieldFactors$Extension" "mateOfT" "I") (by decide +kernel)) (fun _ h9 => h9) rfl dX0_become_131 ?_
            refine lv_aload_n hx hb dX0_become_134 rfl (lv_at hl 2 rfl) ?_
            refine va_get (ci := 0) (v := .int ((va_up (va_up (va_up (va_up (va_up (va_up (va_up E 0 p0) 1 101) 2 p1) 3 0) 4 p3) 5 101) 6 u87) 6)) (C := RX0) (T := TX0) (N := 8) hx hb hts (by decide +kernel) hown hK hP 40 cc_ext rfl 6 (by decide) (hts (.fieldLink RX0 30 "NumberFieldFactors$Extension" "mateOfT" "I") (by decide +kernel)) (fun _ h9 => h9) rfl dX0_become_135 ?_
            obtain ⟨u89, g90, hf⟩ := Option.bind_eq_some_iff.mp hf
            try dsimp only at hf
            refine ct_call (va_runV (As := [.int ((va_up (va_up (va_up (va_up (va_up (va_up (va_up E 0 p0) 1 101) 2 p1) 3 0) 4 p3) 5 101) 6 u87) 6), .int ((va_up (va_up (va_up (va_up (va_up (va_up (va_up E 0 p0) 1 101) 2 p1) 3 0) 4 p3) 5 101) 6 u87) 6)]) (rest := [.ref (ad 40)]) ⟨hx, hb, hml, hown, hts⟩ (C_X0_times l D tys nw hn hnw hj htI htR (res := u89) g90) (cwV 2 hts gX0_become_X0_times rfl rfl rfl (by decide +kernel) ⟨Nat.le_of_ble_eq_true rfl, Nat.le_of_ble_eq_true rfl⟩) (ct_preV hn hP hK hN (ci := 0) (k := 40) rfl (by decide) rfl) rfl rfl hl.1 rfl (lv_room (Nat.le_of_ble_eq_true rfl)) dX0_become_138 ⟨Nat.zero_le _, Nat.zero_le _⟩) hS (fun H locs hP hS => ?_)
            refine va_put (ci := 0) (v := .int u89) (ty := .int) (C := RX0) (T := TX0) (N := 8) hx hb hts (by decide +kernel) tyX0 tyX0_ok nmX0 hown hK hP (ww_D hj) hS 40 cc_ext rfl 7 (by decide) (hts (.fieldLink RX0 33 "NumberFieldFactors$Extension" "mateOfTSquared" "I") (by decide +kernel)) (fun _ h9 => h9) rfl (by decide +kernel) rfl rfl (Nat.le_of_ble_eq_true rfl) dX0_become_141 (fun H locs hP hD hS => ?_)
            have hP := cs_E7 hP
            refine lv_iconst (v := 1) hx hb dX0_become_144 (by decide) ?_
            obtain rfl := Option.some.inj hf
            exact W.zret (v := 1) (ty := .boolean) hx hb hr (by decide) (fun t ht hW => ⟨rfl, by rw [ht]; exact hP, hS.F ht⟩) hS.2.2 dX0_become_145
          · rw [if_pos c86] at hf
            refine lv_bipush (v := 101) hx hb dX0_become_99 (by decide) ?_
            refine lv_iload_n hx hb dX0_become_101 rfl (lv_at hl 4 rfl) ?_
            refine lv_isub hx hb dX0_become_102 ?_
            refine lv_bipush (v := 101) hx hb dX0_become_103 (by decide) ?_
            refine jv_irem hx hb dX0_become_105 (by decide) ?_
            refine lv_goto (tgt := 111) hx hb dX0_become_106 (by decide) ?_
            refine va_put (ci := 0) (v := .int (jrem (101 - p1) 101)) (ty := .int) (C := RX0) (T := TX0) (N := 8) hx hb hts (by decide +kernel) tyX0 tyX0_ok nmX0 hown hK hP (ww_D hj) hS 40 cc_ext rfl 5 (by decide) (hts (.fieldLink RX0 27 "NumberFieldFactors$Extension" "t" "I") (by decide +kernel)) (fun _ h9 => h9) rfl (by decide +kernel) rfl rfl (Nat.le_of_ble_eq_true rfl) dX0_become_111 (fun H locs hP hD hS => ?_)
            have hP := cs_E5 hP
            refine lv_aload_n hx hb dX0_become_114 rfl (lv_at hl 2 rfl) ?_
            refine lv_aload_n hx hb dX0_become_115 rfl (lv_at hl 2 rfl) ?_
            refine lv_aload_n hx hb dX0_become_116 rfl (lv_at hl 2 rfl) ?_
            refine va_get (ci := 0) (v := .int ((va_up (va_up (va_up (va_up (va_up (va_up E 0 p0) 1 101) 2 p1) 3 0) 4 p3) 5 (jrem (101 - p1) 101)) 5)) (C := RX0) (T := TX0) (N := 8) hx hb hts (by decide +kernel) hown hK hP 40 cc_ext rfl 5 (by decide) (hts (.fieldLink RX0 27 "NumberFieldFactors$Extension" "t" "I") (by decide +kernel)) (fun _ h9 => h9) rfl dX0_become_117 ?_
            refine lv_bipush (v := 101) hx hb dX0_become_120 (by decide) ?_
            obtain ⟨u91, g92, hf⟩ := Option.bind_eq_some_iff.mp hf
            try dsimp only at hf
            refine ct_call (va_runV (As := [.int ((va_up (va_up (va_up (va_up (va_up (va_up E 0 p0) 1 101) 2 p1) 3 0) 4 p3) 5 (jrem (101 - p1) 101)) 5), .int 101]) (rest := [.ref (ad 40)]) ⟨hx, hb, hml, hown, hts⟩ (C_X0_power l D tys nw hn hnw hj htI htR (res := u91) g92) (cwV 2 hts gX0_become_X0_power rfl rfl rfl (by decide +kernel) ⟨Nat.le_of_ble_eq_true rfl, Nat.le_of_ble_eq_true rfl⟩) (ct_preV hn hP hK hN (ci := 0) (k := 40) rfl (by decide) rfl) rfl rfl hl.1 rfl (lv_room (Nat.le_of_ble_eq_true rfl)) dX0_become_122 ⟨Nat.zero_le _, Nat.zero_le _⟩) hS (fun H locs hP hS => ?_)
            refine va_put (ci := 0) (v := .int u91) (ty := .int) (C := RX0) (T := TX0) (N := 8) hx hb hts (by decide +kernel) tyX0 tyX0_ok nmX0 hown hK hP (ww_D hj) hS 40 cc_ext rfl 6 (by decide) (hts (.fieldLink RX0 30 "NumberFieldFactors$Extension" "mateOfT" "I") (by decide +kernel)) (fun _ h9 => h9) rfl (by decide +kernel) rfl rfl (Nat.le_of_ble_eq_true rfl) dX0_become_125 (fun H locs hP hD hS => ?_)
            have hP := cs_E6 hP
            refine lv_aload_n hx hb dX0_become_128 rfl (lv_at hl 2 rfl) ?_
            refine lv_aload_n hx hb dX0_become_129 rfl (lv_at hl 2 rfl) ?_
            refine lv_aload_n hx hb dX0_become_130 rfl (lv_at hl 2 rfl) ?_
            refine va_get (ci := 0) (v := .int ((va_up (va_up (va_up (va_up (va_up (va_up (va_up E 0 p0) 1 101) 2 p1) 3 0) 4 p3) 5 (jrem (101 - p1) 101)) 6 u91) 6)) (C := RX0) (T := TX0) (N := 8) hx hb hts (by decide +kernel) hown hK hP 40 cc_ext rfl 6 (by decide) (hts (.fieldLink RX0 30 "NumberFieldFactors$Extension" "mateOfT" "I") (by decide +kernel)) (fun _ h9 => h9) rfl dX0_become_131 ?_
            refine lv_aload_n hx hb dX0_become_134 rfl (lv_at hl 2 rfl) ?_
            refine va_get (ci := 0) (v := .int ((va_up (va_up (va_up (va_up (va_up (va_up (va_up E 0 p0) 1 101) 2 p1) 3 0) 4 p3) 5 (jrem (101 - p1) 101)) 6 u91) 6)) (C := RX0) (T := TX0) (N := 8) hx hb hts (by decide +kernel) hown hK hP 40 cc_ext rfl 6 (by decide) (hts (.fieldLink RX0 30 "NumberFieldFactors$Extension" "mateOfT" "I") (by decide +kernel)) (fun _ h9 => h9) rfl dX0_become_135 ?_
            obtain ⟨u93, g94, hf⟩ := Option.bind_eq_some_iff.mp hf
            try dsimp only at hf
            refine ct_call (va_runV (As := [.int ((va_up (va_up (va_up (va_up (va_up (va_up (va_up E 0 p0) 1 101) 2 p1) 3 0) 4 p3) 5 (jrem (101 - p1) 101)) 6 u91) 6), .int ((va_up (va_up (va_up (va_up (va_up (va_up (va_up E 0 p0) 1 101) 2 p1) 3 0) 4 p3) 5 (jrem (101 - p1) 101)) 6 u91) 6)]) (rest := [.ref (ad 40)]) ⟨hx, hb, hml, hown, hts⟩ (C_X0_times l D tys nw hn hnw hj htI htR (res := u93) g94) (cwV 2 hts gX0_become_X0_times rfl rfl rfl (by decide +kernel) ⟨Nat.le_of_ble_eq_true rfl, Nat.le_of_ble_eq_true rfl⟩) (ct_preV hn hP hK hN (ci := 0) (k := 40) rfl (by decide) rfl) rfl rfl hl.1 rfl (lv_room (Nat.le_of_ble_eq_true rfl)) dX0_become_138 ⟨Nat.zero_le _, Nat.zero_le _⟩) hS (fun H locs hP hS => ?_)
            refine va_put (ci := 0) (v := .int u93) (ty := .int) (C := RX0) (T := TX0) (N := 8) hx hb hts (by decide +kernel) tyX0 tyX0_ok nmX0 hown hK hP (ww_D hj) hS 40 cc_ext rfl 7 (by decide) (hts (.fieldLink RX0 33 "NumberFieldFactors$Extension" "mateOfTSquared" "I") (by decide +kernel)) (fun _ h9 => h9) rfl (by decide +kernel) rfl rfl (Nat.le_of_ble_eq_true rfl) dX0_become_141 (fun H locs hP hD hS => ?_)
            have hP := cs_E7 hP
            refine lv_iconst (v := 1) hx hb dX0_become_144 (by decide) ?_
            obtain rfl := Option.some.inj hf
            exact W.zret (v := 1) (ty := .boolean) hx hb hr (by decide) (fun t ht hW => ⟨rfl, by rw [ht]; exact hP, hS.F ht⟩) hS.2.2 dX0_become_145
      · rw [if_neg c65] at hf
        refine lv_iload_n hx hb dX0_become_30 rfl (lv_at hl 3 rfl) ?_
        refine lv_iload_n hx hb dX0_become_31 rfl (lv_at hl 4 rfl) ?_
        refine lv_iload hx hb dX0_become_32 (lv_at hl 1 rfl) ?_
        refine lv_iload hx hb dX0_become_34 (lv_at hl 0 rfl) ?_
        obtain ⟨u95, g96, hf⟩ := Option.bind_eq_some_iff.mp hf
        try dsimp only at hf
        refine ct_call (va_runS (As := [.int p0, .int p1, .int 0, .int p3]) (rest := []) ⟨hx, hb, hml, hown, hts⟩ (C_X0_hasRoot l D tys nw hn hnw hj htI htR (res := u95) g96) (cwS 4 hts gX0_become_X0_hasRoot rfl rfl rfl (by decide +kernel) ⟨Nat.le_of_ble_eq_true rfl, Nat.le_of_ble_eq_true rfl⟩) (ct_preS hn hP hK hN) rfl rfl hl.1 rfl (lv_room (Nat.le_of_ble_eq_true rfl)) dX0_become_36 ⟨Nat.zero_le _, Nat.zero_le _⟩) hS (fun H locs hP hS => ?_)
        refine lv_if_eq (tgt := 44) hx hb dX0_become_39 (by decide) (fun c97 => ?_) (fun c97 => ?_)
        · rw [if_pos c97] at hf
          refine lv_aload_n hx hb dX0_become_44 rfl (lv_at hl 2 rfl) ?_
          refine lv_iload_n hx hb dX0_become_45 rfl (lv_at hl 3 rfl) ?_
          refine va_put (ci := 0) (v := .int p0) (ty := .int) (C := RX0) (T := TX0) (N := 8) hx hb hts (by decide +kernel) tyX0 tyX0_ok nmX0 hown hK hP (ww_D hj) hS 40 cc_ext rfl 0 (by decide) (hts (.fieldLink RX0 9 "NumberFieldFactors$Extension" "degree" "I") (by decide +kernel)) (fun _ h9 => h9) rfl (by decide +kernel) rfl rfl (Nat.le_of_ble_eq_true rfl) dX0_become_46 (fun H locs hP hD hS => ?_)
          have hP := cs_E0 hP
          refine lv_aload_n hx hb dX0_become_49 rfl (lv_at hl 2 rfl) ?_
          refine lv_iload_n hx hb dX0_become_50 rfl (lv_at hl 3 rfl) ?_
          refine lv_iconst (v := 1) hx hb dX0_become_51 (by decide) ?_
          refine lv_icmp_ne (tgt := 60) hx hb dX0_become_52 (by decide) (fun c98 => ?_) (fun c98 => ?_)
          · rw [if_neg c98] at hf
            refine lv_iload_n hx hb dX0_become_60 rfl (lv_at hl 3 rfl) ?_
            refine lv_iconst (v := 2) hx hb dX0_become_61 (by decide) ?_
            refine lv_icmp_ne (tgt := 71) hx hb dX0_become_62 (by decide) (fun c99 => ?_) (fun c99 => ?_)
            · rw [if_neg c99] at hf
              refine lv_ldc (v := 1030301) hx hb hown (hts (.constant RX0 40 (1030301)) (by decide +kernel)) dX0_become_71 ?_
              refine va_put (ci := 0) (v := .int 1030301) (ty := .int) (C := RX0) (T := TX0) (N := 8) hx hb hts (by decide +kernel) tyX0 tyX0_ok nmX0 hown hK hP (ww_D hj) hS 40 cc_ext rfl 1 (by decide) (hts (.fieldLink RX0 15 "NumberFieldFactors$Extension" "size" "I") (by decide +kernel)) (fun _ h9 => h9) rfl (by decide +kernel) rfl rfl (Nat.le_of_ble_eq_true rfl) dX0_become_73 (fun H locs hP hD hS => ?_)
              have hP := cs_E1 hP
              refine lv_aload_n hx hb dX0_become_76 rfl (lv_at hl 2 rfl) ?_
              refine lv_iload_n hx hb dX0_become_77 rfl (lv_at hl 4 rfl) ?_
              refine va_put (ci := 0) (v := .int p1) (ty := .int) (C := RX0) (T := TX0) (N := 8) hx hb hts (by decide +kernel) tyX0 tyX0_ok nmX0 hown hK hP (ww_D hj) hS 40 cc_ext rfl 2 (by decide) (hts (.fieldLink RX0 18 "NumberFieldFactors$Extension" "low0" "I") (by decide +kernel)) (fun _ h9 => h9) rfl (by decide +kernel) rfl rfl (Nat.le_of_ble_eq_true rfl) dX0_become_78 (fun H locs hP hD hS => ?_)
              have hP := cs_E2 hP
              refine lv_aload_n hx hb dX0_become_81 rfl (lv_at hl 2 rfl) ?_
              refine lv_iload hx hb dX0_become_82 (lv_at hl 1 rfl) ?_
              refine va_put (ci := 0) (v := .int 0) (ty := .int) (C := RX0) (T := TX0) (N := 8) hx hb hts (by decide +kernel) tyX0 tyX0_ok nmX0 hown hK hP (ww_D hj) hS 40 cc_ext rfl 3 (by decide) (hts (.fieldLink RX0 21 "NumberFieldFactors$Extension" "low1" "I") (by decide +kernel)) (fun _ h9 => h9) rfl (by decide +kernel) rfl rfl (Nat.le_of_ble_eq_true rfl) dX0_become_84 (fun H locs hP hD hS => ?_)
              have hP := cs_E3 hP
              refine lv_aload_n hx hb dX0_become_87 rfl (lv_at hl 2 rfl) ?_
              refine lv_iload hx hb dX0_become_88 (lv_at hl 0 rfl) ?_
              refine va_put (ci := 0) (v := .int p3) (ty := .int) (C := RX0) (T := TX0) (N := 8) hx hb hts (by decide +kernel) tyX0 tyX0_ok nmX0 hown hK hP (ww_D hj) hS 40 cc_ext rfl 4 (by decide) (hts (.fieldLink RX0 24 "NumberFieldFactors$Extension" "low2" "I") (by decide +kernel)) (fun _ h9 => h9) rfl (by decide +kernel) rfl rfl (Nat.le_of_ble_eq_true rfl) dX0_become_90 (fun H locs hP hD hS => ?_)
              have hP := cs_E4 hP
              refine lv_aload_n hx hb dX0_become_93 rfl (lv_at hl 2 rfl) ?_
              refine lv_iload_n hx hb dX0_become_94 rfl (lv_at hl 3 rfl) ?_
              refine lv_iconst (v := 1) hx hb dX0_become_95 (by decide) ?_
              refine lv_icmp_ne (tgt := 109) hx hb dX0_become_96 (by decide) (fun c100 => ?_) (fun c100 => ?_)
              · rw [if_neg c100] at hf
                refine lv_bipush (v := 101) hx hb dX0_become_109 (by decide) ?_
                refine va_put (ci := 0) (v := .int 101) (ty := .int) (C := RX0) (T := TX0) (N := 8) hx hb hts (by decide +kernel) tyX0 tyX0_ok nmX0 hown hK hP (ww_D hj) hS 40 cc_ext rfl 5 (by decide) (hts (.fieldLink RX0 27 "NumberFieldFactors$Extension" "t" "I") (by decide +kernel)) (fun _ h9 => h9) rfl (by decide +kernel) rfl rfl (Nat.le_of_ble_eq_true rfl) dX0_become_111 (fun H locs hP hD hS => ?_)
                have hP := cs_E5 hP
                refine lv_aload_n hx hb dX0_become_114 rfl (lv_at hl 2 rfl) ?_
                refine lv_aload_n hx hb dX0_become_115 rfl (lv_at hl 2 rfl) ?_
                refine lv_aload_n hx hb dX0_become_116 rfl (lv_at hl 2 rfl) ?_
                refine va_get (ci := 0) (v := .int ((va_up (va_up (va_up (va_up (va_up (va_up E 0 p0) 1 1030301) 2 p1) 3 0) 4 p3) 5 101) 5)) (C := RX0) (T := TX0) (N := 8) hx hb hts (by decide +kernel) hown hK hP 40 cc_ext rfl 5 (by decide) (hts (.fieldLink RX0 27 "NumberFieldFactors$Extension" "t" "I") (by decide +kernel)) (fun _ h9 => h9) rfl dX0_become_117 ?_
                refine lv_bipush (v := 101) hx hb dX0_become_120 (by decide) ?_
                obtain ⟨u101, g102, hf⟩ := Option.bind_eq_some_iff.mp hf
                try dsimp only at hf
                refine ct_call (va_runV (As := [.int ((va_up (va_up (va_up (va_up (va_up (va_up E 0 p0) 1 1030301) 2 p1) 3 0) 4 p3) 5 101) 5), .int 101]) (rest := [.ref (ad 40)]) ⟨hx, hb, hml, hown, hts⟩ (C_X0_power l D tys nw hn hnw hj htI htR (res := u101) g102) (cwV 2 hts gX0_become_X0_power rfl rfl rfl (by decide +kernel) ⟨Nat.le_of_ble_eq_true rfl, Nat.le_of_ble_eq_true rfl⟩) (ct_preV hn hP hK hN (ci := 0) (k := 40) rfl (by decide) rfl) rfl rfl hl.1 rfl (lv_room (Nat.le_of_ble_eq_true rfl)) dX0_become_122 ⟨Nat.zero_le _, Nat.zero_le _⟩) hS (fun H locs hP hS => ?_)
                refine va_put (ci := 0) (v := .int u101) (ty := .int) (C := RX0) (T := TX0) (N := 8) hx hb hts (by decide +kernel) tyX0 tyX0_ok nmX0 hown hK hP (ww_D hj) hS 40 cc_ext rfl 6 (by decide) (hts (.fieldLink RX0 30 "NumberFieldFactors$Extension" "mateOfT" "I") (by decide +kernel)) (fun _ h9 => h9) rfl (by decide +kernel) rfl rfl (Nat.le_of_ble_eq_true rfl) dX0_become_125 (fun H locs hP hD hS => ?_)
                have hP := cs_E6 hP
                refine lv_aload_n hx hb dX0_become_128 rfl (lv_at hl 2 rfl) ?_
                refine lv_aload_n hx hb dX0_become_129 rfl (lv_at hl 2 rfl) ?_
                refine lv_aload_n hx hb dX0_become_130 rfl (lv_at hl 2 rfl) ?_
                refine va_get (ci := 0) (v := .int ((va_up (va_up (va_up (va_up (va_up (va_up (va_up E 0 p0) 1 1030301) 2 p1) 3 0) 4 p3) 5 101) 6 u101) 6)) (C := RX0) (T := TX0) (N := 8) hx hb hts (by decide +kernel) hown hK hP 40 cc_ext rfl 6 (by decide) (hts (.fieldLink RX0 30 "NumberFieldFactors$Extension" "mateOfT" "I") (by decide +kernel)) (fun _ h9 => h9) rfl dX0_become_131 ?_
                refine lv_aload_n hx hb dX0_become_134 rfl (lv_at hl 2 rfl) ?_
                refine va_get (ci := 0) (v := .int ((va_up (va_up (va_up (va_up (va_up (va_up (va_up E 0 p0) 1 1030301) 2 p1) 3 0) 4 p3) 5 101) 6 u101) 6)) (C := RX0) (T := TX0) (N := 8) hx hb hts (by decide +kernel) hown hK hP 40 cc_ext rfl 6 (by decide) (hts (.fieldLink RX0 30 "NumberFieldFactors$Extension" "mateOfT" "I") (by decide +kernel)) (fun _ h9 => h9) rfl dX0_become_135 ?_
                obtain ⟨u103, g104, hf⟩ := Option.bind_eq_some_iff.mp hf
                try dsimp only at hf
                refine ct_call (va_runV (As := [.int ((va_up (va_up (va_up (va_up (va_up (va_up (va_up E 0 p0) 1 1030301) 2 p1) 3 0) 4 p3) 5 101) 6 u101) 6), .int ((va_up (va_up (va_up (va_up (va_up (va_up (va_up E 0 p0) 1 1030301) 2 p1) 3 0) 4 p3) 5 101) 6 u101) 6)]) (rest := [.ref (ad 40)]) ⟨hx, hb, hml, hown, hts⟩ (C_X0_times l D tys nw hn hnw hj htI htR (res := u103) g104) (cwV 2 hts gX0_become_X0_times rfl rfl rfl (by decide +kernel) ⟨Nat.le_of_ble_eq_true rfl, Nat.le_of_ble_eq_true rfl⟩) (ct_preV hn hP hK hN (ci := 0) (k := 40) rfl (by decide) rfl) rfl rfl hl.1 rfl (lv_room (Nat.le_of_ble_eq_true rfl)) dX0_become_138 ⟨Nat.zero_le _, Nat.zero_le _⟩) hS (fun H locs hP hS => ?_)
                refine va_put (ci := 0) (v := .int u103) (ty := .int) (C := RX0) (T := TX0) (N := 8) hx hb hts (by decide +kernel) tyX0 tyX0_ok nmX0 hown hK hP (ww_D hj) hS 40 cc_ext rfl 7 (by decide) (hts (.fieldLink RX0 33 "NumberFieldFactors$Extension" "mateOfTSquared" "I") (by decide +kernel)) (fun _ h9 => h9) rfl (by decide +kernel) rfl rfl (Nat.le_of_ble_eq_true rfl) dX0_become_141 (fun H locs hP hD hS => ?_)
                have hP := cs_E7 hP
                refine lv_iconst (v := 1) hx hb dX0_become_144 (by decide) ?_
                obtain rfl := Option.some.inj hf
                exact W.zret (v := 1) (ty := .boolean) hx hb hr (by decide) (fun t ht hW => ⟨rfl, by rw [ht]; exact hP, hS.F ht⟩) hS.2.2 dX0_become_145
              · rw [if_pos c100] at hf
                refine lv_bipush (v := 101) hx hb dX0_become_99 (by decide) ?_
                refine lv_iload_n hx hb dX0_become_101 rfl (lv_at hl 4 rfl) ?_
                refine lv_isub hx hb dX0_become_102 ?_
                refine lv_bipush (v := 101) hx hb dX0_become_103 (by decide) ?_
                refine jv_irem hx hb dX0_become_105 (by decide) ?_
                refine lv_goto (tgt := 111) hx hb dX0_become_106 (by decide) ?_
                refine va_put (ci := 0) (v := .int (jrem (101 - p1) 101)) (ty := .int) (C := RX0) (T := TX0) (N := 8) hx hb hts (by decide +kernel) tyX0 tyX0_ok nmX0 hown hK hP (ww_D hj) hS 40 cc_ext rfl 5 (by decide) (hts (.fieldLink RX0 27 "NumberFieldFactors$Extension" "t" "I") (by decide +kernel)) (fun _ h9 => h9) rfl (by decide +kernel) rfl rfl (Nat.le_of_ble_eq_true rfl) dX0_become_111 (fun H locs hP hD hS => ?_)
                have hP := cs_E5 hP
                refine lv_aload_n hx hb dX0_become_114 rfl (lv_at hl 2 rfl) ?_
                refine lv_aload_n hx hb dX0_become_115 rfl (lv_at hl 2 rfl) ?_
                refine lv_aload_n hx hb dX0_become_116 rfl (lv_at hl 2 rfl) ?_
                refine va_get (ci := 0) (v := .int ((va_up (va_up (va_up (va_up (va_up (va_up E 0 p0) 1 1030301) 2 p1) 3 0) 4 p3) 5 (jrem (101 - p1) 101)) 5)) (C := RX0) (T := TX0) (N := 8) hx hb hts (by decide +kernel) hown hK hP 40 cc_ext rfl 5 (by decide) (hts (.fieldLink RX0 27 "NumberFieldFactors$Extension" "t" "I") (by decide +kernel)) (fun _ h9 => h9) rfl dX0_become_117 ?_
                refine lv_bipush (v := 101) hx hb dX0_become_120 (by decide) ?_
                obtain ⟨u105, g106, hf⟩ := Option.bind_eq_some_iff.mp hf
                try dsimp only at hf
                refine ct_call (va_runV (As := [.int ((va_up (va_up (va_up (va_up (va_up (va_up E 0 p0) 1 1030301) 2 p1) 3 0) 4 p3) 5 (jrem (101 - p1) 101)) 5), .int 101]) (rest := [.ref (ad 40)]) ⟨hx, hb, hml, hown, hts⟩ (C_X0_power l D tys nw hn hnw hj htI htR (res := u105) g106) (cwV 2 hts gX0_become_X0_power rfl rfl rfl (by decide +kernel) ⟨Nat.le_of_ble_eq_true rfl, Nat.le_of_ble_eq_true rfl⟩) (ct_preV hn hP hK hN (ci := 0) (k := 40) rfl (by decide) rfl) rfl rfl hl.1 rfl (lv_room (Nat.le_of_ble_eq_true rfl)) dX0_become_122 ⟨Nat.zero_le _, Nat.zero_le _⟩) hS (fun H locs hP hS => ?_)
                refine va_put (ci := 0) (v := .int u105) (ty := .int) (C := RX0) (T := TX0) (N := 8) hx hb hts (by decide +kernel) tyX0 tyX0_ok nmX0 hown hK hP (ww_D hj) hS 40 cc_ext rfl 6 (by decide) (hts (.fieldLink RX0 30 "NumberFieldFactors$Extension" "mateOfT" "I") (by decide +kernel)) (fun _ h9 => h9) rfl (by decide +kernel) rfl rfl (Nat.le_of_ble_eq_true rfl) dX0_become_125 (fun H locs hP hD hS => ?_)
                have hP := cs_E6 hP
                refine lv_aload_n hx hb dX0_become_128 rfl (lv_at hl 2 rfl) ?_
                refine lv_aload_n hx hb dX0_become_129 rfl (lv_at hl 2 rfl) ?_
                refine lv_aload_n hx hb dX0_become_130 rfl (lv_at hl 2 rfl) ?_
                refine va_get (ci := 0) (v := .int ((va_up (va_up (va_up (va_up (va_up (va_up (va_up E 0 p0) 1 1030301) 2 p1) 3 0) 4 p3) 5 (jrem (101 - p1) 101)) 6 u105) 6)) (C := RX0) (T := TX0) (N := 8) hx hb hts (by decide +kernel) hown hK hP 40 cc_ext rfl 6 (by decide) (hts (.fieldLink RX0 30 "NumberFieldFactors$Extension" "mateOfT" "I") (by decide +kernel)) (fun _ h9 => h9) rfl dX0_become_131 ?_
                refine lv_aload_n hx hb dX0_become_134 rfl (lv_at hl 2 rfl) ?_
                refine va_get (ci := 0) (v := .int ((va_up (va_up (va_up (va_up (va_up (va_up (va_up E 0 p0) 1 1030301) 2 p1) 3 0) 4 p3) 5 (jrem (101 - p1) 101)) 6 u105) 6)) (C := RX0) (T := TX0) (N := 8) hx hb hts (by decide +kernel) hown hK hP 40 cc_ext rfl 6 (by decide) (hts (.fieldLink RX0 30 "NumberFieldFactors$Extension" "mateOfT" "I") (by decide +kernel)) (fun _ h9 => h9) rfl dX0_become_135 ?_
                obtain ⟨u107, g108, hf⟩ := Option.bind_eq_some_iff.mp hf
                try dsimp only at hf
                refine ct_call (va_runV (As := [.int ((va_up (va_up (va_up (va_up (va_up (va_up (va_up E 0 p0) 1 1030301) 2 p1) 3 0) 4 p3) 5 (jrem (101 - p1) 101)) 6 u105) 6), .int ((va_up (va_up (va_up (va_up (va_up (va_up (va_up E 0 p0) 1 1030301) 2 p1) 3 0) 4 p3) 5 (jrem (101 - p1) 101)) 6 u105) 6)]) (rest := [.ref (ad 40)]) ⟨hx, hb, hml, hown, hts⟩ (C_X0_times l D tys nw hn hnw hj htI htR (res := u107) g108) (cwV 2 hts gX0_become_X0_times rfl rfl rfl (by decide +kernel) ⟨Nat.le_of_ble_eq_true rfl, Nat.le_of_ble_eq_true rfl⟩) (ct_preV hn hP hK hN (ci := 0) (k := 40) rfl (by decide) rfl) rfl rfl hl.1 rfl (lv_room (Nat.le_of_ble_eq_true rfl)) dX0_become_138 ⟨Nat.zero_le _, Nat.zero_le _⟩) hS (fun H locs hP hS => ?_)
                refine va_put (ci := 0) (v := .int u107) (ty := .int) (C := RX0) (T := TX0) (N := 8) hx hb hts (by decide +kernel) tyX0 tyX0_ok nmX0 hown hK hP (ww_D hj) hS 40 cc_ext rfl 7 (by decide) (hts (.fieldLink RX0 33 "NumberFieldFactors$Extension" "mateOfTSquared" "I") (by decide +kernel)) (fun _ h9 => h9) rfl (by decide +kernel) rfl rfl (Nat.le_of_ble_eq_true rfl) dX0_become_141 (fun H locs hP hD hS => ?_)
                have hP := cs_E7 hP
                refine lv_iconst (v := 1) hx hb dX0_become_144 (by decide) ?_
                obtain rfl := Option.some.inj hf
                exact W.zret (v := 1) (ty := .boolean) hx hb hr (by decide) (fun t ht hW => ⟨rfl, by rw [ht]; exact hP, hS.F ht⟩) hS.2.2 dX0_become_145
            · rw [if_pos c99] at hf
              refine lv_sipush (v := 10201) hx hb dX0_become_65 (by decide) ?_
              refine lv_goto (tgt := 73) hx hb dX0_become_68 (by decide) ?_
              refine va_put (ci := 0) (v := .int 10201) (ty := .int) (C := RX0) (T := TX0) (N := 8) hx hb hts (by decide +kernel) tyX0 tyX0_ok nmX0 hown hK hP (ww_D hj) hS 40 cc_ext rfl 1 (by decide) (hts (.fieldLink RX0 15 "NumberFieldFactors$Extension" "size" "I") (by decide +kernel)) (fun _ h9 => h9) rfl (by decide +kernel) rfl rfl (Nat.le_of_ble_eq_true rfl) dX0_become_73 (fun H locs hP hD hS => ?_)
              have hP := cs_E1 hP
              refine lv_aload_n hx hb dX0_become_76 rfl (lv_at hl 2 rfl) ?_
              refine lv_iload_n hx hb dX0_become_77 rfl (lv_at hl 4 rfl) ?_
              refine va_put (ci := 0) (v := .int p1) (ty := .int) (C := RX0) (T := TX0) (N := 8) hx hb hts (by decide +kernel) tyX0 tyX0_ok nmX0 hown hK hP (ww_D hj) hS 40 cc_ext rfl 2 (by decide) (hts (.fieldLink RX0 18 "NumberFieldFactors$Extension" "low0" "I") (by decide +kernel)) (fun _ h9 => h9) rfl (by decide +kernel) rfl rfl (Nat.le_of_ble_eq_true rfl) dX0_become_78 (fun H locs hP hD hS => ?_)
              have hP := cs_E2 hP
              refine lv_aload_n hx hb dX0_become_81 rfl (lv_at hl 2 rfl) ?_
              refine lv_iload hx hb dX0_become_82 (lv_at hl 1 rfl) ?_
              refine va_put (ci := 0) (v := .int 0) (ty := .int) (C := RX0) (T := TX0) (N := 8) hx hb hts (by decide +kernel) tyX0 tyX0_ok nmX0 hown hK hP (ww_D hj) hS 40 cc_ext rfl 3 (by decide) (hts (.fieldLink RX0 21 "NumberFieldFactors$Extension" "low1" "I") (by decide +kernel)) (fun _ h9 => h9) rfl (by decide +kernel) rfl rfl (Nat.le_of_ble_eq_true rfl) dX0_become_84 (fun H locs hP hD hS => ?_)
              have hP := cs_E3 hP
              refine lv_aload_n hx hb dX0_become_87 rfl (lv_at hl 2 rfl) ?_
              refine lv_iload hx hb dX0_become_88 (lv_at hl 0 rfl) ?_
              refine va_put (ci := 0) (v := .int p3) (ty := .int) (C := RX0) (T := TX0) (N := 8) hx hb hts (by decide +kernel) tyX0 tyX0_ok nmX0 hown hK hP (ww_D hj) hS 40 cc_ext rfl 4 (by decide) (hts (.fieldLink RX0 24 "NumberFieldFactors$Extension" "low2" "I") (by decide +kernel)) (fun _ h9 => h9) rfl (by decide +kernel) rfl rfl (Nat.le_of_ble_eq_true rfl) dX0_become_90 (fun H locs hP hD hS => ?_)
              have hP := cs_E4 hP
              refine lv_aload_n hx hb dX0_become_93 rfl (lv_at hl 2 rfl) ?_
              refine lv_iload_n hx hb dX0_become_94 rfl (lv_at hl 3 rfl) ?_
              refine lv_iconst (v := 1) hx hb dX0_become_95 (by decide) ?_
              refine lv_icmp_ne (tgt := 109) hx hb dX0_become_96 (by decide) (fun c109 => ?_) (fun c109 => ?_)
              · rw [if_neg c109] at hf
                refine lv_bipush (v := 101) hx hb dX0_become_109 (by decide) ?_
                refine va_put (ci := 0) (v := .int 101) (ty := .int) (C := RX0) (T := TX0) (N := 8) hx hb hts (by decide +kernel) tyX0 tyX0_ok nmX0 hown hK hP (ww_D hj) hS 40 cc_ext rfl 5 (by decide) (hts (.fieldLink RX0 27 "NumberFieldFactors$Extension" "t" "I") (by decide +kernel)) (fun _ h9 => h9) rfl (by decide +kernel) rfl rfl (Nat.le_of_ble_eq_true rfl) dX0_become_111 (fun H locs hP hD hS => ?_)
                have hP := cs_E5 hP
                refine lv_aload_n hx hb dX0_become_114 rfl (lv_at hl 2 rfl) ?_
                refine lv_aload_n hx hb dX0_become_115 rfl (lv_at hl 2 rfl) ?_
                refine lv_aload_n hx hb dX0_become_116 rfl (lv_at hl 2 rfl) ?_
                refine va_get (ci := 0) (v := .int ((va_up (va_up (va_up (va_up (va_up (va_up E 0 p0) 1 10201) 2 p1) 3 0) 4 p3) 5 101) 5)) (C := RX0) (T := TX0) (N := 8) hx hb hts (by decide +kernel) hown hK hP 40 cc_ext rfl 5 (by decide) (hts (.fieldLink RX0 27 "NumberFieldFactors$Extension" "t" "I") (by decide +kernel)) (fun _ h9 => h9) rfl dX0_become_117 ?_
                refine lv_bipush (v := 101) hx hb dX0_become_120 (by decide) ?_
                obtain ⟨u110, g111, hf⟩ := Option.bind_eq_some_iff.mp hf
                try dsimp only at hf
                refine ct_call (va_runV (As := [.int ((va_up (va_up (va_up (va_up (va_up (va_up E 0 p0) 1 10201) 2 p1) 3 0) 4 p3) 5 101) 5), .int 101]) (rest := [.ref (ad 40)]) ⟨hx, hb, hml, hown, hts⟩ (C_X0_power l D tys nw hn hnw hj htI htR (res := u110) g111) (cwV 2 hts gX0_become_X0_power rfl rfl rfl (by decide +kernel) ⟨Nat.le_of_ble_eq_true rfl, Nat.le_of_ble_eq_true rfl⟩) (ct_preV hn hP hK hN (ci := 0) (k := 40) rfl (by decide) rfl) rfl rfl hl.1 rfl (lv_room (Nat.le_of_ble_eq_true rfl)) dX0_become_122 ⟨Nat.zero_le _, Nat.zero_le _⟩) hS (fun H locs hP hS => ?_)
                refine va_put (ci := 0) (v := .int u110) (ty := .int) (C := RX0) (T := TX0) (N := 8) hx hb hts (by decide +kernel) tyX0 tyX0_ok nmX0 hown hK hP (ww_D hj) hS 40 cc_ext rfl 6 (by decide) (hts (.fieldLink RX0 30 "NumberFieldFactors$Extension" "mateOfT" "I") (by decide +kernel)) (fun _ h9 => h9) rfl (by decide +kernel) rfl rfl (Nat.le_of_ble_eq_true rfl) dX0_become_125 (fun H locs hP hD hS => ?_)
                have hP := cs_E6 hP
                refine lv_aload_n hx hb dX0_become_128 rfl (lv_at hl 2 rfl) ?_
                refine lv_aload_n hx hb dX0_become_129 rfl (lv_at hl 2 rfl) ?_
                refine lv_aload_n hx hb dX0_become_130 rfl (lv_at hl 2 rfl) ?_
                refine va_get (ci := 0) (v := .int ((va_up (va_up (va_up (va_up (va_up (va_up (va_up E 0 p0) 1 10201) 2 p1) 3 0) 4 p3) 5 101) 6 u110) 6)) (C := RX0) (T := TX0) (N := 8) hx hb hts (by decide +kernel) hown hK hP 40 cc_ext rfl 6 (by decide) (hts (.fieldLink RX0 30 "NumberFieldFactors$Extension" "mateOfT" "I") (by decide +kernel)) (fun _ h9 => h9) rfl dX0_become_131 ?_
                refine lv_aload_n hx hb dX0_become_134 rfl (lv_at hl 2 rfl) ?_
                refine va_get (ci := 0) (v := .int ((va_up (va_up (va_up (va_up (va_up (va_up (va_up E 0 p0) 1 10201) 2 p1) 3 0) 4 p3) 5 101) 6 u110) 6)) (C := RX0) (T := TX0) (N := 8) hx hb hts (by decide +kernel) hown hK hP 40 cc_ext rfl 6 (by decide) (hts (.fieldLink RX0 30 "NumberFieldFactors$Extension" "mateOfT" "I") (by decide +kernel)) (fun _ h9 => h9) rfl dX0_become_135 ?_
                obtain ⟨u112, g113, hf⟩ := Option.bind_eq_some_iff.mp hf
                try dsimp only at hf
                refine ct_call (va_runV (As := [.int ((va_up (va_up (va_up (va_up (va_up (va_up (va_up E 0 p0) 1 10201) 2 p1) 3 0) 4 p3) 5 101) 6 u110) 6), .int ((va_up (va_up (va_up (va_up (va_up (va_up (va_up E 0 p0) 1 10201) 2 p1) 3 0) 4 p3) 5 101) 6 u110) 6)]) (rest := [.ref (ad 40)]) ⟨hx, hb, hml, hown, hts⟩ (C_X0_times l D tys nw hn hnw hj htI htR (res := u112) g113) (cwV 2 hts gX0_become_X0_times rfl rfl rfl (by decide +kernel) ⟨Nat.le_of_ble_eq_true rfl, Nat.le_of_ble_eq_true rfl⟩) (ct_preV hn hP hK hN (ci := 0) (k := 40) rfl (by decide) rfl) rfl rfl hl.1 rfl (lv_room (Nat.le_of_ble_eq_true rfl)) dX0_become_138 ⟨Nat.zero_le _, Nat.zero_le _⟩) hS (fun H locs hP hS => ?_)
                refine va_put (ci := 0) (v := .int u112) (ty := .int) (C := RX0) (T := TX0) (N := 8) hx hb hts (by decide +kernel) tyX0 tyX0_ok nmX0 hown hK hP (ww_D hj) hS 40 cc_ext rfl 7 (by decide) (hts (.fieldLink RX0 33 "NumberFieldFactors$Extension" "mateOfTSquared" "I") (by decide +kernel)) (fun _ h9 => h9) rfl (by decide +kernel) rfl rfl (Nat.le_of_ble_eq_true rfl) dX0_become_141 (fun H locs hP hD hS => ?_)
                have hP := cs_E7 hP
                refine lv_iconst (v := 1) hx hb dX0_become_144 (by decide) ?_
                obtain rfl := Option.some.inj hf
                exact W.zret (v := 1) (ty := .boolean) hx hb hr (by decide) (fun t ht hW => ⟨rfl, by rw [ht]; exact hP, hS.F ht⟩) hS.2.2 dX0_become_145
              · rw [if_pos c109] at hf
                refine lv_bipush (v := 101) hx hb dX0_become_99 (by decide) ?_
                refine lv_iload_n hx hb dX0_become_101 rfl (lv_at hl 4 rfl) ?_
                refine lv_isub hx hb dX0_become_102 ?_
                refine lv_bipush (v := 101) hx hb dX0_become_103 (by decide) ?_
                refine jv_irem hx hb dX0_become_105 (by decide) ?_
                refine lv_goto (tgt := 111) hx hb dX0_become_106 (by decide) ?_
                refine va_put (ci := 0) (v := .int (jrem (101 - p1) 101)) (ty := .int) (C := RX0) (T := TX0) (N := 8) hx hb hts (by decide +kernel) tyX0 tyX0_ok nmX0 hown hK hP (ww_D hj) hS 40 cc_ext rfl 5 (by decide) (hts (.fieldLink RX0 27 "NumberFieldFactors$Extension" "t" "I") (by decide +kernel)) (fun _ h9 => h9) rfl (by decide +kernel) rfl rfl (Nat.le_of_ble_eq_true rfl) dX0_become_111 (fun H locs hP hD hS => ?_)
                have hP := cs_E5 hP
                refine lv_aload_n hx hb dX0_become_114 rfl (lv_at hl 2 rfl) ?_
                refine lv_aload_n hx hb dX0_become_115 rfl (lv_at hl 2 rfl) ?_
                refine lv_aload_n hx hb dX0_become_116 rfl (lv_at hl 2 rfl) ?_
                refine va_get (ci := 0) (v := .int ((va_up (va_up (va_up (va_up (va_up (va_up E 0 p0) 1 10201) 2 p1) 3 0) 4 p3) 5 (jrem (101 - p1) 101)) 5)) (C := RX0) (T := TX0) (N := 8) hx hb hts (by decide +kernel) hown hK hP 40 cc_ext rfl 5 (by decide) (hts (.fieldLink RX0 27 "NumberFieldFactors$Extension" "t" "I") (by decide +kernel)) (fun _ h9 => h9) rfl dX0_become_117 ?_
                refine lv_bipush (v := 101) hx hb dX0_become_120 (by decide) ?_
                obtain ⟨u114, g115, hf⟩ := Option.bind_eq_some_iff.mp hf
                try dsimp only at hf
                refine ct_call (va_runV (As := [.int ((va_up (va_up (va_up (va_up (va_up (va_up E 0 p0) 1 10201) 2 p1) 3 0) 4 p3) 5 (jrem (101 - p1) 101)) 5), .int 101]) (rest := [.ref (ad 40)]) ⟨hx, hb, hml, hown, hts⟩ (C_X0_power l D tys nw hn hnw hj htI htR (res := u114) g115) (cwV 2 hts gX0_become_X0_power rfl rfl rfl (by decide +kernel) ⟨Nat.le_of_ble_eq_true rfl, Nat.le_of_ble_eq_true rfl⟩) (ct_preV hn hP hK hN (ci := 0) (k := 40) rfl (by decide) rfl) rfl rfl hl.1 rfl (lv_room (Nat.le_of_ble_eq_true rfl)) dX0_become_122 ⟨Nat.zero_le _, Nat.zero_le _⟩) hS (fun H locs hP hS => ?_)
                refine va_put (ci := 0) (v := .int u114) (ty := .int) (C := RX0) (T := TX0) (N := 8) hx hb hts (by decide +kernel) tyX0 tyX0_ok nmX0 hown hK hP (ww_D hj) hS 40 cc_ext rfl 6 (by decide) (hts (.fieldLink RX0 30 "NumberFieldFactors$Extension" "mateOfT" "I") (by decide +kernel)) (fun _ h9 => h9) rfl (by decide +kernel) rfl rfl (Nat.le_of_ble_eq_true rfl) dX0_become_125 (fun H locs hP hD hS => ?_)
                have hP := cs_E6 hP
                refine lv_aload_n hx hb dX0_become_128 rfl (lv_at hl 2 rfl) ?_
                refine lv_aload_n hx hb dX0_become_129 rfl (lv_at hl 2 rfl) ?_
                refine lv_aload_n hx hb dX0_become_130 rfl (lv_at hl 2 rfl) ?_
                refine va_get (ci := 0) (v := .int ((va_up (va_up (va_up (va_up (va_up (va_up (va_up E 0 p0) 1 10201) 2 p1) 3 0) 4 p3) 5 (jrem (101 - p1) 101)) 6 u114) 6)) (C := RX0) (T := TX0) (N := 8) hx hb hts (by decide +kernel) hown hK hP 40 cc_ext rfl 6 (by decide) (hts (.fieldLink RX0 30 "NumberFieldFactors$Extension" "mateOfT" "I") (by decide +kernel)) (fun _ h9 => h9) rfl dX0_become_131 ?_
                refine lv_aload_n hx hb dX0_become_134 rfl (lv_at hl 2 rfl) ?_
                refine va_get (ci := 0) (v := .int ((va_up (va_up (va_up (va_up (va_up (va_up (va_up E 0 p0) 1 10201) 2 p1) 3 0) 4 p3) 5 (jrem (101 - p1) 101)) 6 u114) 6)) (C := RX0) (T := TX0) (N := 8) hx hb hts (by decide +kernel) hown hK hP 40 cc_ext rfl 6 (by decide) (hts (.fieldLink RX0 30 "NumberFieldFactors$Extension" "mateOfT" "I") (by decide +kernel)) (fun _ h9 => h9) rfl dX0_become_135 ?_
                obtain ⟨u116, g117, hf⟩ := Option.bind_eq_some_iff.mp hf
                try dsimp only at hf
                refine ct_call (va_runV (As := [.int ((va_up (va_up (va_up (va_up (va_up (va_up (va_up E 0 p0) 1 10201) 2 p1) 3 0) 4 p3) 5 (jrem (101 - p1) 101)) 6 u114) 6), .int ((va_up (va_up (va_up (va_up (va_up (va_up (va_up E 0 p0) 1 10201) 2 p1) 3 0) 4 p3) 5 (jrem (101 - p1) 101)) 6 u114) 6)]) (rest := [.ref (ad 40)]) ⟨hx, hb, hml, hown, hts⟩ (C_X0_times l D tys nw hn hnw hj htI htR (res := u116) g117) (cwV 2 hts gX0_become_X0_times rfl rfl rfl (by decide +kernel) ⟨Nat.le_of_ble_eq_true rfl, Nat.le_of_ble_eq_true rfl⟩) (ct_preV hn hP hK hN (ci := 0) (k := 40) rfl (by decide) rfl) rfl rfl hl.1 rfl (lv_room (Nat.le_of_ble_eq_true rfl)) dX0_become_138 ⟨Nat.zero_le _, Nat.zero_le _⟩) hS (fun H locs hP hS => ?_)
                refine va_put (ci := 0) (v := .int u116) (ty := .int) (C := RX0) (T := TX0) (N := 8) hx hb hts (by decide +kernel) tyX0 tyX0_ok nmX0 hown hK hP (ww_D hj) hS 40 cc_ext rfl 7 (by decide) (hts (.fieldLink RX0 33 "NumberFieldFactors$Extension" "mateOfTSquared" "I") (by decide +kernel)) (fun _ h9 => h9) rfl (by decide +kernel) rfl rfl (Nat.le_of_ble_eq_true rfl) dX0_become_141 (fun H locs hP hD hS => ?_)
                have hP := cs_E7 hP
                refine lv_iconst (v := 1) hx hb dX0_become_144 (by decide) ?_
                obtain rfl := Option.some.inj hf
                exact W.zret (v := 1) (ty := .boolean) hx hb hr (by decide) (fun t ht hW => ⟨rfl, by rw [ht]; exact hP, hS.F ht⟩) hS.2.2 dX0_become_145
          · rw [if_pos c98] at hf
            refine lv_bipush (v := 101) hx hb dX0_become_55 (by decide) ?_
            refine lv_goto (tgt := 73) hx hb dX0_become_57 (by decide) ?_
            refine va_put (ci := 0) (v := .int 101) (ty := .int) (C := RX0) (T := TX0) (N := 8) hx hb hts (by decide +kernel) tyX0 tyX0_ok nmX0 hown hK hP (ww_D hj) hS 40 cc_ext rfl 1 (by decide) (hts (.fieldLink RX0 15 "NumberFieldFactors$Extension" "size" "I") (by decide +kernel)) (fun _ h9 => h9) rfl (by decide +kernel) rfl rfl (Nat.le_of_ble_eq_true rfl) dX0_become_73 (fun H locs hP hD hS => ?_)
            have hP := cs_E1 hP
            refine lv_aload_n hx hb dX0_become_76 rfl (lv_at hl 2 rfl) ?_
            refine lv_iload_n hx hb dX0_become_77 rfl (lv_at hl 4 rfl) ?_
            refine va_put (ci := 0) (v := .int p1) (ty := .int) (C := RX0) (T := TX0) (N := 8) hx hb hts (by decide +kernel) tyX0 tyX0_ok nmX0 hown hK hP (ww_D hj) hS 40 cc_ext rfl 2 (by decide) (hts (.fieldLink RX0 18 "NumberFieldFactors$Extension" "low0" "I") (by decide +kernel)) (fun _ h9 => h9) rfl (by decide +kernel) rfl rfl (Nat.le_of_ble_eq_true rfl) dX0_become_78 (fun H locs hP hD hS => ?_)
            have hP := cs_E2 hP
            refine lv_aload_n hx hb dX0_become_81 rfl (lv_at hl 2 rfl) ?_
            refine lv_iload hx hb dX0_become_82 (lv_at hl 1 rfl) ?_
            refine va_put (ci := 0) (v := .int 0) (ty := .int) (C := RX0) (T := TX0) (N := 8) hx hb hts (by decide +kernel) tyX0 tyX0_ok nmX0 hown hK hP (ww_D hj) hS 40 cc_ext rfl 3 (by decide) (hts (.fieldLink RX0 21 "NumberFieldFactors$Extension" "low1" "I") (by decide +kernel)) (fun _ h9 => h9) rfl (by decide +kernel) rfl rfl (Nat.le_of_ble_eq_true rfl) dX0_become_84 (fun H locs hP hD hS => ?_)
            have hP := cs_E3 hP
            refine lv_aload_n hx hb dX0_become_87 rfl (lv_at hl 2 rfl) ?_
            refine lv_iload hx hb dX0_become_88 (lv_at hl 0 rfl) ?_
            refine va_put (ci := 0) (v := .int p3) (ty := .int) (C := RX0) (T := TX0) (N := 8) hx hb hts (by decide +kernel) tyX0 tyX0_ok nmX0 hown hK hP (ww_D hj) hS 40 cc_ext rfl 4 (by decide) (hts (.fieldLink RX0 24 "NumberFieldFactors$Extension" "low2" "I") (by decide +kernel)) (fun _ h9 => h9) rfl (by decide +kernel) rfl rfl (Nat.le_of_ble_eq_true rfl) dX0_become_90 (fun H locs hP hD hS => ?_)
            have hP := cs_E4 hP
            refine lv_aload_n hx hb dX0_become_93 rfl (lv_at hl 2 rfl) ?_
            refine lv_iload_n hx hb dX0_become_94 rfl (lv_at hl 3 rfl) ?_
            refine lv_iconst (v := 1) hx hb dX0_become_95 (by decide) ?_
            refine lv_icmp_ne (tgt := 109) hx hb dX0_become_96 (by decide) (fun c118 => ?_) (fun c118 => ?_)
            · rw [if_neg c118] at hf
              refine lv_bipush (v := 101) hx hb dX0_become_109 (by decide) ?_
              refine va_put (ci := 0) (v := .int 101) (ty := .int) (C := RX0) (T := TX0) (N := 8) hx hb hts (by decide +kernel) tyX0 tyX0_ok nmX0 hown hK hP (ww_D hj) hS 40 cc_ext rfl 5 (by decide) (hts (.fieldLink RX0 27 "NumberFieldFactors$Extension" "t" "I") (by decide +kernel)) (fun _ h9 => h9) rfl (by decide +kernel) rfl rfl (Nat.le_of_ble_eq_true rfl) dX0_become_111 (fun H locs hP hD hS => ?_)
              have hP := cs_E5 hP
              refine lv_aload_n hx hb dX0_become_114 rfl (lv_at hl 2 rfl) ?_
              refine lv_aload_n hx hb dX0_become_115 rfl (lv_at hl 2 rfl) ?_
              refine lv_aload_n hx hb dX0_become_116 rfl (lv_at hl 2 rfl) ?_
              refine va_get (ci := 0) (v := .int ((va_up (va_up (va_up (va_up (va_up (va_up E 0 p0) 1 101) 2 p1) 3 0) 4 p3) 5 101) 5)) (C := RX0) (T := TX0) (N := 8) hx hb hts (by decide +kernel) hown hK hP 40 cc_ext rfl 5 (by decide) (hts (.fieldLink RX0 27 "NumberFieldFactors$Extension" "t" "I") (by decide +kernel)) (fun _ h9 => h9) rfl dX0_become_117 ?_
              refine lv_bipush (v := 101) hx hb dX0_become_120 (by decide) ?_
              obtain ⟨u119, g120, hf⟩ := Option.bind_eq_some_iff.mp hf
              try dsimp only at hf
              refine ct_call (va_runV (As := [.int ((va_up (va_up (va_up (va_up (va_up (va_up E 0 p0) 1 101) 2 p1) 3 0) 4 p3) 5 101) 5), .int 101]) (rest := [.ref (ad 40)]) ⟨hx, hb, hml, hown, hts⟩ (C_X0_power l D tys nw hn hnw hj htI htR (res := u119) g120) (cwV 2 hts gX0_become_X0_power rfl rfl rfl (by decide +kernel) ⟨Nat.le_of_ble_eq_true rfl, Nat.le_of_ble_eq_true rfl⟩) (ct_preV hn hP hK hN (ci := 0) (k := 40) rfl (by decide) rfl) rfl rfl hl.1 rfl (lv_room (Nat.le_of_ble_eq_true rfl)) dX0_become_122 ⟨Nat.zero_le _, Nat.zero_le _⟩) hS (fun H locs hP hS => ?_)
              refine va_put (ci := 0) (v := .int u119) (ty := .int) (C := RX0) (T := TX0) (N := 8) hx hb hts (by decide +kernel) tyX0 tyX0_ok nmX0 hown hK hP (ww_D hj) hS 40 cc_ext rfl 6 (by decide) (hts (.fieldLink RX0 30 "NumberFieldFactors$Extension" "mateOfT" "I") (by decide +kernel)) (fun _ h9 => h9) rfl (by decide +kernel) rfl rfl (Nat.le_of_ble_eq_true rfl) dX0_become_125 (fun H locs hP hD hS => ?_)
              have hP := cs_E6 hP
              refine lv_aload_n hx hb dX0_become_128 rfl (lv_at hl 2 rfl) ?_
              refine lv_aload_n hx hb dX0_become_129 rfl (lv_at hl 2 rfl) ?_
              refine lv_aload_n hx hb dX0_become_130 rfl (lv_at hl 2 rfl) ?_
              refine va_get (ci := 0) (v := .int ((va_up (va_up (va_up (va_up (va_up (va_up (va_up E 0 p0) 1 101) 2 p1) 3 0) 4 p3) 5 101) 6 u119) 6)) (C := RX0) (T := TX0) (N := 8) hx hb hts (by decide +kernel) hown hK hP 40 cc_ext rfl 6 (by decide) (hts (.fieldLink RX0 30 "NumberFieldFactors$Extension" "mateOfT" "I") (by decide +kernel)) (fun _ h9 => h9) rfl dX0_become_131 ?_
              refine lv_aload_n hx hb dX0_become_134 rfl (lv_at hl 2 rfl) ?_
              refine va_get (ci := 0) (v := .int ((va_up (va_up (va_up (va_up (va_up (va_up (va_up E 0 p0) 1 101) 2 p1) 3 0) 4 p3) 5 101) 6 u119) 6)) (C := RX0) (T := TX0) (N := 8) hx hb hts (by decide +kernel) hown hK hP 40 cc_ext rfl 6 (by decide) (hts (.fieldLink RX0 30 "NumberFieldFactors$Extension" "mateOfT" "I") (by decide +kernel)) (fun _ h9 => h9) rfl dX0_become_135 ?_
              obtain ⟨u121, g122, hf⟩ := Option.bind_eq_some_iff.mp hf
              try dsimp only at hf
              refine ct_call (va_runV (As := [.int ((va_up (va_up (va_up (va_up (va_up (va_up (va_up E 0 p0) 1 101) 2 p1) 3 0) 4 p3) 5 101) 6 u119) 6), .int ((va_up (va_up (va_up (va_up (va_up (va_up (va_up E 0 p0) 1 101) 2 p1) 3 0) 4 p3) 5 101) 6 u119) 6)]) (rest := [.ref (ad 40)]) ⟨hx, hb, hml, hown, hts⟩ (C_X0_times l D tys nw hn hnw hj htI htR (res := u121) g122) (cwV 2 hts gX0_become_X0_times rfl rfl rfl (by decide +kernel) ⟨Nat.le_of_ble_eq_true rfl, Nat.le_of_ble_eq_true rfl⟩) (ct_preV hn hP hK hN (ci := 0) (k := 40) rfl (by decide) rfl) rfl rfl hl.1 rfl (lv_room (Nat.le_of_ble_eq_true rfl)) dX0_become_138 ⟨Nat.zero_le _, Nat.zero_le _⟩) hS (fun H locs hP hS => ?_)
              refine va_put (ci := 0) (v := .int u121) (ty := .int) (C := RX0) (T := TX0) (N := 8) hx hb hts (by decide +kernel) tyX0 tyX0_ok nmX0 hown hK hP (ww_D hj) hS 40 cc_ext rfl 7 (by decide) (hts (.fieldLink RX0 33 "NumberFieldFactors$Extension" "mateOfTSquared" "I") (by decide +kernel)) (fun _ h9 => h9) rfl (by decide +kernel) rfl rfl (Nat.le_of_ble_eq_true rfl) dX0_become_141 (fun H locs hP hD hS => ?_)
              have hP := cs_E7 hP
              refine lv_iconst (v := 1) hx hb dX0_become_144 (by decide) ?_
              obtain rfl := Option.some.inj hf
              exact W.zret (v := 1) (ty := .boolean) hx hb hr (by decide) (fun t ht hW => ⟨rfl, by rw [ht]; exact hP, hS.F ht⟩) hS.2.2 dX0_become_145
            · rw [if_pos c118] at hf
              refine lv_bipush (v := 101) hx hb dX0_become_99 (by decide) ?_
              refine lv_iload_n hx hb dX0_become_101 rfl (lv_at hl 4 rfl) ?_
              refine lv_isub hx hb dX0_become_102 ?_
              refine lv_bipush (v := 101) hx hb dX0_become_103 (by decide) ?_
              refine jv_irem hx hb dX0_become_105 (by decide) ?_
              refine lv_goto (tgt := 111) hx hb dX0_become_106 (by decide) ?_
              refine va_put (ci := 0) (v := .int (jrem (101 - p1) 101)) (ty := .int) (C := RX0) (T := TX0) (N := 8) hx hb hts (by decide +kernel) tyX0 tyX0_ok nmX0 hown hK hP (ww_D hj) hS 40 cc_ext rfl 5 (by decide) (hts (.fieldLink RX0 27 "NumberFieldFactors$Extension" "t" "I") (by decide +kernel)) (fun _ h9 => h9) rfl (by decide +kernel) rfl rfl (Nat.le_of_ble_eq_true rfl) dX0_become_111 (fun H locs hP hD hS => ?_)
              have hP := cs_E5 hP
              refine lv_aload_n hx hb dX0_become_114 rfl (lv_at hl 2 rfl) ?_
              refine lv_aload_n hx hb dX0_become_115 rfl (lv_at hl 2 rfl) ?_
              refine lv_aload_n hx hb dX0_become_116 rfl (lv_at hl 2 rfl) ?_
              refine va_get (ci := 0) (v := .int ((va_up (va_up (va_up (va_up (va_up (va_up E 0 p0) 1 101) 2 p1) 3 0) 4 p3) 5 (jrem (101 - p1) 101)) 5)) (C := RX0) (T := TX0) (N := 8) hx hb hts (by decide +kernel) hown hK hP 40 cc_ext rfl 5 (by decide) (hts (.fieldLink RX0 27 "NumberFieldFactors$Extension" "t" "I") (by decide +kernel)) (fun _ h9 => h9) rfl dX0_become_117 ?_
              refine lv_bipush (v := 101) hx hb dX0_become_120 (by decide) ?_
              obtain ⟨u123, g124, hf⟩ := Option.bind_eq_some_iff.mp hf
              try dsimp only at hf
              refine ct_call (va_runV (As := [.int ((va_up (va_up (va_up (va_up (va_up (va_up E 0 p0) 1 101) 2 p1) 3 0) 4 p3) 5 (jrem (101 - p1) 101)) 5), .int 101]) (rest := [.ref (ad 40)]) ⟨hx, hb, hml, hown, hts⟩ (C_X0_power l D tys nw hn hnw hj htI htR (res := u123) g124) (cwV 2 hts gX0_become_X0_power rfl rfl rfl (by decide +kernel) ⟨Nat.le_of_ble_eq_true rfl, Nat.le_of_ble_eq_true rfl⟩) (ct_preV hn hP hK hN (ci := 0) (k := 40) rfl (by decide) rfl) rfl rfl hl.1 rfl (lv_room (Nat.le_of_ble_eq_true rfl)) dX0_become_122 ⟨Nat.zero_le _, Nat.zero_le _⟩) hS (fun H locs hP hS => ?_)
              refine va_put (ci := 0) (v := .int u123) (ty := .int) (C := RX0) (T := TX0) (N := 8) hx hb hts (by decide +kernel) tyX0 tyX0_ok nmX0 hown hK hP (ww_D hj) hS 40 cc_ext rfl 6 (by decide) (hts (.fieldLink RX0 30 "NumberFieldFactors$Extension" "mateOfT" "I") (by decide +kernel)) (fun _ h9 => h9) rfl (by decide +kernel) rfl rfl (Nat.le_of_ble_eq_true rfl) dX0_become_125 (fun H locs hP hD hS => ?_)
              have hP := cs_E6 hP
              refine lv_aload_n hx hb dX0_become_128 rfl (lv_at hl 2 rfl) ?_
              refine lv_aload_n hx hb dX0_become_129 rfl (lv_at hl 2 rfl) ?_
              refine lv_aload_n hx hb dX0_become_130 rfl (lv_at hl 2 rfl) ?_
              refine va_get (ci := 0) (v := .int ((va_up (va_up (va_up (va_up (va_up (va_up (va_up E 0 p0) 1 101) 2 p1) 3 0) 4 p3) 5 (jrem (101 - p1) 101)) 6 u123) 6)) (C := RX0) (T := TX0) (N := 8) hx hb hts (by decide +kernel) hown hK hP 40 cc_ext rfl 6 (by decide) (hts (.fieldLink RX0 30 "NumberFieldFactors$Extension" "mateOfT" "I") (by decide +kernel)) (fun _ h9 => h9) rfl dX0_become_131 ?_
              refine lv_aload_n hx hb dX0_become_134 rfl (lv_at hl 2 rfl) ?_
              refine va_get (ci := 0) (v := .int ((va_up (va_up (va_up (va_up (va_up (va_up (va_up E 0 p0) 1 101) 2 p1) 3 0) 4 p3) 5 (jrem (101 - p1) 101)) 6 u123) 6)) (C := RX0) (T := TX0) (N := 8) hx hb hts (by decide +kernel) hown hK hP 40 cc_ext rfl 6 (by decide) (hts (.fieldLink RX0 30 "NumberFieldFactors$Extension" "mateOfT" "I") (by decide +kernel)) (fun _ h9 => h9) rfl dX0_become_135 ?_
              obtain ⟨u125, g126, hf⟩ := Option.bind_eq_some_iff.mp hf
              try dsimp only at hf
              refine ct_call (va_runV (As := [.int ((va_up (va_up (va_up (va_up (va_up (va_up (va_up E 0 p0) 1 101) 2 p1) 3 0) 4 p3) 5 (jrem (101 - p1) 101)) 6 u123) 6), .int ((va_up (va_up (va_up (va_up (va_up (va_up (va_up E 0 p0) 1 101) 2 p1) 3 0) 4 p3) 5 (jrem (101 - p1) 101)) 6 u123) 6)]) (rest := [.ref (ad 40)]) ⟨hx, hb, hml, hown, hts⟩ (C_X0_times l D tys nw hn hnw hj htI htR (res := u125) g126) (cwV 2 hts gX0_become_X0_times rfl rfl rfl (by decide +kernel) ⟨Nat.le_of_ble_eq_true rfl, Nat.le_of_ble_eq_true rfl⟩) (ct_preV hn hP hK hN (ci := 0) (k := 40) rfl (by decide) rfl) rfl rfl hl.1 rfl (lv_room (Nat.le_of_ble_eq_true rfl)) dX0_become_138 ⟨Nat.zero_le _, Nat.zero_le _⟩) hS (fun H locs hP hS => ?_)
              refine va_put (ci := 0) (v := .int u125) (ty := .int) (C := RX0) (T := TX0) (N := 8) hx hb hts (by decide +kernel) tyX0 tyX0_ok nmX0 hown hK hP (ww_D hj) hS 40 cc_ext rfl 7 (by decide) (hts (.fieldLink RX0 33 "NumberFieldFactors$Extension" "mateOfTSquared" "I") (by decide +kernel)) (fun _ h9 => h9) rfl (by decide +kernel) rfl rfl (Nat.le_of_ble_eq_true rfl) dX0_become_141 (fun H locs hP hD hS => ?_)
              have hP := cs_E7 hP
              refine lv_iconst (v := 1) hx hb dX0_become_144 (by decide) ?_
              obtain rfl := Option.some.inj hf
              exact W.zret (v := 1) (ty := .boolean) hx hb hr (by decide) (fun t ht hW => ⟨rfl, by rw [ht]; exact hP, hS.F ht⟩) hS.2.2 dX0_become_145
        · rw [if_neg c97] at hf
          refine lv_iconst (v := 0) hx hb dX0_become_42 (by decide) ?_
          obtain rfl := Option.some.inj hf
          exact W.zret (v := 0) (ty := .boolean) hx hb hr (by decide) (fun t ht hW => ⟨rfl, by rw [ht]; exact hP, hS.F ht⟩) hS.2.2 dX0_become_43
  · rw [if_neg c1] at hf
    refine lv_iload_n hx hb dX0_become_5 rfl (lv_at hl 3 rfl) ?_
    refine lv_goto (tgt := 10) hx hb dX0_become_6 (by decide) ?_
    refine lv_istore (lv' := [(5, .int p2), (0, .ref (ad 40)), (1, .int p0), (2, .int p1), (3, .int p2), (4, .int p3)]) hx hb dX0_become_10 hl (by decide) rfl (fun ls hl => ?_)
    refine lv_iload_n hx hb dX0_become_12 rfl (lv_at hl 2 rfl) ?_
    refine lv_iconst (v := 2) hx hb dX0_become_13 (by decide) ?_
    refine lv_icmp_le (tgt := 22) hx hb dX0_become_14 (by decide) (fun c127 => ?_) (fun c127 => ?_)
    · rw [if_pos c127] at hf
      refine lv_iconst (v := 0) hx hb dX0_become_22 (by decide) ?_
      refine lv_istore (lv' := [(6, .int 0), (5, .int p2), (0, .ref (ad 40)), (1, .int p0), (2, .int p1), (3, .int p2), (4, .int p3)]) hx hb dX0_become_23 hl (by decide) rfl (fun ls hl => ?_)
      refine lv_iload_n hx hb dX0_become_25 rfl (lv_at hl 3 rfl) ?_
      refine lv_iconst (v := 1) hx hb dX0_become_26 (by decide) ?_
      refine lv_icmp_le (tgt := 44) hx hb dX0_become_27 (by decide) (fun c128 => ?_) (fun c128 => ?_)
      · rw [if_pos c128] at hf
        refine lv_aload_n hx hb dX0_become_44 rfl (lv_at hl 2 rfl) ?_
        refine lv_iload_n hx hb dX0_become_45 rfl (lv_at hl 3 rfl) ?_
        refine va_put (ci := 0) (v := .int p0) (ty := .int) (C := RX0) (T := TX0) (N := 8) hx hb hts (by decide +kernel) tyX0 tyX0_ok nmX0 hown hK hP (ww_D hj) hS 40 cc_ext rfl 0 (by decide) (hts (.fieldLink RX0 9 "NumberFieldFactors$Extension" "degree" "I") (by decide +kernel)) (fun _ h9 => h9) rfl (by decide +kernel) rfl rfl (Nat.le_of_ble_eq_true rfl) dX0_become_46 (fun H locs hP hD hS => ?_)
        have hP := cs_E0 hP
        refine lv_aload_n hx hb dX0_become_49 rfl (lv_at hl 2 rfl) ?_
        refine lv_iload_n hx hb dX0_become_50 rfl (lv_at hl 3 rfl) ?_
        refine lv_iconst (v := 1) hx hb dX0_become_51 (by decide) ?_
        refine lv_icmp_ne (tgt := 60) hx hb dX0_become_52 (by decide) (fun c129 => ?_) (fun c129 => ?_)
        · rw [if_neg c129] at hf
          refine lv_iload_n hx hb dX0_become_60 rfl (lv_at hl 3 rfl) ?_
          refine lv_iconst (v := 2) hx hb dX0_become_61 (by decide) ?_
          refine lv_icmp_ne (tgt := 71) hx hb dX0_become_62 (by decide) (fun c130 => ?_) (fun c130 => ?_)
          · rw [if_neg c130] at hf
            refine lv_ldc (v := 1030301) hx hb hown (hts (.constant RX0 40 (1030301)) (by decide +kernel)) dX0_become_71 ?_
            refine va_put (ci := 0) (v := .int 1030301) (ty := .int) (C := RX0) (T := TX0) (N := 8) hx hb hts (by decide +kernel) tyX0 tyX0_ok nmX0 hown hK hP (ww_D hj) hS 40 cc_ext rfl 1 (by decide) (hts (.fieldLink RX0 15 "NumberFieldFactors$Extension" "size" "I") (by decide +kernel)) (fun _ h9 => h9) rfl (by decide +kernel) rfl rfl (Nat.le_of_ble_eq_true rfl) dX0_become_73 (fun H locs hP hD hS => ?_)
            have hP := cs_E1 hP
            refine lv_aload_n hx hb dX0_become_76 rfl (lv_at hl 2 rfl) ?_
            refine lv_iload_n hx hb dX0_become_77 rfl (lv_at hl 4 rfl) ?_
            refine va_put (ci := 0) (v := .int p1) (ty := .int) (C := RX0) (T := TX0) (N := 8) hx hb hts (by decide +kernel) tyX0 tyX0_ok nmX0 hown hK hP (ww_D hj) hS 40 cc_ext rfl 2 (by decide) (hts (.fieldLink RX0 18 "NumberFieldFactors$Extension" "low0" "I") (by decide +kernel)) (fun _ h9 => h9) rfl (by decide +kernel) rfl rfl (Nat.le_of_ble_eq_true rfl) dX0_become_78 (fun H locs hP hD hS => ?_)
            have hP := cs_E2 hP
            refine lv_aload_n hx hb dX0_become_81 rfl (lv_at hl 2 rfl) ?_
            refine lv_iload hx hb dX0_become_82 (lv_at hl 1 rfl) ?_
            refine va_put (ci := 0) (v := .int p2) (ty := .int) (C := RX0) (T := TX0) (N := 8) hx hb hts (by decide +kernel) tyX0 tyX0_ok nmX0 hown hK hP (ww_D hj) hS 40 cc_ext rfl 3 (by decide) (hts (.fieldLink RX0 21 "NumberFieldFactors$Extension" "low1" "I") (by decide +kernel)) (fun _ h9 => h9) rfl (by decide +kernel) rfl rfl (Nat.le_of_ble_eq_true rfl) dX0_become_84 (fun H locs hP hD hS => ?_)
            have hP := cs_E3 hP
            refine lv_aload_n hx hb dX0_become_87 rfl (lv_at hl 2 rfl) ?_
            refine lv_iload hx hb dX0_become_88 (lv_at hl 0 rfl) ?_
            refine va_put (ci := 0) (v := .int 0) (ty := .int) (C := RX0) (T := TX0) (N := 8) hx hb hts (by decide +kernel) tyX0 tyX0_ok nmX0 hown hK hP (ww_D hj) hS 40 cc_ext rfl 4 (by decide) (hts (.fieldLink RX0 24 "NumberFieldFactors$Extension" "low2" "I") (by decide +kernel)) (fun _ h9 => h9) rfl (by decide +kernel) rfl rfl (Nat.le_of_ble_eq_true rfl) dX0_become_90 (fun H locs hP hD hS => ?_)
            have hP := cs_E4 hP
            refine lv_aload_n hx hb dX0_become_93 rfl (lv_at hl 2 rfl) ?_
            refine lv_iload_n hx hb dX0_become_94 rfl (lv_at hl 3 rfl) ?_
            refine lv_iconst (v := 1) hx hb dX0_become_95 (by decide) ?_
            refine lv_icmp_ne (tgt := 109) hx hb dX0_become_96 (by decide) (fun c131 => ?_) (fun c131 => ?_)
            · rw [if_neg c131] at hf
              refine lv_bipush (v := 101) hx hb dX0_become_109 (by decide) ?_
              refine va_put (ci := 0) (v := .int 101) (ty := .int) (C := RX0) (T := TX0) (N := 8) hx hb hts (by decide +kernel) tyX0 tyX0_ok nmX0 hown hK hP (ww_D hj) hS 40 cc_ext rfl 5 (by decide) (hts (.fieldLink RX0 27 "NumberFieldFactors$Extension" "t" "I") (by decide +kernel)) (fun _ h9 => h9) rfl (by decide +kernel) rfl rfl (Nat.le_of_ble_eq_true rfl) dX0_become_111 (fun H locs hP hD hS => ?_)
              have hP := cs_E5 hP
              refine lv_aload_n hx hb dX0_become_114 rfl (lv_at hl 2 rfl) ?_
              refine lv_aload_n hx hb dX0_become_115 rfl (lv_at hl 2 rfl) ?_
              refine lv_aload_n hx hb dX0_become_116 rfl (lv_at hl 2 rfl) ?_
              refine va_get (ci := 0) (v := .int ((va_up (va_up (va_up (va_up (va_up (va_up E 0 p0) 1 1030301) 2 p1) 3 p2) 4 0) 5 101) 5)) (C := RX0) (T := TX0) (N := 8) hx hb hts (by decide +kernel) hown hK hP 40 cc_ext rfl 5 (by decide) (hts (.fieldLink RX0 27 "NumberFieldFactors$Extension" "t" "I") (by decide +kernel)) (fun _ h9 => h9) rfl dX0_become_117 ?_
              refine lv_bipush (v := 101) hx hb dX0_become_120 (by decide) ?_
              obtain ⟨u132, g133, hf⟩ := Option.bind_eq_some_iff.mp hf
              try dsimp only at hf
              refine ct_call (va_runV (As := [.int ((va_up (va_up (va_up (va_up (va_up (va_up E 0 p0) 1 1030301) 2 p1) 3 p2) 4 0) 5 101) 5), .int 101]) (rest := [.ref (ad 40)]) ⟨hx, hb, hml, hown, hts⟩ (C_X0_power l D tys nw hn hnw hj htI htR (res := u132) g133) (cwV 2 hts gX0_become_X0_power rfl rfl rfl (by decide +kernel) ⟨Nat.le_of_ble_eq_true rfl, Nat.le_of_ble_eq_true rfl⟩) (ct_preV hn hP hK hN (ci := 0) (k := 40) rfl (by decide) rfl) rfl rfl hl.1 rfl (lv_room (Nat.le_of_ble_eq_true rfl)) dX0_become_122 ⟨Nat.zero_le _, Nat.zero_le _⟩) hS (fun H locs hP hS => ?_)
              refine va_put (ci := 0) (v := .int u132) (ty := .int) (C := RX0) (T := TX0) (N := 8) hx hb hts (by decide +kernel) tyX0 tyX0_ok nmX0 hown hK hP (ww_D hj) hS 40 cc_ext rfl 6 (by decide) (hts (.fieldLink RX0 30 "NumberFieldFactors$Extension" "mateOfT" "I") (by decide +kernel)) (fun _ h9 => h9) rfl (by decide +kernel) rfl rfl (Nat.le_of_ble_eq_true rfl) dX0_become_125 (fun H locs hP hD hS => ?_)
              have hP := cs_E6 hP
              refine lv_aload_n hx hb dX0_become_128 rfl (lv_at hl 2 rfl) ?_
              refine lv_aload_n hx hb dX0_become_129 rfl (lv_at hl 2 rfl) ?_
              refine lv_aload_n hx hb dX0_become_130 rfl (lv_at hl 2 rfl) ?_
              refine va_get (ci := 0) (v := .int ((va_up (va_up (va_up (va_up (va_up (va_up (va_up E 0 p0) 1 1030301) 2 p1) 3 p2) 4 0) 5 101) 6 u132) 6)) (C := RX0) (T := TX0) (N := 8) hx hb hts (by decide +kernel) hown hK hP 40 cc_ext rfl 6 (by decide) (hts (.fieldLink RX0 30 "NumberFieldFactors$Extension" "mateOfT" "I") (by decide +kernel)) (fun _ h9 => h9) rfl dX0_become_131 ?_
              refine lv_aload_n hx hb dX0_become_134 rfl (lv_at hl 2 rfl) ?_
              refine va_get (ci := 0) (v := .int ((va_up (va_up (va_up (va_up (va_up (va_up (va_up E 0 p0) 1 1030301) 2 p1) 3 p2) 4 0) 5 101) 6 u132) 6)) (C := RX0) (T := TX0) (N := 8) hx hb hts (by decide +kernel) hown hK hP 40 cc_ext rfl 6 (by decide) (hts (.fieldLink RX0 30 "NumberFieldFactors$Extension" "mateOfT" "I") (by decide +kernel)) (fun _ h9 => h9) rfl dX0_become_135 ?_
              obtain ⟨u134, g135, hf⟩ := Option.bind_eq_some_iff.mp hf
              try dsimp only at hf
              refine ct_call (va_runV (As := [.int ((va_up (va_up (va_up (va_up (va_up (va_up (va_up E 0 p0) 1 1030301) 2 p1) 3 p2) 4 0) 5 101) 6 u132) 6), .int ((va_up (va_up (va_up (va_up (va_up (va_up (va_up E 0 p0) 1 1030301) 2 p1) 3 p2) 4 0) 5 101) 6 u132) 6)]) (rest := [.ref (ad 40)]) ⟨hx, hb, hml, hown, hts⟩ (C_X0_times l D tys nw hn hnw hj htI htR (res := u134) g135) (cwV 2 hts gX0_become_X0_times rfl rfl rfl (by decide +kernel) ⟨Nat.le_of_ble_eq_true rfl, Nat.le_of_ble_eq_true rfl⟩) (ct_preV hn hP hK hN (ci := 0) (k := 40) rfl (by decide) rfl) rfl rfl hl.1 rfl (lv_room (Nat.le_of_ble_eq_true rfl)) dX0_become_138 ⟨Nat.zero_le _, Nat.zero_le _⟩) hS (fun H locs hP hS => ?_)
              refine va_put (ci := 0) (v := .int u134) (ty := .int) (C := RX0) (T := TX0) (N := 8) hx hb hts (by decide +kernel) tyX0 tyX0_ok nmX0 hown hK hP (ww_D hj) hS 40 cc_ext rfl 7 (by decide) (hts (.fieldLink RX0 33 "NumberFieldFactors$Extension" "mateOfTSquared" "I") (by decide +kernel)) (fun _ h9 => h9) rfl (by decide +kernel) rfl rfl (Nat.le_of_ble_eq_true rfl) dX0_become_141 (fun H locs hP hD hS => ?_)
              have hP := cs_E7 hP
              refine lv_iconst (v := 1) hx hb dX0_become_144 (by decide) ?_
              obtain rfl := Option.some.inj hf
              exact W.zret (v := 1) (ty := .boolean) hx hb hr (by decide) (fun t ht hW => ⟨rfl, by rw [ht]; exact hP, hS.F ht⟩) hS.2.2 dX0_become_145
            · rw [if_pos c131] at hf
              refine lv_bipush (v := 101) hx hb dX0_become_99 (by decide) ?_
              refine lv_iload_n hx hb dX0_become_101 rfl (lv_at hl 4 rfl) ?_
              refine lv_isub hx hb dX0_become_102 ?_
              refine lv_bipush (v := 101) hx hb dX0_become_103 (by decide) ?_
              refine jv_irem hx hb dX0_become_105 (by decide) ?_
              refine lv_goto (tgt := 111) hx hb dX0_become_106 (by decide) ?_
              refine va_put (ci := 0) (v := .int (jrem (101 - p1) 101)) (ty := .int) (C := RX0) (T := TX0) (N := 8) hx hb hts (by decide +kernel) tyX0 tyX0_ok nmX0 hown hK hP (ww_D hj) hS 40 cc_ext rfl 5 (by decide) (hts (.fieldLink RX0 27 "NumberFieldFactors$Extension" "t" "I") (by decide +kernel)) (fun _ h9 => h9) rfl (by decide +kernel) rfl rfl (Nat.le_of_ble_eq_true rfl) dX0_become_111 (fun H locs hP hD hS => ?_)
              have hP := cs_E5 hP
              refine lv_aload_n hx hb dX0_become_114 rfl (lv_at hl 2 rfl) ?_
              refine lv_aload_n hx hb dX0_become_115 rfl (lv_at hl 2 rfl) ?_
              refine lv_aload_n hx hb dX0_become_116 rfl (lv_at hl 2 rfl) ?_
              refine va_get (ci := 0) (v := .int ((va_up (va_up (va_up (va_up (va_up (va_up E 0 p0) 1 1030301) 2 p1) 3 p2) 4 0) 5 (jrem (101 - p1) 101)) 5)) (C := RX0) (T := TX0) (N := 8) hx hb hts (by decide +kernel) hown hK hP 40 cc_ext rfl 5 (by decide) (hts (.fieldLink RX0 27 "NumberFieldFactors$Extension" "t" "I") (by decide +kernel)) (fun _ h9 => h9) rfl dX0_become_117 ?_
              refine lv_bipush (v := 101) hx hb dX0_become_120 (by decide) ?_
              obtain ⟨u136, g137, hf⟩ := Option.bind_eq_some_iff.mp hf
              try dsimp only at hf
              refine ct_call (va_runV (As := [.int ((va_up (va_up (va_up (va_up (va_up (va_up E 0 p0) 1 1030301) 2 p1) 3 p2) 4 0) 5 (jrem (101 - p1) 101)) 5), .int 101]) (rest := [.ref (ad 40)]) ⟨hx, hb, hml, hown, hts⟩ (C_X0_power l D tys nw hn hnw hj htI htR (res := u136) g137) (cwV 2 hts gX0_become_X0_power rfl rfl rfl (by decide +kernel) ⟨Nat.le_of_ble_eq_true rfl, Nat.le_of_ble_eq_true rfl⟩) (ct_preV hn hP hK hN (ci := 0) (k := 40) rfl (by decide) rfl) rfl rfl hl.1 rfl (lv_room (Nat.le_of_ble_eq_true rfl)) dX0_become_122 ⟨Nat.zero_le _, Nat.zero_le _⟩) hS (fun H locs hP hS => ?_)
              refine va_put (ci := 0) (v := .int u136) (ty := .int) (C := RX0) (T := TX0) (N := 8) hx hb hts (by decide +kernel) tyX0 tyX0_ok nmX0 hown hK hP (ww_D hj) hS 40 cc_ext rfl 6 (by decide) (hts (.fieldLink RX0 30 "NumberFieldFactors$Extension" "mateOfT" "I") (by decide +kernel)) (fun _ h9 => h9) rfl (by decide +kernel) rfl rfl (Nat.le_of_ble_eq_true rfl) dX0_become_125 (fun H locs hP hD hS => ?_)
              have hP := cs_E6 hP
              refine lv_aload_n hx hb dX0_become_128 rfl (lv_at hl 2 rfl) ?_
              refine lv_aload_n hx hb dX0_become_129 rfl (lv_at hl 2 rfl) ?_
              refine lv_aload_n hx hb dX0_become_130 rfl (lv_at hl 2 rfl) ?_
              refine va_get (ci := 0) (v := .int ((va_up (va_up (va_up (va_up (va_up (va_up (va_up E 0 p0) 1 1030301) 2 p1) 3 p2) 4 0) 5 (jrem (101 - p1) 101)) 6 u136) 6)) (C := RX0) (T := TX0) (N := 8) hx hb hts (by decide +kernel) hown hK hP 40 cc_ext rfl 6 (by decide) (hts (.fieldLink RX0 30 "NumberFieldFactors$Extension" "mateOfT" "I") (by decide +kernel)) (fun _ h9 => h9) rfl dX0_become_131 ?_
              refine lv_aload_n hx hb dX0_become_134 rfl (lv_at hl 2 rfl) ?_
              refine va_get (ci := 0) (v := .int ((va_up (va_up (va_up (va_up (va_up (va_up (va_up E 0 p0) 1 1030301) 2 p1) 3 p2) 4 0) 5 (jrem (101 - p1) 101)) 6 u136) 6)) (C := RX0) (T := TX0) (N := 8) hx hb hts (by decide +kernel) hown hK hP 40 cc_ext rfl 6 (by decide) (hts (.fieldLink RX0 30 "NumberFieldFactors$Extension" "mateOfT" "I") (by decide +kernel)) (fun _ h9 => h9) rfl dX0_become_135 ?_
              obtain ⟨u138, g139, hf⟩ := Option.bind_eq_some_iff.mp hf
              try dsimp only at hf
              refine ct_call (va_runV (As := [.int ((va_up (va_up (va_up (va_up (va_up (va_up (va_up E 0 p0) 1 1030301) 2 p1) 3 p2) 4 0) 5 (jrem (101 - p1) 101)) 6 u136) 6), .int ((va_up (va_up (va_up (va_up (va_up (va_up (va_up E 0 p0) 1 1030301) 2 p1) 3 p2) 4 0) 5 (jrem (101 - p1) 101)) 6 u136) 6)]) (rest := [.ref (ad 40)]) ⟨hx, hb, hml, hown, hts⟩ (C_X0_times l D tys nw hn hnw hj htI htR (res := u138) g139) (cwV 2 hts gX0_become_X0_times rfl rfl rfl (by decide +kernel) ⟨Nat.le_of_ble_eq_true rfl, Nat.le_of_ble_eq_true rfl⟩) (ct_preV hn hP hK hN (ci := 0) (k := 40) rfl (by decide) rfl) rfl rfl hl.1 rfl (lv_room (Nat.le_of_ble_eq_true rfl)) dX0_become_138 ⟨Nat.zero_le _, Nat.zero_le _⟩) hS (fun H locs hP hS => ?_)
              refine va_put (ci := 0) (v := .int u138) (ty := .int) (C := RX0) (T := TX0) (N := 8) hx hb hts (by decide +kernel) tyX0 tyX0_ok nmX0 hown hK hP (ww_D hj) hS 40 cc_ext rfl 7 (by decide) (hts (.fieldLink RX0 33 "NumberFieldFactors$Extension" "mateOfTSquared" "I") (by decide +kernel)) (fun _ h9 => h9) rfl (by decide +kernel) rfl rfl (Nat.le_of_ble_eq_true rfl) dX0_become_141 (fun H locs hP hD hS => ?_)
              have hP := cs_E7 hP
              refine lv_iconst (v := 1) hx hb dX0_become_144 (by decide) ?_
              obtain rfl := Option.some.inj hf
              exact W.zret (v := 1) (ty := .boolean) hx hb hr (by decide) (fun t ht hW => ⟨rfl, by rw [ht]; exact hP, hS.F ht⟩) hS.2.2 dX0_become_145
          · rw [if_pos c130] at hf
            refine lv_sipush (v := 10201) hx hb dX0_become_65 (by decide) ?_
            refine lv_goto (tgt := 73) hx hb dX0_become_68 (by decide) ?_
            refine va_put (ci := 0) (v := .int 10201) (ty := .int) (C := RX0) (T := TX0) (N := 8) hx hb hts (by decide +kernel) tyX0 tyX0_ok nmX0 hown hK hP (ww_D hj) hS 40 cc_ext rfl 1 (by decide) (hts (.fieldLink RX0 15 "NumberFieldFactors$Extension" "size" "I") (by decide +kernel)) (fun _ h9 => h9) rfl (by decide +kernel) rfl rfl (Nat.le_of_ble_eq_true rfl) dX0_become_73 (fun H locs hP hD hS => ?_)
            have hP := cs_E1 hP
            refine lv_aload_n hx hb dX0_become_76 rfl (lv_at hl 2 rfl) ?_
            refine lv_iload_n hx hb dX0_become_77 rfl (lv_at hl 4 rfl) ?_
            refine va_put (ci := 0) (v := .int p1) (ty := .int) (C := RX0) (T := TX0) (N := 8) hx hb hts (by decide +kernel) tyX0 tyX0_ok nmX0 hown hK hP (ww_D hj) hS 40 cc_ext rfl 2 (by decide) (hts (.fieldLink RX0 18 "NumberFieldFactors$Extension" "low0" "I") (by decide +kernel)) (fun _ h9 => h9) rfl (by decide +kernel) rfl rfl (Nat.le_of_ble_eq_true rfl) dX0_become_78 (fun H locs hP hD hS => ?_)
            have hP := cs_E2 hP
            refine lv_aload_n hx hb dX0_become_81 rfl (lv_at hl 2 rfl) ?_
            refine lv_iload hx hb dX0_become_82 (lv_at hl 1 rfl) ?_
            refine va_put (ci := 0) (v := .int p2) (ty := .int) (C := RX0) (T := TX0) (N := 8) hx hb hts (by decide +kernel) tyX0 tyX0_ok nmX0 hown hK hP (ww_D hj) hS 40 cc_ext rfl 3 (by decide) (hts (.fieldLink RX0 21 "NumberFieldFactors$Extension" "low1" "I") (by decide +kernel)) (fun _ h9 => h9) rfl (by decide +kernel) rfl rfl (Nat.le_of_ble_eq_true rfl) dX0_become_84 (fun H locs hP hD hS => ?_)
            have hP := cs_E3 hP
            refine lv_aload_n hx hb dX0_become_87 rfl (lv_at hl 2 rfl) ?_
            refine lv_iload hx hb dX0_become_88 (lv_at hl 0 rfl) ?_
            refine va_put (ci := 0) (v := .int 0) (ty := .int) (C := RX0) (T := TX0) (N := 8) hx hb hts (by decide +kernel) tyX0 tyX0_ok nmX0 hown hK hP (ww_D hj) hS 40 cc_ext rfl 4 (by decide) (hts (.fieldLink RX0 24 "NumberFieldFactors$Extension" "low2" "I") (by decide +kernel)) (fun _ h9 => h9) rfl (by decide +kernel) rfl rfl (Nat.le_of_ble_eq_true rfl) dX0_become_90 (fun H locs hP hD hS => ?_)
            have hP := cs_E4 hP
            refine lv_aload_n hx hb dX0_become_93 rfl (lv_at hl 2 rfl) ?_
            refine lv_iload_n hx hb dX0_become_94 rfl (lv_at hl 3 rfl) ?_
            refine lv_iconst (v := 1) hx hb dX0_become_95 (by decide) ?_
            refine lv_icmp_ne (tgt := 109) hx hb dX0_become_96 (by decide) (fun c140 => ?_) (fun c140 => ?_)
            · rw [if_neg c140] at hf
              refine lv_bipush (v := 101) hx hb dX0_become_109 (by decide) ?_
              refine va_put (ci := 0) (v := .int 101) (ty := .int) (C := RX0) (T := TX0) (N := 8) hx hb hts (by decide +kernel) tyX0 tyX0_ok nmX0 hown hK hP (ww_D hj) hS 40 cc_ext rfl 5 (by decide) (hts (.fieldLink RX0 27 "NumberFieldFactors$Extension" "t" "I") (by decide +kernel)) (fun _ h9 => h9) rfl (by decide +kernel) rfl rfl (Nat.le_of_ble_eq_true rfl) dX0_become_111 (fun H locs hP hD hS => ?_)
              have hP := cs_E5 hP
              refine lv_aload_n hx hb dX0_become_114 rfl (lv_at hl 2 rfl) ?_
              refine lv_aload_n hx hb dX0_become_115 rfl (lv_at hl 2 rfl) ?_
              refine lv_aload_n hx hb dX0_become_116 rfl (lv_at hl 2 rfl) ?_
              refine va_get (ci := 0) (v := .int ((va_up (va_up (va_up (va_up (va_up (va_up E 0 p0) 1 10201) 2 p1) 3 p2) 4 0) 5 101) 5)) (C := RX0) (T := TX0) (N := 8) hx hb hts (by decide +kernel) hown hK hP 40 cc_ext rfl 5 (by decide) (hts (.fieldLink RX0 27 "NumberFieldFactors$Extension" "t" "I") (by decide +kernel)) (fun _ h9 => h9) rfl dX0_become_117 ?_
              refine lv_bipush (v := 101) hx hb dX0_become_120 (by decide) ?_
              obtain ⟨u141, g142, hf⟩ := Option.bind_eq_some_iff.mp hf
              try dsimp only at hf
              refine ct_call (va_runV (As := [.int ((va_up (va_up (va_up (va_up (va_up (va_up E 0 p0) 1 10201) 2 p1) 3 p2) 4 0) 5 101) 5), .int 101]) (rest := [.ref (ad 40)]) ⟨hx, hb, hml, hown, hts⟩ (C_X0_power l D tys nw hn hnw hj htI htR (res := u141) g142) (cwV 2 hts gX0_become_X0_power rfl rfl rfl (by decide +kernel) ⟨Nat.le_of_ble_eq_true rfl, Nat.le_of_ble_eq_true rfl⟩) (ct_preV hn hP hK hN (ci := 0) (k := 40) rfl (by decide) rfl) rfl rfl hl.1 rfl (lv_room (Nat.le_of_ble_eq_true rfl)) dX0_become_122 ⟨Nat.zero_le _, Nat.zero_le _⟩) hS (fun H locs hP hS => ?_)
              refine va_put (ci := 0) (v := .int u141) (ty := .int) (C := RX0) (T := TX0) (N := 8) hx hb hts (by decide +kernel) tyX0 tyX0_ok nmX0 hown hK hP (ww_D hj) hS 40 cc_ext rfl 6 (by decide) (hts (.fieldLink RX0 30 "NumberFieldFactors$Extension" "mateOfT" "I") (by decide +kernel)) (fun _ h9 => h9) rfl (by decide +kernel) rfl rfl (Nat.le_of_ble_eq_true rfl) dX0_become_125 (fun H locs hP hD hS => ?_)
              have hP := cs_E6 hP
              refine lv_aload_n hx hb dX0_become_128 rfl (lv_at hl 2 rfl) ?_
              refine lv_aload_n hx hb dX0_become_129 rfl (lv_at hl 2 rfl) ?_
              refine lv_aload_n hx hb dX0_become_130 rfl (lv_at hl 2 rfl) ?_
              refine va_get (ci := 0) (v := .int ((va_up (va_up (va_up (va_up (va_up (va_up (va_up E 0 p0) 1 10201) 2 p1) 3 p2) 4 0) 5 101) 6 u141) 6)) (C := RX0) (T := TX0) (N := 8) hx hb hts (by decide +kernel) hown hK hP 40 cc_ext rfl 6 (by decide) (hts (.fieldLink RX0 30 "NumberFieldFactors$Extension" "mateOfT" "I") (by decide +kernel)) (fun _ h9 => h9) rfl dX0_become_131 ?_
              refine lv_aload_n hx hb dX0_become_134 rfl (lv_at hl 2 rfl) ?_
              refine va_get (ci := 0) (v := .int ((va_up (va_up (va_up (va_up (va_up (va_up (va_up E 0 p0) 1 10201) 2 p1) 3 p2) 4 0) 5 101) 6 u141) 6)) (C := RX0) (T := TX0) (N := 8) hx hb hts (by decide +kernel) hown hK hP 40 cc_ext rfl 6 (by decide) (hts (.fieldLink RX0 30 "NumberFieldFactors$Extension" "mateOfT" "I") (by decide +kernel)) (fun _ h9 => h9) rfl dX0_become_135 ?_
              obtain ⟨u143, g144, hf⟩ := Option.bind_eq_some_iff.mp hf
              try dsimp only at hf
              refine ct_call (va_runV (As := [.int ((va_up (va_up (va_up (va_up (va_up (va_up (va_up E 0 p0) 1 10201) 2 p1) 3 p2) 4 0) 5 101) 6 u141) 6), .int ((va_up (va_up (va_up (va_up (va_up (va_up (va_up E 0 p0) 1 10201) 2 p1) 3 p2) 4 0) 5 101) 6 u141) 6)]) (rest := [.ref (ad 40)]) ⟨hx, hb, hml, hown, hts⟩ (C_X0_times l D tys nw hn hnw hj htI htR (res := u143) g144) (cwV 2 hts gX0_become_X0_times rfl rfl rfl (by decide +kernel) ⟨Nat.le_of_ble_eq_true rfl, Nat.le_of_ble_eq_true rfl⟩) (ct_preV hn hP hK hN (ci := 0) (k := 40) rfl (by decide) rfl) rfl rfl hl.1 rfl (lv_room (Nat.le_of_ble_eq_true rfl)) dX0_become_138 ⟨Nat.zero_le _, Nat.zero_le _⟩) hS (fun H locs hP hS => ?_)
              refine va_put (ci := 0) (v := .int u143) (ty := .int) (C := RX0) (T := TX0) (N := 8) hx hb hts (by decide +kernel) tyX0 tyX0_ok nmX0 hown hK hP (ww_D hj) hS 40 cc_ext rfl 7 (by decide) (hts (.fieldLink RX0 33 "NumberFieldFactors$Extension" "mateOfTSquared" "I") (by decide +kernel)) (fun _ h9 => h9) rfl (by decide +kernel) rfl rfl (Nat.le_of_ble_eq_true rfl) dX0_become_141 (fun H locs hP hD hS => ?_)
              have hP := cs_E7 hP
              refine lv_iconst (v := 1) hx hb dX0_become_144 (by decide) ?_
              obtain rfl := Option.some.inj hf
              exact W.zret (v := 1) (ty := .boolean) hx hb hr (by decide) (fun t ht hW => ⟨rfl, by rw [ht]; exact hP, hS.F ht⟩) hS.2.2 dX0_become_145
            · rw [if_pos c140] at hf
              refine lv_bipush (v := 101) hx hb dX0_become_99 (by decide) ?_
              refine lv_iload_n hx hb dX0_become_101 rfl (lv_at hl 4 rfl) ?_
              refine lv_isub hx hb dX0_become_102 ?_
              refine lv_bipush (v := 101) hx hb dX0_become_103 (by decide) ?_
              refine jv_irem hx hb dX0_become_105 (by decide) ?_
              refine lv_goto (tgt := 111) hx hb dX0_become_106 (by decide) ?_
              refine va_put (ci := 0) (v := .int (jrem (101 - p1) 101)) (ty := .int) (C := RX0) (T := TX0) (N := 8) hx hb hts (by decide +kernel) tyX0 tyX0_ok nmX0 hown hK hP (ww_D hj) hS 40 cc_ext rfl 5 (by decide) (hts (.fieldLink RX0 27 "NumberFieldFactors$Extension" "t" "I") (by decide +kernel)) (fun _ h9 => h9) rfl (by decide +kernel) rfl rfl (Nat.le_of_ble_eq_true rfl) dX0_become_111 (fun H locs hP hD hS => ?_)
              have hP := cs_E5 hP
              refine lv_aload_n hx hb dX0_become_114 rfl (lv_at hl 2 rfl) ?_
              refine lv_aload_n hx hb dX0_become_115 rfl (lv_at hl 2 rfl) ?_
              refine lv_aload_n hx hb dX0_become_116 rfl (lv_at hl 2 rfl) ?_
              refine va_get (ci := 0) (v := .int ((va_up (va_up (va_up (va_up (va_up (va_up E 0 p0) 1 10201) 2 p1) 3 p2) 4 0) 5 (jrem (101 - p1) 101)) 5)) (C := RX0) (T := TX0) (N := 8) hx hb hts (by decide +kernel) hown hK hP 40 cc_ext rfl 5 (by decide) (hts (.fieldLink RX0 27 "NumberFieldFactors$Extension" "t" "I") (by decide +kernel)) (fun _ h9 => h9) rfl dX0_become_117 ?_
              refine lv_bipush (v := 101) hx hb dX0_become_120 (by decide) ?_
              obtain ⟨u145, g146, hf⟩ := Option.bind_eq_some_iff.mp hf
              try dsimp only at hf
              refine ct_call (va_runV (As := [.int ((va_up (va_up (va_up (va_up (va_up (va_up E 0 p0) 1 10201) 2 p1) 3 p2) 4 0) 5 (jrem (101 - p1) 101)) 5), .int 101]) (rest := [.ref (ad 40)]) ⟨hx, hb, hml, hown, hts⟩ (C_X0_power l D tys nw hn hnw hj htI htR (res := u145) g146) (cwV 2 hts gX0_become_X0_power rfl rfl rfl (by decide +kernel) ⟨Nat.le_of_ble_eq_true rfl, Nat.le_of_ble_eq_true rfl⟩) (ct_preV hn hP hK hN (ci := 0) (k := 40) rfl (by decide) rfl) rfl rfl hl.1 rfl (lv_room (Nat.le_of_ble_eq_true rfl)) dX0_become_122 ⟨Nat.zero_le _, Nat.zero_le _⟩) hS (fun H locs hP hS => ?_)
              refine va_put (ci := 0) (v := .int u145) (ty := .int) (C := RX0) (T := TX0) (N := 8) hx hb hts (by decide +kernel) tyX0 tyX0_ok nmX0 hown hK hP (ww_D hj) hS 40 cc_ext rfl 6 (by decide) (hts (.fieldLink RX0 30 "NumberFieldFactors$Extension" "mateOfT" "I") (by decide +kernel)) (fun _ h9 => h9) rfl (by decide +kernel) rfl rfl (Nat.le_of_ble_eq_true rfl) dX0_become_125 (fun H locs hP hD hS => ?_)
              have hP := cs_E6 hP
              refine lv_aload_n hx hb dX0_become_128 rfl (lv_at hl 2 rfl) ?_
              refine lv_aload_n hx hb dX0_become_129 rfl (lv_at hl 2 rfl) ?_
              refine lv_aload_n hx hb dX0_become_130 rfl (lv_at hl 2 rfl) ?_
              refine va_get (ci := 0) (v := .int ((va_up (va_up (va_up (va_up (va_up (va_up (va_up E 0 p0) 1 10201) 2 p1) 3 p2) 4 0) 5 (jrem (101 - p1) 101)) 6 u145) 6)) (C := RX0) (T := TX0) (N := 8) hx hb hts (by decide +kernel) hown hK hP 40 cc_ext rfl 6 (by decide) (hts (.fieldLink RX0 30 "NumberFieldFactors$Extension" "mateOfT" "I") (by decide +kernel)) (fun _ h9 => h9) rfl dX0_become_131 ?_
              refine lv_aload_n hx hb dX0_become_134 rfl (lv_at hl 2 rfl) ?_
              refine va_get (ci := 0) (v := .int ((va_up (va_up (va_up (va_up (va_up (va_up (va_up E 0 p0) 1 10201) 2 p1) 3 p2) 4 0) 5 (jrem (101 - p1) 101)) 6 u145) 6)) (C := RX0) (T := TX0) (N := 8) hx hb hts (by decide +kernel) hown hK hP 40 cc_ext rfl 6 (by decide) (hts (.fieldLink RX0 30 "NumberFieldFactors$Extension" "mateOfT" "I") (by decide +kernel)) (fun _ h9 => h9) rfl dX0_become_135 ?_
              obtain ⟨u147, g148, hf⟩ := Option.bind_eq_some_iff.mp hf
              try dsimp only at hf
              refine ct_call (va_runV (As := [.int ((va_up (va_up (va_up (va_up (va_up (va_up (va_up E 0 p0) 1 10201) 2 p1) 3 p2) 4 0) 5 (jrem (101 - p1) 101)) 6 u145) 6), .int ((va_up (va_up (va_up (va_up (va_up (va_up (va_up E 0 p0) 1 10201) 2 p1) 3 p2) 4 0) 5 (jrem (101 - p1) 101)) 6 u145) 6)]) (rest := [.ref (ad 40)]) ⟨hx, hb, hml, hown, hts⟩ (C_X0_times l D tys nw hn hnw hj htI htR (res := u147) g148) (cwV 2 hts gX0_become_X0_times rfl rfl rfl (by decide +kernel) ⟨Nat.le_of_ble_eq_true rfl, Nat.le_of_ble_eq_true rfl⟩) (ct_preV hn hP hK hN (ci := 0) (k := 40) rfl (by decide) rfl) rfl rfl hl.1 rfl (lv_room (Nat.le_of_ble_eq_true rfl)) dX0_become_138 ⟨Nat.zero_le _, Nat.zero_le _⟩) hS (fun H locs hP hS => ?_)
              refine va_put (ci := 0) (v := .int u147) (ty := .int) (C := RX0) (T := TX0) (N := 8) hx hb hts (by decide +kernel) tyX0 tyX0_ok nmX0 hown hK hP (ww_D hj) hS 40 cc_ext rfl 7 (by decide) (hts (.fieldLink RX0 33 "NumberFieldFactors$Extension" "mateOfTSquared" "I") (by decide +kernel)) (fun _ h9 => h9) rfl (by decide +kernel) rfl rfl (Nat.le_of_ble_eq_true rfl) dX0_become_141 (fun H locs hP hD hS => ?_)
              have hP := cs_E7 hP
              refine lv_iconst (v := 1) hx hb dX0_become_144 (by decide) ?_
              obtain rfl := Option.some.inj hf
              exact W.zret (v := 1) (ty := .boolean) hx hb hr (by decide) (fun t ht hW => ⟨rfl, by rw [ht]; exact hP, hS.F ht⟩) hS.2.2 dX0_become_145
        · rw [if_pos c129] at hf
          refine lv_bipush (v := 101) hx hb dX0_become_55 (by decide) ?_
          refine lv_goto (tgt := 73) hx hb dX0_become_57 (by decide) ?_
          refine va_put (ci := 0) (v := .int 101) (ty := .int) (C := RX0) (T := TX0) (N := 8) hx hb hts (by decide +kernel) tyX0 tyX0_ok nmX0 hown hK hP (ww_D hj) hS 40 cc_ext rfl 1 (by decide) (hts (.fieldLink RX0 15 "NumberFieldFactors$Extension" "size" "I") (by decide +kernel)) (fun _ h9 => h9) rfl (by decide +kernel) rfl rfl (Nat.le_of_ble_eq_true rfl) dX0_become_73 (fun H locs hP hD hS => ?_)
          have hP := cs_E1 hP
          refine lv_aload_n hx hb dX0_become_76 rfl (lv_at hl 2 rfl) ?_
          refine lv_iload_n hx hb dX0_become_77 rfl (lv_at hl 4 rfl) ?_
          refine va_put (ci := 0) (v := .int p1) (ty := .int) (C := RX0) (T := TX0) (N := 8) hx hb hts (by decide +kernel) tyX0 tyX0_ok nmX0 hown hK hP (ww_D hj) hS 40 cc_ext rfl 2 (by decide) (hts (.fieldLink RX0 18 "NumberFieldFactors$Extension" "low0" "I") (by decide +kernel)) (fun _ h9 => h9) rfl (by decide +kernel) rfl rfl (Nat.le_of_ble_eq_true rfl) dX0_become_78 (fun H locs hP hD hS => ?_)
          have hP := cs_E2 hP
          refine lv_aload_n hx hb dX0_become_81 rfl (lv_at hl 2 rfl) ?_
          refine lv_iload hx hb dX0_become_82 (lv_at hl 1 rfl) ?_
          refine va_put (ci := 0) (v := .int p2) (ty := .int) (C := RX0) (T := TX0) (N := 8) hx hb hts (by decide +kernel) tyX0 tyX0_ok nmX0 hown hK hP (ww_D hj) hS 40 cc_ext rfl 3 (by decide) (hts (.fieldLink RX0 21 "NumberFieldFactors$Extension" "low1" "I") (by decide +kernel)) (fun _ h9 => h9) rfl (by decide +kernel) rfl rfl (Nat.le_of_ble_eq_true rfl) dX0_become_84 (fun H locs hP hD hS => ?_)
          have hP := cs_E3 hP
          refine lv_aload_n hx hb dX0_become_87 rfl (lv_at hl 2 rfl) ?_
          refine lv_iload hx hb dX0_become_88 (lv_at hl 0 rfl) ?_
          refine va_put (ci := 0) (v := .int 0) (ty := .int) (C := RX0) (T := TX0) (N := 8) hx hb hts (by decide +kernel) tyX0 tyX0_ok nmX0 hown hK hP (ww_D hj) hS 40 cc_ext rfl 4 (by decide) (hts (.fieldLink RX0 24 "NumberFieldFactors$Extension" "low2" "I") (by decide +kernel)) (fun _ h9 => h9) rfl (by decide +kernel) rfl rfl (Nat.le_of_ble_eq_true rfl) dX0_become_90 (fun H locs hP hD hS => ?_)
          have hP := cs_E4 hP
          refine lv_aload_n hx hb dX0_become_93 rfl (lv_at hl 2 rfl) ?_
          refine lv_iload_n hx hb dX0_become_94 rfl (lv_at hl 3 rfl) ?_
          refine lv_iconst (v := 1) hx hb dX0_become_95 (by decide) ?_
          refine lv_icmp_ne (tgt := 109) hx hb dX0_become_96 (by decide) (fun c149 => ?_) (fun c149 => ?_)
          · rw [if_neg c149] at hf
            refine lv_bipush (v := 101) hx hb dX0_become_109 (by decide) ?_
            refine va_put (ci := 0) (v := .int 101) (ty := .int) (C := RX0) (T := TX0) (N := 8) hx hb hts (by decide +kernel) tyX0 tyX0_ok nmX0 hown hK hP (ww_D hj) hS 40 cc_ext rfl 5 (by decide) (hts (.fieldLink RX0 27 "NumberFieldFactors$Extension" "t" "I") (by decide +kernel)) (fun _ h9 => h9) rfl (by decide +kernel) rfl rfl (Nat.le_of_ble_eq_true rfl) dX0_become_111 (fun H locs hP hD hS => ?_)
            have hP := cs_E5 hP
            refine lv_aload_n hx hb dX0_become_114 rfl (lv_at hl 2 rfl) ?_
            refine lv_aload_n hx hb dX0_become_115 rfl (lv_at hl 2 rfl) ?_
            refine lv_aload_n hx hb dX0_become_116 rfl (lv_at hl 2 rfl) ?_
            refine va_get (ci := 0) (v := .int ((va_up (va_up (va_up (va_up (va_up (va_up E 0 p0) 1 101) 2 p1) 3 p2) 4 0) 5 101) 5)) (C := RX0) (T := TX0) (N := 8) hx hb hts (by decide +kernel) hown hK hP 40 cc_ext rfl 5 (by decide) (hts (.fieldLink RX0 27 "NumberFieldFactors$Extension" "t" "I") (by decide +kernel)) (fun _ h9 => h9) rfl dX0_become_117 ?_
            refine lv_bipush (v := 101) hx hb dX0_become_120 (by decide) ?_
            obtain ⟨u150, g151, hf⟩ := Option.bind_eq_some_iff.mp hf
            try dsimp only at hf
            refine ct_call (va_runV (As := [.int ((va_up (va_up (va_up (va_up (va_up (va_up E 0 p0) 1 101) 2 p1) 3 p2) 4 0) 5 101) 5), .int 101]) (rest := [.ref (ad 40)]) ⟨hx, hb, hml, hown, hts⟩ (C_X0_power l D tys nw hn hnw hj htI htR (res := u150) g151) (cwV 2 hts gX0_become_X0_power rfl rfl rfl (by decide +kernel) ⟨Nat.le_of_ble_eq_true rfl, Nat.le_of_ble_eq_true rfl⟩) (ct_preV hn hP hK hN (ci := 0) (k := 40) rfl (by decide) rfl) rfl rfl hl.1 rfl (lv_room (Nat.le_of_ble_eq_true rfl)) dX0_become_122 ⟨Nat.zero_le _, Nat.zero_le _⟩) hS (fun H locs hP hS => ?_)
            refine va_put (ci := 0) (v := .int u150) (ty := .int) (C := RX0) (T := TX0) (N := 8) hx hb hts (by decide +kernel) tyX0 tyX0_ok nmX0 hown hK hP (ww_D hj) hS 40 cc_ext rfl 6 (by decide) (hts (.fieldLink RX0 30 "NumberFieldFactors$Extension" "mateOfT" "I") (by decide +kernel)) (fun _ h9 => h9) rfl (by decide +kernel) rfl rfl (Nat.le_of_ble_eq_true rfl) dX0_become_125 (fun H locs hP hD hS => ?_)
            have hP := cs_E6 hP
            refine lv_aload_n hx hb dX0_become_128 rfl (lv_at hl 2 rfl) ?_
            refine lv_aload_n hx hb dX0_become_129 rfl (lv_at hl 2 rfl) ?_
            refine lv_aload_n hx hb dX0_become_130 rfl (lv_at hl 2 rfl) ?_
            refine va_get (ci := 0) (v := .int ((va_up (va_up (va_up (va_up (va_up (va_up (va_up E 0 p0) 1 101) 2 p1) 3 p2) 4 0) 5 101) 6 u150) 6)) (C := RX0) (T := TX0) (N := 8) hx hb hts (by decide +kernel) hown hK hP 40 cc_ext rfl 6 (by decide) (hts (.fieldLink RX0 30 "NumberFieldFactors$Extension" "mateOfT" "I") (by decide +kernel)) (fun _ h9 => h9) rfl dX0_become_131 ?_
            refine lv_aload_n hx hb dX0_become_134 rfl (lv_at hl 2 rfl) ?_
            refine va_get (ci := 0) (v := .int ((va_up (va_up (va_up (va_up (va_up (va_up (va_up E 0 p0) 1 101) 2 p1) 3 p2) 4 0) 5 101) 6 u150) 6)) (C := RX0) (T := TX0) (N := 8) hx hb hts (by decide +kernel) hown hK hP 40 cc_ext rfl 6 (by decide) (hts (.fieldLink RX0 30 "NumberFieldFactors$Extension" "mateOfT" "I") (by decide +kernel)) (fun _ h9 => h9) rfl dX0_become_135 ?_
            obtain ⟨u152, g153, hf⟩ := Option.bind_eq_some_iff.mp hf
            try dsimp only at hf
            refine ct_call (va_runV (As := [.int ((va_up (va_up (va_up (va_up (va_up (va_up (va_up E 0 p0) 1 101) 2 p1) 3 p2) 4 0) 5 101) 6 u150) 6), .int ((va_up (va_up (va_up (va_up (va_up (va_up (va_up E 0 p0) 1 101) 2 p1) 3 p2) 4 0) 5 101) 6 u150) 6)]) (rest := [.ref (ad 40)]) ⟨hx, hb, hml, hown, hts⟩ (C_X0_times l D tys nw hn hnw hj htI htR (res := u152) g153) (cwV 2 hts gX0_become_X0_times rfl rfl rfl (by decide +kernel) ⟨Nat.le_of_ble_eq_true rfl, Nat.le_of_ble_eq_true rfl⟩) (ct_preV hn hP hK hN (ci := 0) (k := 40) rfl (by decide) rfl) rfl rfl hl.1 rfl (lv_room (Nat.le_of_ble_eq_true rfl)) dX0_become_138 ⟨Nat.zero_le _, Nat.zero_le _⟩) hS (fun H locs hP hS => ?_)
            refine va_put (ci := 0) (v := .int u152) (ty := .int) (C := RX0) (T := TX0) (N := 8) hx hb hts (by decide +kernel) tyX0 tyX0_ok nmX0 hown hK hP (ww_D hj) hS 40 cc_ext rfl 7 (by decide) (hts (.fieldLink RX0 33 "NumberFieldFactors$Extension" "mateOfTSquared" "I") (by decide +kernel)) (fun _ h9 => h9) rfl (by decide +kernel) rfl rfl (Nat.le_of_ble_eq_true rfl) dX0_become_141 (fun H locs hP hD hS => ?_)
            have hP := cs_E7 hP
            refine lv_iconst (v := 1) hx hb dX0_become_144 (by decide) ?_
            obtain rfl := Option.some.inj hf
            exact W.zret (v := 1) (ty := .boolean) hx hb hr (by decide) (fun t ht hW => ⟨rfl, by rw [ht]; exact hP, hS.F ht⟩) hS.2.2 dX0_become_145
          · rw [if_pos c149] at hf
            refine lv_bipush (v := 101) hx hb dX0_become_99 (by decide) ?_
            refine lv_iload_n hx hb dX0_become_101 rfl (lv_at hl 4 rfl) ?_
            refine lv_isub hx hb dX0_become_102 ?_
            refine lv_bipush (v := 101) hx hb dX0_become_103 (by decide) ?_
            refine jv_irem hx hb dX0_become_105 (by decide) ?_
            refine lv_goto (tgt := 111) hx hb dX0_become_106 (by decide) ?_
            refine va_put (ci := 0) (v := .int (jrem (101 - p1) 101)) (ty := .int) (C := RX0) (T := TX0) (N := 8) hx hb hts (by decide +kernel) tyX0 tyX0_ok nmX0 hown hK hP (ww_D hj) hS 40 cc_ext rfl 5 (by decide) (hts (.fieldLink RX0 27 "NumberFieldFactors$Extension" "t" "I") (by decide +kernel)) (fun _ h9 => h9) rfl (by decide +kernel) rfl rfl (Nat.le_of_ble_eq_true rfl) dX0_become_111 (fun H locs hP hD hS => ?_)
            have hP := cs_E5 hP
            refine lv_aload_n hx hb dX0_become_114 rfl (lv_at hl 2 rfl) ?_
            refine lv_aload_n hx hb dX0_become_115 rfl (lv_at hl 2 rfl) ?_
            refine lv_aload_n hx hb dX0_become_116 rfl (lv_at hl 2 rfl) ?_
            refine va_get (ci := 0) (v := .int ((va_up (va_up (va_up (va_up (va_up (va_up E 0 p0) 1 101) 2 p1) 3 p2) 4 0) 5 (jrem (101 - p1) 101)) 5)) (C := RX0) (T := TX0) (N := 8) hx hb hts (by decide +kernel) hown hK hP 40 cc_ext rfl 5 (by decide) (hts (.fieldLink RX0 27 "NumberFieldFactors$Extension" "t" "I") (by decide +kernel)) (fun _ h9 => h9) rfl dX0_become_117 ?_
            refine lv_bipush (v := 101) hx hb dX0_become_120 (by decide) ?_
            obtain ⟨u154, g155, hf⟩ := Option.bind_eq_some_iff.mp hf
            try dsimp only at hf
            refine ct_call (va_runV (As := [.int ((va_up (va_up (va_up (va_up (va_up (va_up E 0 p0) 1 101) 2 p1) 3 p2) 4 0) 5 (jrem (101 - p1) 101)) 5), .int 101]) (rest := [.ref (ad 40)]) ⟨hx, hb, hml, hown, hts⟩ (C_X0_power l D tys nw hn hnw hj htI htR (res := u154) g155) (cwV 2 hts gX0_become_X0_power rfl rfl rfl (by decide +kernel) ⟨Nat.le_of_ble_eq_true rfl, Nat.le_of_ble_eq_true rfl⟩) (ct_preV hn hP hK hN (ci := 0) (k := 40) rfl (by decide) rfl) rfl rfl hl.1 rfl (lv_room (Nat.le_of_ble_eq_true rfl)) dX0_become_122 ⟨Nat.zero_le _, Nat.zero_le _⟩) hS (fun H locs hP hS => ?_)
            refine va_put (ci := 0) (v := .int u154) (ty := .int) (C := RX0) (T := TX0) (N := 8) hx hb hts (by decide +kernel) tyX0 tyX0_ok nmX0 hown hK hP (ww_D hj) hS 40 cc_ext rfl 6 (by decide) (hts (.fieldLink RX0 30 "NumberFieldFactors$Extension" "mateOfT" "I") (by decide +kernel)) (fun _ h9 => h9) rfl (by decide +kernel) rfl rfl (Nat.le_of_ble_eq_true rfl) dX0_become_125 (fun H locs hP hD hS => ?_)
            have hP := cs_E6 hP
            refine lv_aload_n hx hb dX0_become_128 rfl (lv_at hl 2 rfl) ?_
            refine lv_aload_n hx hb dX0_become_129 rfl (lv_at hl 2 rfl) ?_
            refine lv_aload_n hx hb dX0_become_130 rfl (lv_at hl 2 rfl) ?_
            refine va_get (ci := 0) (v := .int ((va_up (va_up (va_up (va_up (va_up (va_up (va_up E 0 p0) 1 101) 2 p1) 3 p2) 4 0) 5 (jrem (101 - p1) 101)) 6 u154) 6)) (C := RX0) (T := TX0) (N := 8) hx hb hts (by decide +kernel) hown hK hP 40 cc_ext rfl 6 (by decide) (hts (.fieldLink RX0 30 "NumberFieldFactors$Extension" "mateOfT" "I") (by decide +kernel)) (fun _ h9 => h9) rfl dX0_become_131 ?_
            refine lv_aload_n hx hb dX0_become_134 rfl (lv_at hl 2 rfl) ?_
            refine va_get (ci := 0) (v := .int ((va_up (va_up (va_up (va_up (va_up (va_up (va_up E 0 p0) 1 101) 2 p1) 3 p2) 4 0) 5 (jrem (101 - p1) 101)) 6 u154) 6)) (C := RX0) (T := TX0) (N := 8) hx hb hts (by decide +kernel) hown hK hP 40 cc_ext rfl 6 (by decide) (hts (.fieldLink RX0 30 "NumberFieldFactors$Extension" "mateOfT" "I") (by decide +kernel)) (fun _ h9 => h9) rfl dX0_become_135 ?_
            obtain ⟨u156, g157, hf⟩ := Option.bind_eq_some_iff.mp hf
            try dsimp only at hf
            refine ct_call (va_runV (As := [.int ((va_up (va_up (va_up (va_up (va_up (va_up (va_up E 0 p0) 1 101) 2 p1) 3 p2) 4 0) 5 (jrem (101 - p1) 101)) 6 u154) 6), .int ((va_up (va_up (va_up (va_up (va_up (va_up (va_up E 0 p0) 1 101) 2 p1) 3 p2) 4 0) 5 (jrem (101 - p1) 101)) 6 u154) 6)]) (rest := [.ref (ad 40)]) ⟨hx, hb, hml, hown, hts⟩ (C_X0_times l D tys nw hn hnw hj htI htR (res := u156) g157) (cwV 2 hts gX0_become_X0_times rfl rfl rfl (by decide +kernel) ⟨Nat.le_of_ble_eq_true rfl, Nat.le_of_ble_eq_true rfl⟩) (ct_preV hn hP hK hN (ci := 0) (k := 40) rfl (by decide) rfl) rfl rfl hl.1 rfl (lv_room (Nat.le_of_ble_eq_true rfl)) dX0_become_138 ⟨Nat.zero_le _, Nat.zero_le _⟩) hS (fun H locs hP hS => ?_)
            refine va_put (ci := 0) (v := .int u156) (ty := .int) (C := RX0) (T := TX0) (N := 8) hx hb hts (by decide +kernel) tyX0 tyX0_ok nmX0 hown hK hP (ww_D hj) hS 40 cc_ext rfl 7 (by decide) (hts (.fieldLink RX0 33 "NumberFieldFactors$Extension" "mateOfTSquared" "I") (by decide +kernel)) (fun _ h9 => h9) rfl (by decide +kernel) rfl rfl (Nat.le_of_ble_eq_true rfl) dX0_become_141 (fun H locs hP hD hS => ?_)
            have hP := cs_E7 hP
            refine lv_iconst (v := 1) hx hb dX0_become_144 (by decide) ?_
            obtain rfl := Option.some.inj hf
            exact W.zret (v := 1) (ty := .boolean) hx hb hr (by decide) (fun t ht hW => ⟨rfl, by rw [ht]; exact hP, hS.F ht⟩) hS.2.2 dX0_become_145
      · rw [if_neg c128] at hf
        refine lv_iload_n hx hb dX0_become_30 rfl (lv_at hl 3 rfl) ?_
        refine lv_iload_n hx hb dX0_become_31 rfl (lv_at hl 4 rfl) ?_
        refine lv_iload hx hb dX0_become_32 (lv_at hl 1 rfl) ?_
        refine lv_iload hx hb dX0_become_34 (lv_at hl 0 rfl) ?_
        obtain ⟨u158, g159, hf⟩ := Option.bind_eq_some_iff.mp hf
        try dsimp only at hf
        refine ct_call (va_runS (As := [.int p0, .int p1, .int p2, .int 0]) (rest := []) ⟨hx, hb, hml, hown, hts⟩ (C_X0_hasRoot l D tys nw hn hnw hj htI htR (res := u158) g159) (cwS 4 hts gX0_become_X0_hasRoot rfl rfl rfl (by decide +kernel) ⟨Nat.le_of_ble_eq_true rfl, Nat.le_of_ble_eq_true rfl⟩) (ct_preS hn hP hK hN) rfl rfl hl.1 rfl (lv_room (Nat.le_of_ble_eq_true rfl)) dX0_become_36 ⟨Nat.zero_le _, Nat.zero_le _⟩) hS (fun H locs hP hS => ?_)
        refine lv_if_eq (tgt := 44) hx hb dX0_become_39 (by decide) (fun c160 => ?_) (fun c160 => ?_)
        · rw [if_pos c160] at hf
          refine lv_aload_n hx hb dX0_become_44 rfl (lv_at hl 2 rfl) ?_
          refine lv_iload_n hx hb dX0_become_45 rfl (lv_at hl 3 rfl) ?_
          refine va_put (ci := 0) (v := .int p0) (ty := .int) (C := RX0) (T := TX0) (N := 8) hx hb hts (by decide +kernel) tyX0 tyX0_ok nmX0 hown hK hP (ww_D hj) hS 40 cc_ext rfl 0 (by decide) (hts (.fieldLink RX0 9 "NumberFieldFactors$Extension" "degree" "I") (by decide +kernel)) (fun _ h9 => h9) rfl (by decide +kernel) rfl rfl (Nat.le_of_ble_eq_true rfl) dX0_become_46 (fun H locs hP hD hS => ?_)
          have hP := cs_E0 hP
          refine lv_aload_n hx hb dX0_become_49 rfl (lv_at hl 2 rfl) ?_
          refine lv_iload_n hx hb dX0_become_50 rfl (lv_at hl 3 rfl) ?_
          refine lv_iconst (v := 1) hx hb dX0_become_51 (by decide) ?_
          refine lv_icmp_ne (tgt := 60) hx hb dX0_become_52 (by decide) (fun c161 => ?_) (fun c161 => ?_)
          · rw [if_neg c161] at hf
            refine lv_iload_n hx hb dX0_become_60 rfl (lv_at hl 3 rfl) ?_
            refine lv_iconst (v := 2) hx hb dX0_become_61 (by decide) ?_
            refine lv_icmp_ne (tgt := 71) hx hb dX0_become_62 (by decide) (fun c162 => ?_) (fun c162 => ?_)
            · rw [if_neg c162] at hf
              refine lv_ldc (v := 1030301) hx hb hown (hts (.constant RX0 40 (1030301)) (by decide +kernel)) dX0_become_71 ?_
              refine va_put (ci := 0) (v := .int 1030301) (ty := .int) (C := RX0) (T := TX0) (N := 8) hx hb hts (by decide +kernel) tyX0 tyX0_ok nmX0 hown hK hP (ww_D hj) hS 40 cc_ext rfl 1 (by decide) (hts (.fieldLink RX0 15 "NumberFieldFactors$Extension" "size" "I") (by decide +kernel)) (fun _ h9 => h9) rfl (by decide +kernel) rfl rfl (Nat.le_of_ble_eq_true rfl) dX0_become_73 (fun H locs hP hD hS => ?_)
              have hP := cs_E1 hP
              refine lv_aload_n hx hb dX0_become_76 rfl (lv_at hl 2 rfl) ?_
              refine lv_iload_n hx hb dX0_become_77 rfl (lv_at hl 4 rfl) ?_
              refine va_put (ci := 0) (v := .int p1) (ty := .int) (C := RX0) (T := TX0) (N := 8) hx hb hts (by decide +kernel) tyX0 tyX0_ok nmX0 hown hK hP (ww_D hj) hS 40 cc_ext rfl 2 (by decide) (hts (.fieldLink RX0 18 "NumberFieldFactors$Extension" "low0" "I") (by decide +kernel)) (fun _ h9 => h9) rfl (by decide +kernel) rfl rfl (Nat.le_of_ble_eq_true rfl) dX0_become_78 (fun H locs hP hD hS => ?_)
              have hP := cs_E2 hP
              refine lv_aload_n hx hb dX0_become_81 rfl (lv_at hl 2 rfl) ?_
              refine lv_iload hx hb dX0_become_82 (lv_at hl 1 rfl) ?_
              refine va_put (ci := 0) (v := .int p2) (ty := .int) (C := RX0) (T := TX0) (N := 8) hx hb hts (by decide +kernel) tyX0 tyX0_ok nmX0 hown hK hP (ww_D hj) hS 40 cc_ext rfl 3 (by decide) (hts (.fieldLink RX0 21 "NumberFieldFactors$Extension" "low1" "I") (by decide +kernel)) (fun _ h9 => h9) rfl (by decide +kernel) rfl rfl (Nat.le_of_ble_eq_true rfl) dX0_become_84 (fun H locs hP hD hS => ?_)
              have hP := cs_E3 hP
              refine lv_aload_n hx hb dX0_become_87 rfl (lv_at hl 2 rfl) ?_
              refine lv_iload hx hb dX0_become_88 (lv_at hl 0 rfl) ?_
              refine va_put (ci := 0) (v := .int 0) (ty := .int) (C := RX0) (T := TX0) (N := 8) hx hb hts (by decide +kernel) tyX0 tyX0_ok nmX0 hown hK hP (ww_D hj) hS 40 cc_ext rfl 4 (by decide) (hts (.fieldLink RX0 24 "NumberFieldFactors$Extension" "low2" "I") (by decide +kernel)) (fun _ h9 => h9) rfl (by decide +kernel) rfl rfl (Nat.le_of_ble_eq_true rfl) dX0_become_90 (fun H locs hP hD hS => ?_)
              have hP := cs_E4 hP
              refine lv_aload_n hx hb dX0_become_93 rfl (lv_at hl 2 rfl) ?_
              refine lv_iload_n hx hb dX0_become_94 rfl (lv_at hl 3 rfl) ?_
              refine lv_iconst (v := 1) hx hb dX0_become_95 (by decide) ?_
              refine lv_icmp_ne (tgt := 109) hx hb dX0_become_96 (by decide) (fun c163 => ?_) (fun c163 => ?_)
              · rw [if_neg c163] at hf
                refine lv_bipush (v := 101) hx hb dX0_become_109 (by decide) ?_
                refine va_put (ci := 0) (v := .int 101) (ty := .int) (C := RX0) (T := TX0) (N := 8) hx hb hts (by decide +kernel) tyX0 tyX0_ok nmX0 hown hK hP (ww_D hj) hS 40 cc_ext rfl 5 (by decide) (hts (.fieldLink RX0 27 "NumberFieldFactors$Extension" "t" "I") (by decide +kernel)) (fun _ h9 => h9) rfl (by decide +kernel) rfl rfl (Nat.le_of_ble_eq_true rfl) dX0_become_111 (fun H locs hP hD hS => ?_)
                have hP := cs_E5 hP
                refine lv_aload_n hx hb dX0_become_114 rfl (lv_at hl 2 rfl) ?_
                refine lv_aload_n hx hb dX0_become_115 rfl (lv_at hl 2 rfl) ?_
                refine lv_aload_n hx hb dX0_become_116 rfl (lv_at hl 2 rfl) ?_
                refine va_get (ci := 0) (v := .int ((va_up (va_up (va_up (va_up (va_up (va_up E 0 p0) 1 1030301) 2 p1) 3 p2) 4 0) 5 101) 5)) (C := RX0) (T := TX0) (N := 8) hx hb hts (by decide +kernel) hown hK hP 40 cc_ext rfl 5 (by decide) (hts (.fieldLink RX0 27 "NumberFieldFactors$Extension" "t" "I") (by decide +kernel)) (fun _ h9 => h9) rfl dX0_become_117 ?_
                refine lv_bipush (v := 101) hx hb dX0_become_120 (by decide) ?_
                obtain ⟨u164, g165, hf⟩ := Option.bind_eq_some_iff.mp hf
                try dsimp only at hf
                refine ct_call (va_runV (As := [.int ((va_up (va_up (va_up (va_up (va_up (va_up E 0 p0) 1 1030301) 2 p1) 3 p2) 4 0) 5 101) 5), .int 101]) (rest := [.ref (ad 40)]) ⟨hx, hb, hml, hown, hts⟩ (C_X0_power l D tys nw hn hnw hj htI htR (res := u164) g165) (cwV 2 hts gX0_become_X0_power rfl rfl rfl (by decide +kernel) ⟨Nat.le_of_ble_eq_true rfl, Nat.le_of_ble_eq_true rfl⟩) (ct_preV hn hP hK hN (ci := 0) (k := 40) rfl (by decide) rfl) rfl rfl hl.1 rfl (lv_room (Nat.le_of_ble_eq_true rfl)) dX0_become_122 ⟨Nat.zero_le _, Nat.zero_le _⟩) hS (fun H locs hP hS => ?_)
                refine va_put (ci := 0) (v := .int u164) (ty := .int) (C := RX0) (T := TX0) (N := 8) hx hb hts (by decide +kernel) tyX0 tyX0_ok nmX0 hown hK hP (ww_D hj) hS 40 cc_ext rfl 6 (by decide) (hts (.fieldLink RX0 30 "NumberFieldFactors$Extension" "mateOfT" "I") (by decide +kernel)) (fun _ h9 => h9) rfl (by decide +kernel) rfl rfl (Nat.le_of_ble_eq_true rfl) dX0_become_125 (fun H locs hP hD hS => ?_)
                have hP := cs_E6 hP
                refine lv_aload_n hx hb dX0_become_128 rfl (lv_at hl 2 rfl) ?_
                refine lv_aload_n hx hb dX0_become_129 rfl (lv_at hl 2 rfl) ?_
                refine lv_aload_n hx hb dX0_become_130 rfl (lv_at hl 2 rfl) ?_
                refine va_get (ci := 0) (v := .int ((va_up (va_up (va_up (va_up (va_up (va_up (va_up E 0 p0) 1 1030301) 2 p1) 3 p2) 4 0) 5 101) 6 u164) 6)) (C := RX0) (T := TX0) (N := 8) hx hb hts (by decide +kernel) hown hK hP 40 cc_ext rfl 6 (by decide) (hts (.fieldLink RX0 30 "NumberFieldFactors$Extension" "mateOfT" "I") (by decide +kernel)) (fun _ h9 => h9) rfl dX0_become_131 ?_
                refine lv_aload_n hx hb dX0_become_134 rfl (lv_at hl 2 rfl) ?_
                refine va_get (ci := 0) (v := .int ((va_up (va_up (va_up (va_up (va_up (va_up (va_up E 0 p0) 1 1030301) 2 p1) 3 p2) 4 0) 5 101) 6 u164) 6)) (C := RX0) (T := TX0) (N := 8) hx hb hts (by decide +kernel) hown hK hP 40 cc_ext rfl 6 (by decide) (hts (.fieldLink RX0 30 "NumberFieldFactors$Extension" "mateOfT" "I") (by decide +kernel)) (fun _ h9 => h9) rfl dX0_become_135 ?_
                obtain ⟨u166, g167, hf⟩ := Option.bind_eq_some_iff.mp hf
                try dsimp only at hf
                refine ct_call (va_runV (As := [.int ((va_up (va_up (va_up (va_up (va_up (va_up (va_up E 0 p0) 1 1030301) 2 p1) 3 p2) 4 0) 5 101) 6 u164) 6), .int ((va_up (va_up (va_up (va_up (va_up (va_up (va_up E 0 p0) 1 1030301) 2 p1) 3 p2) 4 0) 5 101) 6 u164) 6)]) (rest := [.ref (ad 40)]) ⟨hx, hb, hml, hown, hts⟩ (C_X0_times l D tys nw hn hnw hj htI htR (res := u166) g167) (cwV 2 hts gX0_become_X0_times rfl rfl rfl (by decide +kernel) ⟨Nat.le_of_ble_eq_true rfl, Nat.le_of_ble_eq_true rfl⟩) (ct_preV hn hP hK hN (ci := 0) (k := 40) rfl (by decide) rfl) rfl rfl hl.1 rfl (lv_room (Nat.le_of_ble_eq_true rfl)) dX0_become_138 ⟨Nat.zero_le _, Nat.zero_le _⟩) hS (fun H locs hP hS => ?_)
                refine va_put (ci := 0) (v := .int u166) (ty := .int) (C := RX0) (T := TX0) (N := 8) hx hb hts (by decide +kernel) tyX0 tyX0_ok nmX0 hown hK hP (ww_D hj) hS 40 cc_ext rfl 7 (by decide) (hts (.fieldLink RX0 33 "NumberFieldFactors$Extension" "mateOfTSquared" "I") (by decide +kernel)) (fun _ h9 => h9) rfl (by decide +kernel) rfl rfl (Nat.le_of_ble_eq_true rfl) dX0_become_141 (fun H locs hP hD hS => ?_)
                have hP := cs_E7 hP
                refine lv_iconst (v := 1) hx hb dX0_become_144 (by decide) ?_
                obtain rfl := Option.some.inj hf
                exact W.zret (v := 1) (ty := .boolean) hx hb hr (by decide) (fun t ht hW => ⟨rfl, by rw [ht]; exact hP, hS.F ht⟩) hS.2.2 dX0_become_145
              · rw [if_pos c163] at hf
                refine lv_bipush (v := 101) hx hb dX0_become_99 (by decide) ?_
                refine lv_iload_n hx hb dX0_become_101 rfl (lv_at hl 4 rfl) ?_
                refine lv_isub hx hb dX0_become_102 ?_
                refine lv_bipush (v := 101) hx hb dX0_become_103 (by decide) ?_
                refine jv_irem hx hb dX0_become_105 (by decide) ?_
                refine lv_goto (tgt := 111) hx hb dX0_become_106 (by decide) ?_
                refine va_put (ci := 0) (v := .int (jrem (101 - p1) 101)) (ty := .int) (C := RX0) (T := TX0) (N := 8) hx hb hts (by decide +kernel) tyX0 tyX0_ok nmX0 hown hK hP (ww_D hj) hS 40 cc_ext rfl 5 (by decide) (hts (.fieldLink RX0 27 "NumberFieldFactors$Extension" "t" "I") (by decide +kernel)) (fun _ h9 => h9) rfl (by decide +kernel) rfl rfl (Nat.le_of_ble_eq_true rfl) dX0_become_111 (fun H locs hP hD hS => ?_)
                have hP := cs_E5 hP
                refine lv_aload_n hx hb dX0_become_114 rfl (lv_at hl 2 rfl) ?_
                refine lv_aload_n hx hb dX0_become_115 rfl (lv_at hl 2 rfl) ?_
                refine lv_aload_n hx hb dX0_become_116 rfl (lv_at hl 2 rfl) ?_
                refine va_get (ci := 0) (v := .int ((va_up (va_up (va_up (va_up (va_up (va_up E 0 p0) 1 1030301) 2 p1) 3 p2) 4 0) 5 (jrem (101 - p1) 101)) 5)) (C := RX0) (T := TX0) (N := 8) hx hb hts (by decide +kernel) hown hK hP 40 cc_ext rfl 5 (by decide) (hts (.fieldLink RX0 27 "NumberFieldFactors$Extension" "t" "I") (by decide +kernel)) (fun _ h9 => h9) rfl dX0_become_117 ?_
                refine lv_bipush (v := 101) hx hb dX0_become_120 (by decide) ?_
                obtain ⟨u168, g169, hf⟩ := Option.bind_eq_some_iff.mp hf
                try dsimp only at hf
                refine ct_call (va_runV (As := [.int ((va_up (va_up (va_up (va_up (va_up (va_up E 0 p0) 1 1030301) 2 p1) 3 p2) 4 0) 5 (jrem (101 - p1) 101)) 5), .int 101]) (rest := [.ref (ad 40)]) ⟨hx, hb, hml, hown, hts⟩ (C_X0_power l D tys nw hn hnw hj htI htR (res := u168) g169) (cwV 2 hts gX0_become_X0_power rfl rfl rfl (by decide +kernel) ⟨Nat.le_of_ble_eq_true rfl, Nat.le_of_ble_eq_true rfl⟩) (ct_preV hn hP hK hN (ci := 0) (k := 40) rfl (by decide) rfl) rfl rfl hl.1 rfl (lv_room (Nat.le_of_ble_eq_true rfl)) dX0_become_122 ⟨Nat.zero_le _, Nat.zero_le _⟩) hS (fun H locs hP hS => ?_)
                refine va_put (ci := 0) (v := .int u168) (ty := .int) (C := RX0) (T := TX0) (N := 8) hx hb hts (by decide +kernel) tyX0 tyX0_ok nmX0 hown hK hP (ww_D hj) hS 40 cc_ext rfl 6 (by decide) (hts (.fieldLink RX0 30 "NumberFieldFactors$Extension" "mateOfT" "I") (by decide +kernel)) (fun _ h9 => h9) rfl (by decide +kernel) rfl rfl (Nat.le_of_ble_eq_true rfl) dX0_become_125 (fun H locs hP hD hS => ?_)
                have hP := cs_E6 hP
                refine lv_aload_n hx hb dX0_become_128 rfl (lv_at hl 2 rfl) ?_
                refine lv_aload_n hx hb dX0_become_129 rfl (lv_at hl 2 rfl) ?_
                refine lv_aload_n hx hb dX0_become_130 rfl (lv_at hl 2 rfl) ?_
                refine va_get (ci := 0) (v := .int ((va_up (va_up (va_up (va_up (va_up (va_up (va_up E 0 p0) 1 1030301) 2 p1) 3 p2) 4 0) 5 (jrem (101 - p1) 101)) 6 u168) 6)) (C := RX0) (T := TX0) (N := 8) hx hb hts (by decide +kernel) hown hK hP 40 cc_ext rfl 6 (by decide) (hts (.fieldLink RX0 30 "NumberFieldFactors$Extension" "mateOfT" "I") (by decide +kernel)) (fun _ h9 => h9) rfl dX0_become_131 ?_
                refine lv_aload_n hx hb dX0_become_134 rfl (lv_at hl 2 rfl) ?_
                refine va_get (ci := 0) (v := .int ((va_up (va_up (va_up (va_up (va_up (va_up (va_up E 0 p0) 1 1030301) 2 p1) 3 p2) 4 0) 5 (jrem (101 - p1) 101)) 6 u168) 6)) (C := RX0) (T := TX0) (N := 8) hx hb hts (by decide +kernel) hown hK hP 40 cc_ext rfl 6 (by decide) (hts (.fieldLink RX0 30 "NumberFieldFactors$Extension" "mateOfT" "I") (by decide +kernel)) (fun _ h9 => h9) rfl dX0_become_135 ?_
                obtain ⟨u170, g171, hf⟩ := Option.bind_eq_some_iff.mp hf
                try dsimp only at hf
                refine ct_call (va_runV (As := [.int ((va_up (va_up (va_up (va_up (va_up (va_up (va_up E 0 p0) 1 1030301) 2 p1) 3 p2) 4 0) 5 (jrem (101 - p1) 101)) 6 u168) 6), .int ((va_up (va_up (va_up (va_up (va_up (va_up (va_up E 0 p0) 1 1030301) 2 p1) 3 p2) 4 0) 5 (jrem (101 - p1) 101)) 6 u168) 6)]) (rest := [.ref (ad 40)]) ⟨hx, hb, hml, hown, hts⟩ (C_X0_times l D tys nw hn hnw hj htI htR (res := u170) g171) (cwV 2 hts gX0_become_X0_times rfl rfl rfl (by decide +kernel) ⟨Nat.le_of_ble_eq_true rfl, Nat.le_of_ble_eq_true rfl⟩) (ct_preV hn hP hK hN (ci := 0) (k := 40) rfl (by decide) rfl) rfl rfl hl.1 rfl (lv_room (Nat.le_of_ble_eq_true rfl)) dX0_become_138 ⟨Nat.zero_le _, Nat.zero_le _⟩) hS (fun H locs hP hS => ?_)
                refine va_put (ci := 0) (v := .int u170) (ty := .int) (C := RX0) (T := TX0) (N := 8) hx hb hts (by decide +kernel) tyX0 tyX0_ok nmX0 hown hK hP (ww_D hj) hS 40 cc_ext rfl 7 (by decide) (hts (.fieldLink RX0 33 "NumberFieldFactors$Extension" "mateOfTSquared" "I") (by decide +kernel)) (fun _ h9 => h9) rfl (by decide +kernel) rfl rfl (Nat.le_of_ble_eq_true rfl) dX0_become_141 (fun H locs hP hD hS => ?_)
                have hP := cs_E7 hP
                refine lv_iconst (v := 1) hx hb dX0_become_144 (by decide) ?_
                obtain rfl := Option.some.inj hf
                exact W.zret (v := 1) (ty := .boolean) hx hb hr (by decide) (fun t ht hW => ⟨rfl, by rw [ht]; exact hP, hS.F ht⟩) hS.2.2 dX0_become_145
            · rw [if_pos c162] at hf
              refine lv_sipush (v := 10201) hx hb dX0_become_65 (by decide) ?_
              refine lv_goto (tgt := 73) hx hb dX0_become_68 (by decide) ?_
              refine va_put (ci := 0) (v := .int 10201) (ty := .int) (C := RX0) (T := TX0) (N := 8) hx hb hts (by decide +kernel) tyX0 tyX0_ok nmX0 hown hK hP (ww_D hj) hS 40 cc_ext rfl 1 (by decide) (hts (.fieldLink RX0 15 "NumberFieldFactors$Extension" "size" "I") (by decide +kernel)) (fun _ h9 => h9) rfl (by decide +kernel) rfl rfl (Nat.le_of_ble_eq_true rfl) dX0_become_73 (fun H locs hP hD hS => ?_)
              have hP := cs_E1 hP
              refine lv_aload_n hx hb dX0_become_76 rfl (lv_at hl 2 rfl) ?_
              refine lv_iload_n hx hb dX0_become_77 rfl (lv_at hl 4 rfl) ?_
              refine va_put (ci := 0) (v := .int p1) (ty := .int) (C := RX0) (T := TX0) (N := 8) hx hb hts (by decide +kernel) tyX0 tyX0_ok nmX0 hown hK hP (ww_D hj) hS 40 cc_ext rfl 2 (by decide) (hts (.fieldLink RX0 18 "NumberFieldFactors$Extension" "low0" "I") (by decide +kernel)) (fun _ h9 => h9) rfl (by decide +kernel) rfl rfl (Nat.le_of_ble_eq_true rfl) dX0_become_78 (fun H locs hP hD hS => ?_)
              have hP := cs_E2 hP
              refine lv_aload_n hx hb dX0_become_81 rfl (lv_at hl 2 rfl) ?_
              refine lv_iload hx hb dX0_become_82 (lv_at hl 1 rfl) ?_
              refine va_put (ci := 0) (v := .int p2) (ty := .int) (C := RX0) (T := TX0) (N := 8) hx hb hts (by decide +kernel) tyX0 tyX0_ok nmX0 hown hK hP (ww_D hj) hS 40 cc_ext rfl 3 (by decide) (hts (.fieldLink RX0 21 "NumberFieldFactors$Extension" "low1" "I") (by decide +kernel)) (fun _ h9 => h9) rfl (by decide +kernel) rfl rfl (Nat.le_of_ble_eq_true rfl) dX0_become_84 (fun H locs hP hD hS => ?_)
              have hP := cs_E3 hP
              refine lv_aload_n hx hb dX0_become_87 rfl (lv_at hl 2 rfl) ?_
              refine lv_iload hx hb dX0_become_88 (lv_at hl 0 rfl) ?_
              refine va_put (ci := 0) (v := .int 0) (ty := .int) (C := RX0) (T := TX0) (N := 8) hx hb hts (by decide +kernel) tyX0 tyX0_ok nmX0 hown hK hP (ww_D hj) hS 40 cc_ext rfl 4 (by decide) (hts (.fieldLink RX0 24 "NumberFieldFactors$Extension" "low2" "I") (by decide +kernel)) (fun _ h9 => h9) rfl (by decide +kernel) rfl rfl (Nat.le_of_ble_eq_true rfl) dX0_become_90 (fun H locs hP hD hS => ?_)
              have hP := cs_E4 hP
              refine lv_aload_n hx hb dX0_become_93 rfl (lv_at hl 2 rfl) ?_
              refine lv_iload_n hx hb dX0_become_94 rfl (lv_at hl 3 rfl) ?_
              refine lv_iconst (v := 1) hx hb dX0_become_95 (by decide) ?_
              refine lv_icmp_ne (tgt := 109) hx hb dX0_become_96 (by decide) (fun c172 => ?_) (fun c172 => ?_)
              · rw [if_neg c172] at hf
                refine lv_bipush (v := 101) hx hb dX0_become_109 (by decide) ?_
                refine va_put (ci := 0) (v := .int 101) (ty := .int) (C := RX0) (T := TX0) (N := 8) hx hb hts (by decide +kernel) tyX0 tyX0_ok nmX0 hown hK hP (ww_D hj) hS 40 cc_ext rfl 5 (by decide) (hts (.fieldLink RX0 27 "NumberFieldFactors$Extension" "t" "I") (by decide +kernel)) (fun _ h9 => h9) rfl (by decide +kernel) rfl rfl (Nat.le_of_ble_eq_true rfl) dX0_become_111 (fun H locs hP hD hS => ?_)
                have hP := cs_E5 hP
                refine lv_aload_n hx hb dX0_become_114 rfl (lv_at hl 2 rfl) ?_
                refine lv_aload_n hx hb dX0_become_115 rfl (lv_at hl 2 rfl) ?_
                refine lv_aload_n hx hb dX0_become_116 rfl (lv_at hl 2 rfl) ?_
                refine va_get (ci := 0) (v := .int ((va_up (va_up (va_up (va_up (va_up (va_up E 0 p0) 1 10201) 2 p1) 3 p2) 4 0) 5 101) 5)) (C := RX0) (T := TX0) (N := 8) hx hb hts (by decide +kernel) hown hK hP 40 cc_ext rfl 5 (by decide) (hts (.fieldLink RX0 27 "NumberFieldFactors$Extension" "t" "I") (by decide +kernel)) (fun _ h9 => h9) rfl dX0_become_117 ?_
                refine lv_bipush (v := 101) hx hb dX0_become_120 (by decide) ?_
                obtain ⟨u173, g174, hf⟩ := Option.bind_eq_some_iff.mp hf
                try dsimp only at hf
                refine ct_call (va_runV (As := [.int ((va_up (va_up (va_up (va_up (va_up (va_up E 0 p0) 1 10201) 2 p1) 3 p2) 4 0) 5 101) 5), .int 101]) (rest := [.ref (ad 40)]) ⟨hx, hb, hml, hown, hts⟩ (C_X0_power l D tys nw hn hnw hj htI htR (res := u173) g174) (cwV 2 hts gX0_become_X0_power rfl rfl rfl (by decide +kernel) ⟨Nat.le_of_ble_eq_true rfl, Nat.le_of_ble_eq_true rfl⟩) (ct_preV hn hP hK hN (ci := 0) (k := 40) rfl (by decide) rfl) rfl rfl hl.1 rfl (lv_room (Nat.le_of_ble_eq_true rfl)) dX0_become_122 ⟨Nat.zero_le _, Nat.zero_le _⟩) hS (fun H locs hP hS => ?_)
                refine va_put (ci := 0) (v := .int u173) (ty := .int) (C := RX0) (T := TX0) (N := 8) hx hb hts (by decide +kernel) tyX0 tyX0_ok nmX0 hown hK hP (ww_D hj) hS 40 cc_ext rfl 6 (by decide) (hts (.fieldLink RX0 30 "NumberFieldFactors$Extension" "mateOfT" "I") (by decide +kernel)) (fun _ h9 => h9) rfl (by decide +kernel) rfl rfl (Nat.le_of_ble_eq_true rfl) dX0_become_125 (fun H locs hP hD hS => ?_)
                have hP := cs_E6 hP
                refine lv_aload_n hx hb dX0_become_128 rfl (lv_at hl 2 rfl) ?_
                refine lv_aload_n hx hb dX0_become_129 rfl (lv_at hl 2 rfl) ?_
                refine lv_aload_n hx hb dX0_become_130 rfl (lv_at hl 2 rfl) ?_
                refine va_get (ci := 0) (v := .int ((va_up (va_up (va_up (va_up (va_up (va_up (va_up E 0 p0) 1 10201) 2 p1) 3 p2) 4 0) 5 101) 6 u173) 6)) (C := RX0) (T := TX0) (N := 8) hx hb hts (by decide +kernel) hown hK hP 40 cc_ext rfl 6 (by decide) (hts (.fieldLink RX0 30 "NumberFieldFactors$Extension" "mateOfT" "I") (by decide +kernel)) (fun _ h9 => h9) rfl dX0_become_131 ?_
                refine lv_aload_n hx hb dX0_become_134 rfl (lv_at hl 2 rfl) ?_
                refine va_get (ci := 0) (v := .int ((va_up (va_up (va_up (va_up (va_up (va_up (va_up E 0 p0) 1 10201) 2 p1) 3 p2) 4 0) 5 101) 6 u173) 6)) (C := RX0) (T := TX0) (N := 8) hx hb hts (by decide +kernel) hown hK hP 40 cc_ext rfl 6 (by decide) (hts (.fieldLink RX0 30 "NumberFieldFactors$Extension" "mateOfT" "I") (by decide +kernel)) (fun _ h9 => h9) rfl dX0_become_135 ?_
                obtain ⟨u175, g176, hf⟩ := Option.bind_eq_some_iff.mp hf
                try dsimp only at hf
                refine ct_call (va_runV (As := [.int ((va_up (va_up (va_up (va_up (va_up (va_up (va_up E 0 p0) 1 10201) 2 p1) 3 p2) 4 0) 5 101) 6 u173) 6), .int ((va_up (va_up (va_up (va_up (va_up (va_up (va_up E 0 p0) 1 10201) 2 p1) 3 p2) 4 0) 5 101) 6 u173) 6)]) (rest := [.ref (ad 40)]) ⟨hx, hb, hml, hown, hts⟩ (C_X0_times l D tys nw hn hnw hj htI htR (res := u175) g176) (cwV 2 hts gX0_become_X0_times rfl rfl rfl (by decide +kernel) ⟨Nat.le_of_ble_eq_true rfl, Nat.le_of_ble_eq_true rfl⟩) (ct_preV hn hP hK hN (ci := 0) (k := 40) rfl (by decide) rfl) rfl rfl hl.1 rfl (lv_room (Nat.le_of_ble_eq_true rfl)) dX0_become_138 ⟨Nat.zero_le _, Nat.zero_le _⟩) hS (fun H locs hP hS => ?_)
                refine va_put (ci := 0) (v := .int u175) (ty := .int) (C := RX0) (T := TX0) (N := 8) hx hb hts (by decide +kernel) tyX0 tyX0_ok nmX0 hown hK hP (ww_D hj) hS 40 cc_ext rfl 7 (by decide) (hts (.fieldLink RX0 33 "NumberFieldFactors$Extension" "mateOfTSquared" "I") (by decide +kernel)) (fun _ h9 => h9) rfl (by decide +kernel) rfl rfl (Nat.le_of_ble_eq_true rfl) dX0_become_141 (fun H locs hP hD hS => ?_)
                have hP := cs_E7 hP
                refine lv_iconst (v := 1) hx hb dX0_become_144 (by decide) ?_
                obtain rfl := Option.some.inj hf
                exact W.zret (v := 1) (ty := .boolean) hx hb hr (by decide) (fun t ht hW => ⟨rfl, by rw [ht]; exact hP, hS.F ht⟩) hS.2.2 dX0_become_145
              · rw [if_pos c172] at hf
                refine lv_bipush (v := 101) hx hb dX0_become_99 (by decide) ?_
                refine lv_iload_n hx hb dX0_become_101 rfl (lv_at hl 4 rfl) ?_
                refine lv_isub hx hb dX0_become_102 ?_
                refine lv_bipush (v := 101) hx hb dX0_become_103 (by decide) ?_
                refine jv_irem hx hb dX0_become_105 (by decide) ?_
                refine lv_goto (tgt := 111) hx hb dX0_become_106 (by decide) ?_
                refine va_put (ci := 0) (v := .int (jrem (101 - p1) 101)) (ty := .int) (C := RX0) (T := TX0) (N := 8) hx hb hts (by decide +kernel) tyX0 tyX0_ok nmX0 hown hK hP (ww_D hj) hS 40 cc_ext rfl 5 (by decide) (hts (.fieldLink RX0 27 "NumberFieldFactors$Extension" "t" "I") (by decide +kernel)) (fun _ h9 => h9) rfl (by decide +kernel) rfl rfl (Nat.le_of_ble_eq_true rfl) dX0_become_111 (fun H locs hP hD hS => ?_)
                have hP := cs_E5 hP
                refine lv_aload_n hx hb dX0_become_114 rfl (lv_at hl 2 rfl) ?_
                refine lv_aload_n hx hb dX0_become_115 rfl (lv_at hl 2 rfl) ?_
                refine lv_aload_n hx hb dX0_become_116 rfl (lv_at hl 2 rfl) ?_
                refine va_get (ci := 0) (v := .int ((va_up (va_up (va_up (va_up (va_up (va_up E 0 p0) 1 10201) 2 p1) 3 p2) 4 0) 5 (jrem (101 - p1) 101)) 5)) (C := RX0) (T := TX0) (N := 8) hx hb hts (by decide +kernel) hown hK hP 40 cc_ext rfl 5 (by decide) (hts (.fieldLink RX0 27 "NumberFieldFactors$Extension" "t" "I") (by decide +kernel)) (fun _ h9 => h9) rfl dX0_become_117 ?_
                refine lv_bipush (v := 101) hx hb dX0_become_120 (by decide) ?_
                obtain ⟨u177, g178, hf⟩ := Option.bind_eq_some_iff.mp hf
                try dsimp only at hf
                refine ct_call (va_runV (As := [.int ((va_up (va_up (va_up (va_up (va_up (va_up E 0 p0) 1 10201) 2 p1) 3 p2) 4 0) 5 (jrem (101 - p1) 101)) 5), .int 101]) (rest := [.ref (ad 40)]) ⟨hx, hb, hml, hown, hts⟩ (C_X0_power l D tys nw hn hnw hj htI htR (res := u177) g178) (cwV 2 hts gX0_become_X0_power rfl rfl rfl (by decide +kernel) ⟨Nat.le_of_ble_eq_true rfl, Nat.le_of_ble_eq_true rfl⟩) (ct_preV hn hP hK hN (ci := 0) (k := 40) rfl (by decide) rfl) rfl rfl hl.1 rfl (lv_room (Nat.le_of_ble_eq_true rfl)) dX0_become_122 ⟨Nat.zero_le _, Nat.zero_le _⟩) hS (fun H locs hP hS => ?_)
                refine va_put (ci := 0) (v := .int u177) (ty := .int) (C := RX0) (T := TX0) (N := 8) hx hb hts (by decide +kernel) tyX0 tyX0_ok nmX0 hown hK hP (ww_D hj) hS 40 cc_ext rfl 6 (by decide) (hts (.fieldLink RX0 30 "NumberFieldFactors$Extension" "mateOfT" "I") (by decide +kernel)) (fun _ h9 => h9) rfl (by decide +kernel) rfl rfl (Nat.le_of_ble_eq_true rfl) dX0_become_125 (fun H locs hP hD hS => ?_)
                have hP := cs_E6 hP
                refine lv_aload_n hx hb dX0_become_128 rfl (lv_at hl 2 rfl) ?_
                refine lv_aload_n hx hb dX0_become_129 rfl (lv_at hl 2 rfl) ?_
                refine lv_aload_n hx hb dX0_become_130 rfl (lv_at hl 2 rfl) ?_
                refine va_get (ci := 0) (v := .int ((va_up (va_up (va_up (va_up (va_up (va_up (va_up E 0 p0) 1 10201) 2 p1) 3 p2) 4 0) 5 (jrem (101 - p1) 101)) 6 u177) 6)) (C := RX0) (T := TX0) (N := 8) hx hb hts (by decide +kernel) hown hK hP 40 cc_ext rfl 6 (by decide) (hts (.fieldLink RX0 30 "NumberFieldFactors$Extension" "mateOfT" "I") (by decide +kernel)) (fun _ h9 => h9) rfl dX0_become_131 ?_
                refine lv_aload_n hx hb dX0_become_134 rfl (lv_at hl 2 rfl) ?_
                refine va_get (ci := 0) (v := .int ((va_up (va_up (va_up (va_up (va_up (va_up (va_up E 0 p0) 1 10201) 2 p1) 3 p2) 4 0) 5 (jrem (101 - p1) 101)) 6 u177) 6)) (C := RX0) (T := TX0) (N := 8) hx hb hts (by decide +kernel) hown hK hP 40 cc_ext rfl 6 (by decide) (hts (.fieldLink RX0 30 "NumberFieldFactors$Extension" "mateOfT" "I") (by decide +kernel)) (fun _ h9 => h9) rfl dX0_become_135 ?_
                obtain ⟨u179, g180, hf⟩ := Option.bind_eq_some_iff.mp hf
                try dsimp only at hf
                refine ct_call (va_runV (As := [.int ((va_up (va_up (va_up (va_up (va_up (va_up (va_up E 0 p0) 1 10201) 2 p1) 3 p2) 4 0) 5 (jrem (101 - p1) 101)) 6 u177) 6), .int ((va_up (va_up (va_up (va_up (va_up (va_up (va_up E 0 p0) 1 10201) 2 p1) 3 p2) 4 0) 5 (jrem (101 - p1) 101)) 6 u177) 6)]) (rest := [.ref (ad 40)]) ⟨hx, hb, hml, hown, hts⟩ (C_X0_times l D tys nw hn hnw hj htI htR (res := u179) g180) (cwV 2 hts gX0_become_X0_times rfl rfl rfl (by decide +kernel) ⟨Nat.le_of_ble_eq_true rfl, Nat.le_of_ble_eq_true rfl⟩) (ct_preV hn hP hK hN (ci := 0) (k := 40) rfl (by decide) rfl) rfl rfl hl.1 rfl (lv_room (Nat.le_of_ble_eq_true rfl)) dX0_become_138 ⟨Nat.zero_le _, Nat.zero_le _⟩) hS (fun H locs hP hS => ?_)
                refine va_put (ci := 0) (v := .int u179) (ty := .int) (C := RX0) (T := TX0) (N := 8) hx hb hts (by decide +kernel) tyX0 tyX0_ok nmX0 hown hK hP (ww_D hj) hS 40 cc_ext rfl 7 (by decide) (hts (.fieldLink RX0 33 "NumberFieldFactors$Extension" "mateOfTSquared" "I") (by decide +kernel)) (fun _ h9 => h9) rfl (by decide +kernel) rfl rfl (Nat.le_of_ble_eq_true rfl) dX0_become_141 (fun H locs hP hD hS => ?_)
                have hP := cs_E7 hP
                refine lv_iconst (v := 1) hx hb dX0_become_144 (by decide) ?_
                obtain rfl := Option.some.inj hf
                exact W.zret (v := 1) (ty := .boolean) hx hb hr (by decide) (fun t ht hW => ⟨rfl, by rw [ht]; exact hP, hS.F ht⟩) hS.2.2 dX0_become_145
          · rw [if_pos c161] at hf
            refine lv_bipush (v := 101) hx hb dX0_become_55 (by decide) ?_
            refine lv_goto (tgt := 73) hx hb dX0_become_57 (by decide) ?_
            refine va_put (ci := 0) (v := .int 101) (ty := .int) (C := RX0) (T := TX0) (N := 8) hx hb hts (by decide +kernel) tyX0 tyX0_ok nmX0 hown hK hP (ww_D hj) hS 40 cc_ext rfl 1 (by decide) (hts (.fieldLink RX0 15 "NumberFieldFactors$Extension" "size" "I") (by decide +kernel)) (fun _ h9 => h9) rfl (by decide +kernel) rfl rfl (Nat.le_of_ble_eq_true rfl) dX0_become_73 (fun H locs hP hD hS => ?_)
            have hP := cs_E1 hP
            refine lv_aload_n hx hb dX0_become_76 rfl (lv_at hl 2 rfl) ?_
            refine lv_iload_n hx hb dX0_become_77 rfl (lv_at hl 4 rfl) ?_
            refine va_put (ci := 0) (v := .int p1) (ty := .int) (C := RX0) (T := TX0) (N := 8) hx hb hts (by decide +kernel) tyX0 tyX0_ok nmX0 hown hK hP (ww_D hj) hS 40 cc_ext rfl 2 (by decide) (hts (.fieldLink RX0 18 "NumberFieldFactors$Extension" "low0" "I") (by decide +kernel)) (fun _ h9 => h9) rfl (by decide +kernel) rfl rfl (Nat.le_of_ble_eq_true rfl) dX0_become_78 (fun H locs hP hD hS => ?_)
            have hP := cs_E2 hP
            refine lv_aload_n hx hb dX0_become_81 rfl (lv_at hl 2 rfl) ?_
            refine lv_iload hx hb dX0_become_82 (lv_at hl 1 rfl) ?_
            refine va_put (ci := 0) (v := .int p2) (ty := .int) (C := RX0) (T := TX0) (N := 8) hx hb hts (by decide +kernel) tyX0 tyX0_ok nmX0 hown hK hP (ww_D hj) hS 40 cc_ext rfl 3 (by decide) (hts (.fieldLink RX0 21 "NumberFieldFactors$Extension" "low1" "I") (by decide +kernel)) (fun _ h9 => h9) rfl (by decide +kernel) rfl rfl (Nat.le_of_ble_eq_true rfl) dX0_become_84 (fun H locs hP hD hS => ?_)
            have hP := cs_E3 hP
            refine lv_aload_n hx hb dX0_become_87 rfl (lv_at hl 2 rfl) ?_
            refine lv_iload hx hb dX0_become_88 (lv_at hl 0 rfl) ?_
            refine va_put (ci := 0) (v := .int 0) (ty := .int) (C := RX0) (T := TX0) (N := 8) hx hb hts (by decide +kernel) tyX0 tyX0_ok nmX0 hown hK hP (ww_D hj) hS 40 cc_ext rfl 4 (by decide) (hts (.fieldLink RX0 24 "NumberFieldFactors$Extension" "low2" "I") (by decide +kernel)) (fun _ h9 => h9) rfl (by decide +kernel) rfl rfl (Nat.le_of_ble_eq_true rfl) dX0_become_90 (fun H locs hP hD hS => ?_)
            have hP := cs_E4 hP
            refine lv_aload_n hx hb dX0_become_93 rfl (lv_at hl 2 rfl) ?_
            refine lv_iload_n hx hb dX0_become_94 rfl (lv_at hl 3 rfl) ?_
            refine lv_iconst (v := 1) hx hb dX0_become_95 (by decide) ?_
            refine lv_icmp_ne (tgt := 109) hx hb dX0_become_96 (by decide) (fun c181 => ?_) (fun c181 => ?_)
            · rw [if_neg c181] at hf
              refine lv_bipush (v := 101) hx hb dX0_become_109 (by decide) ?_
              refine va_put (ci := 0) (v := .int 101) (ty := .int) (C := RX0) (T := TX0) (N := 8) hx hb hts (by decide +kernel) tyX0 tyX0_ok nmX0 hown hK hP (ww_D hj) hS 40 cc_ext rfl 5 (by decide) (hts (.fieldLink RX0 27 "NumberFieldFactors$Extension" "t" "I") (by decide +kernel)) (fun _ h9 => h9) rfl (by decide +kernel) rfl rfl (Nat.le_of_ble_eq_true rfl) dX0_become_111 (fun H locs hP hD hS => ?_)
              have hP := cs_E5 hP
              refine lv_aload_n hx hb dX0_become_114 rfl (lv_at hl 2 rfl) ?_
              refine lv_aload_n hx hb dX0_become_115 rfl (lv_at hl 2 rfl) ?_
              refine lv_aload_n hx hb dX0_become_116 rfl (lv_at hl 2 rfl) ?_
              refine va_get (ci := 0) (v := .int ((va_up (va_up (va_up (va_up (va_up (va_up E 0 p0) 1 101) 2 p1) 3 p2) 4 0) 5 101) 5)) (C := RX0) (T := TX0) (N := 8) hx hb hts (by decide +kernel) hown hK hP 40 cc_ext rfl 5 (by decide) (hts (.fieldLink RX0 27 "NumberFieldFactors$Extension" "t" "I") (by decide +kernel)) (fun _ h9 => h9) rfl dX0_become_117 ?_
              refine lv_bipush (v := 101) hx hb dX0_become_120 (by decide) ?_
              obtain ⟨u182, g183, hf⟩ := Option.bind_eq_some_iff.mp hf
              try dsimp only at hf
              refine ct_call (va_runV (As := [.int ((va_up (va_up (va_up (va_up (va_up (va_up E 0 p0) 1 101) 2 p1) 3 p2) 4 0) 5 101) 5), .int 101]) (rest := [.ref (ad 40)]) ⟨hx, hb, hml, hown, hts⟩ (C_X0_power l D tys nw hn hnw hj htI htR (res := u182) g183) (cwV 2 hts gX0_become_X0_power rfl rfl rfl (by decide +kernel) ⟨Nat.le_of_ble_eq_true rfl, Nat.le_of_ble_eq_true rfl⟩) (ct_preV hn hP hK hN (ci := 0) (k := 40) rfl (by decide) rfl) rfl rfl hl.1 rfl (lv_room (Nat.le_of_ble_eq_true rfl)) dX0_become_122 ⟨Nat.zero_le _, Nat.zero_le _⟩) hS (fun H locs hP hS => ?_)
              refine va_put (ci := 0) (v := .int u182) (ty := .int) (C := RX0) (T := TX0) (N := 8) hx hb hts (by decide +kernel) tyX0 tyX0_ok nmX0 hown hK hP (ww_D hj) hS 40 cc_ext rfl 6 (by decide) (hts (.fieldLink RX0 30 "NumberFieldFactors$Extension" "mateOfT" "I") (by decide +kernel)) (fun _ h9 => h9) rfl (by decide +kernel) rfl rfl (Nat.le_of_ble_eq_true rfl) dX0_become_125 (fun H locs hP hD hS => ?_)
              have hP := cs_E6 hP
              refine lv_aload_n hx hb dX0_become_128 rfl (lv_at hl 2 rfl) ?_
              refine lv_aload_n hx hb dX0_become_129 rfl (lv_at hl 2 rfl) ?_
              refine lv_aload_n hx hb dX0_become_130 rfl (lv_at hl 2 rfl) ?_
              refine va_get (ci := 0) (v := .int ((va_up (va_up (va_up (va_up (va_up (va_up (va_up E 0 p0) 1 101) 2 p1) 3 p2) 4 0) 5 101) 6 u182) 6)) (C := RX0) (T := TX0) (N := 8) hx hb hts (by decide +kernel) hown hK hP 40 cc_ext rfl 6 (by decide) (hts (.fieldLink RX0 30 "NumberFieldFactors$Extension" "mateOfT" "I") (by decide +kernel)) (fun _ h9 => h9) rfl dX0_become_131 ?_
              refine lv_aload_n hx hb dX0_become_134 rfl (lv_at hl 2 rfl) ?_
              refine va_get (ci := 0) (v := .int ((va_up (va_up (va_up (va_up (va_up (va_up (va_up E 0 p0) 1 101) 2 p1) 3 p2) 4 0) 5 101) 6 u182) 6)) (C := RX0) (T := TX0) (N := 8) hx hb hts (by decide +kernel) hown hK hP 40 cc_ext rfl 6 (by decide) (hts (.fieldLink RX0 30 "NumberFieldFactors$Extension" "mateOfT" "I") (by decide +kernel)) (fun _ h9 => h9) rfl dX0_become_135 ?_
              obtain ⟨u184, g185, hf⟩ := Option.bind_eq_some_iff.mp hf
              try dsimp only at hf
              refine ct_call (va_runV (As := [.int ((va_up (va_up (va_up (va_up (va_up (va_up (va_up E 0 p0) 1 101) 2 p1) 3 p2) 4 0) 5 101) 6 u182) 6), .int ((va_up (va_up (va_up (va_up (va_up (va_up (va_up E 0 p0) 1 101) 2 p1) 3 p2) 4 0) 5 101) 6 u182) 6)]) (rest := [.ref (ad 40)]) ⟨hx, hb, hml, hown, hts⟩ (C_X0_times l D tys nw hn hnw hj htI htR (res := u184) g185) (cwV 2 hts gX0_become_X0_times rfl rfl rfl (by decide +kernel) ⟨Nat.le_of_ble_eq_true rfl, Nat.le_of_ble_eq_true rfl⟩) (ct_preV hn hP hK hN (ci := 0) (k := 40) rfl (by decide) rfl) rfl rfl hl.1 rfl (lv_room (Nat.le_of_ble_eq_true rfl)) dX0_become_138 ⟨Nat.zero_le _, Nat.zero_le _⟩) hS (fun H locs hP hS => ?_)
              refine va_put (ci := 0) (v := .int u184) (ty := .int) (C := RX0) (T := TX0) (N := 8) hx hb hts (by decide +kernel) tyX0 tyX0_ok nmX0 hown hK hP (ww_D hj) hS 40 cc_ext rfl 7 (by decide) (hts (.fieldLink RX0 33 "NumberFieldFactors$Extension" "mateOfTSquared" "I") (by decide +kernel)) (fun _ h9 => h9) rfl (by decide +kernel) rfl rfl (Nat.le_of_ble_eq_true rfl) dX0_become_141 (fun H locs hP hD hS => ?_)
              have hP := cs_E7 hP
              refine lv_iconst (v := 1) hx hb dX0_become_144 (by decide) ?_
              obtain rfl := Option.some.inj hf
              exact W.zret (v := 1) (ty := .boolean) hx hb hr (by decide) (fun t ht hW => ⟨rfl, by rw [ht]; exact hP, hS.F ht⟩) hS.2.2 dX0_become_145
            · rw [if_pos c181] at hf
              refine lv_bipush (v := 101) hx hb dX0_become_99 (by decide) ?_
              refine lv_iload_n hx hb dX0_become_101 rfl (lv_at hl 4 rfl) ?_
              refine lv_isub hx hb dX0_become_102 ?_
              refine lv_bipush (v := 101) hx hb dX0_become_103 (by decide) ?_
              refine jv_irem hx hb dX0_become_105 (by decide) ?_
              refine lv_goto (tgt := 111) hx hb dX0_become_106 (by decide) ?_
              refine va_put (ci := 0) (v := .int (jrem (101 - p1) 101)) (ty := .int) (C := RX0) (T := TX0) (N := 8) hx hb hts (by decide +kernel) tyX0 tyX0_ok nmX0 hown hK hP (ww_D hj) hS 40 cc_ext rfl 5 (by decide) (hts (.fieldLink RX0 27 "NumberFieldFactors$Extension" "t" "I") (by decide +kernel)) (fun _ h9 => h9) rfl (by decide +kernel) rfl rfl (Nat.le_of_ble_eq_true rfl) dX0_become_111 (fun H locs hP hD hS => ?_)
              have hP := cs_E5 hP
              refine lv_aload_n hx hb dX0_become_114 rfl (lv_at hl 2 rfl) ?_
              refine lv_aload_n hx hb dX0_become_115 rfl (lv_at hl 2 rfl) ?_
              refine lv_aload_n hx hb dX0_become_116 rfl (lv_at hl 2 rfl) ?_
              refine va_get (ci := 0) (v := .int ((va_up (va_up (va_up (va_up (va_up (va_up E 0 p0) 1 101) 2 p1) 3 p2) 4 0) 5 (jrem (101 - p1) 101)) 5)) (C := RX0) (T := TX0) (N := 8) hx hb hts (by decide +kernel) hown hK hP 40 cc_ext rfl 5 (by decide) (hts (.fieldLink RX0 27 "NumberFieldFactors$Extension" "t" "I") (by decide +kernel)) (fun _ h9 => h9) rfl dX0_become_117 ?_
              refine lv_bipush (v := 101) hx hb dX0_become_120 (by decide) ?_
              obtain ⟨u186, g187, hf⟩ := Option.bind_eq_some_iff.mp hf
              try dsimp only at hf
              refine ct_call (va_runV (As := [.int ((va_up (va_up (va_up (va_up (va_up (va_up E 0 p0) 1 101) 2 p1) 3 p2) 4 0) 5 (jrem (101 - p1) 101)) 5), .int 101]) (rest := [.ref (ad 40)]) ⟨hx, hb, hml, hown, hts⟩ (C_X0_power l D tys nw hn hnw hj htI htR (res := u186) g187) (cwV 2 hts gX0_become_X0_power rfl rfl rfl (by decide +kernel) ⟨Nat.le_of_ble_eq_true rfl, Nat.le_of_ble_eq_true rfl⟩) (ct_preV hn hP hK hN (ci := 0) (k := 40) rfl (by decide) rfl) rfl rfl hl.1 rfl (lv_room (Nat.le_of_ble_eq_true rfl)) dX0_become_122 ⟨Nat.zero_le _, Nat.zero_le _⟩) hS (fun H locs hP hS => ?_)
              refine va_put (ci := 0) (v := .int u186) (ty := .int) (C := RX0) (T := TX0) (N := 8) hx hb hts (by decide +kernel) tyX0 tyX0_ok nmX0 hown hK hP (ww_D hj) hS 40 cc_ext rfl 6 (by decide) (hts (.fieldLink RX0 30 "NumberFieldFactors$Extension" "mateOfT" "I") (by decide +kernel)) (fun _ h9 => h9) rfl (by decide +kernel) rfl rfl (Nat.le_of_ble_eq_true rfl) dX0_become_125 (fun H locs hP hD hS => ?_)
              have hP := cs_E6 hP
              refine lv_aload_n hx hb dX0_become_128 rfl (lv_at hl 2 rfl) ?_
              refine lv_aload_n hx hb dX0_become_129 rfl (lv_at hl 2 rfl) ?_
              refine lv_aload_n hx hb dX0_become_130 rfl (lv_at hl 2 rfl) ?_
              refine va_get (ci := 0) (v := .int ((va_up (va_up (va_up (va_up (va_up (va_up (va_up E 0 p0) 1 101) 2 p1) 3 p2) 4 0) 5 (jrem (101 - p1) 101)) 6 u186) 6)) (C := RX0) (T := TX0) (N := 8) hx hb hts (by decide +kernel) hown hK hP 40 cc_ext rfl 6 (by decide) (hts (.fieldLink RX0 30 "NumberFieldFactors$Extension" "mateOfT" "I") (by decide +kernel)) (fun _ h9 => h9) rfl dX0_become_131 ?_
              refine lv_aload_n hx hb dX0_become_134 rfl (lv_at hl 2 rfl) ?_
              refine va_get (ci := 0) (v := .int ((va_up (va_up (va_up (va_up (va_up (va_up (va_up E 0 p0) 1 101) 2 p1) 3 p2) 4 0) 5 (jrem (101 - p1) 101)) 6 u186) 6)) (C := RX0) (T := TX0) (N := 8) hx hb hts (by decide +kernel) hown hK hP 40 cc_ext rfl 6 (by decide) (hts (.fieldLink RX0 30 "NumberFieldFactors$Extension" "mateOfT" "I") (by decide +kernel)) (fun _ h9 => h9) rfl dX0_become_135 ?_
              obtain ⟨u188, g189, hf⟩ := Option.bind_eq_some_iff.mp hf
              try dsimp only at hf
              refine ct_call (va_runV (As := [.int ((va_up (va_up (va_up (va_up (va_up (va_up (va_up E 0 p0) 1 101) 2 p1) 3 p2) 4 0) 5 (jrem (101 - p1) 101)) 6 u186) 6), .int ((va_up (va_up (va_up (va_up (va_up (va_up (va_up E 0 p0) 1 101) 2 p1) 3 p2) 4 0) 5 (jrem (101 - p1) 101)) 6 u186) 6)]) (rest := [.ref (ad 40)]) ⟨hx, hb, hml, hown, hts⟩ (C_X0_times l D tys nw hn hnw hj htI htR (res := u188) g189) (cwV 2 hts gX0_become_X0_times rfl rfl rfl (by decide +kernel) ⟨Nat.le_of_ble_eq_true rfl, Nat.le_of_ble_eq_true rfl⟩) (ct_preV hn hP hK hN (ci := 0) (k := 40) rfl (by decide) rfl) rfl rfl hl.1 rfl (lv_room (Nat.le_of_ble_eq_true rfl)) dX0_become_138 ⟨Nat.zero_le _, Nat.zero_le _⟩) hS (fun H locs hP hS => ?_)
              refine va_put (ci := 0) (v := .int u188) (ty := .int) (C := RX0) (T := TX0) (N := 8) hx hb hts (by decide +kernel) tyX0 tyX0_ok nmX0 hown hK hP (ww_D hj) hS 40 cc_ext rfl 7 (by decide) (hts (.fieldLink RX0 33 "NumberFieldFactors$Extension" "mateOfTSquared" "I") (by decide +kernel)) (fun _ h9 => h9) rfl (by decide +kernel) rfl rfl (Nat.le_of_ble_eq_true rfl) dX0_become_141 (fun H locs hP hD hS => ?_)
              have hP := cs_E7 hP
              refine lv_iconst (v := 1) hx hb dX0_become_144 (by decide) ?_
              obtain rfl := Option.some.inj hf
              exact W.zret (v := 1) (ty := .boolean) hx hb hr (by decide) (fun t ht hW => ⟨rfl, by rw [ht]; exact hP, hS.F ht⟩) hS.2.2 dX0_become_145
        · rw [if_neg c160] at hf
          refine lv_iconst (v := 0) hx hb dX0_become_42 (by decide) ?_
          obtain rfl := Option.some.inj hf
          exact W.zret (v := 0) (ty := .boolean) hx hb hr (by decide) (fun t ht hW => ⟨rfl, by rw [ht]; exact hP, hS.F ht⟩) hS.2.2 dX0_become_43
    · rw [if_neg c127] at hf
      refine lv_iload hx hb dX0_become_17 (lv_at hl 5 rfl) ?_
      refine lv_goto (tgt := 23) hx hb dX0_become_19 (by decide) ?_
      refine lv_istore (lv' := [(6, .int p3), (5, .int p2), (0, .ref (ad 40)), (1, .int p0), (2, .int p1), (3, .int p2), (4, .int p3)]) hx hb dX0_become_23 hl (by decide) rfl (fun ls hl => ?_)
      refine lv_iload_n hx hb dX0_become_25 rfl (lv_at hl 3 rfl) ?_
      refine lv_iconst (v := 1) hx hb dX0_become_26 (by decide) ?_
      refine lv_icmp_le (tgt := 44) hx hb dX0_become_27 (by decide) (fun c190 => ?_) (fun c190 => ?_)
      · rw [if_pos c190] at hf
        refine lv_aload_n hx hb dX0_become_44 rfl (lv_at hl 2 rfl) ?_
        refine lv_iload_n hx hb dX0_become_45 rfl (lv_at hl 3 rfl) ?_
        refine va_put (ci := 0) (v := .int p0) (ty := .int) (C := RX0) (T := TX0) (N := 8) hx hb hts (by decide +kernel) tyX0 tyX0_ok nmX0 hown hK hP (ww_D hj) hS 40 cc_ext rfl 0 (by decide) (hts (.fieldLink RX0 9 "NumberFieldFactors$Extension" "degree" "I") (by decide +kernel)) (fun _ h9 => h9) rfl (by decide +kernel) rfl rfl (Nat.le_of_ble_eq_true rfl) dX0_become_46 (fun H locs hP hD hS => ?_)
        have hP := cs_E0 hP
        refine lv_aload_n hx hb dX0_become_49 rfl (lv_at hl 2 rfl) ?_
        refine lv_iload_n hx hb dX0_become_50 rfl (lv_at hl 3 rfl) ?_
        refine lv_iconst (v := 1) hx hb dX0_become_51 (by decide) ?_
        refine lv_icmp_ne (tgt := 60) hx hb dX0_become_52 (by decide) (fun c191 => ?_) (fun c191 => ?_)
        · rw [if_neg c191] at hf
          refine lv_iload_n hx hb dX0_become_60 rfl (lv_at hl 3 rfl) ?_
          refine lv_iconst (v := 2) hx hb dX0_become_61 (by decide) ?_
          refine lv_icmp_ne (tgt := 71) hx hb dX0_become_62 (by decide) (fun c192 => ?_) (fun c192 => ?_)
          · rw [if_neg c192] at hf
            refine lv_ldc (v := 1030301) hx hb hown (hts (.constant RX0 40 (1030301)) (by decide +kernel)) dX0_become_71 ?_
            refine va_put (ci := 0) (v := .int 1030301) (ty := .int) (C := RX0) (T := TX0) (N := 8) hx hb hts (by decide +kernel) tyX0 tyX0_ok nmX0 hown hK hP (ww_D hj) hS 40 cc_ext rfl 1 (by decide) (hts (.fieldLink RX0 15 "NumberFieldFactors$Extension" "size" "I") (by decide +kernel)) (fun _ h9 => h9) rfl (by decide +kernel) rfl rfl (Nat.le_of_ble_eq_true rfl) dX0_become_73 (fun H locs hP hD hS => ?_)
            have hP := cs_E1 hP
            refine lv_aload_n hx hb dX0_become_76 rfl (lv_at hl 2 rfl) ?_
            refine lv_iload_n hx hb dX0_become_77 rfl (lv_at hl 4 rfl) ?_
            refine va_put (ci := 0) (v := .int p1) (ty := .int) (C := RX0) (T := TX0) (N := 8) hx hb hts (by decide +kernel) tyX0 tyX0_ok nmX0 hown hK hP (ww_D hj) hS 40 cc_ext rfl 2 (by decide) (hts (.fieldLink RX0 18 "NumberFieldFactors$Extension" "low0" "I") (by decide +kernel)) (fun _ h9 => h9) rfl (by decide +kernel) rfl rfl (Nat.le_of_ble_eq_true rfl) dX0_become_78 (fun H locs hP hD hS => ?_)
            have hP := cs_E2 hP
            refine lv_aload_n hx hb dX0_become_81 rfl (lv_at hl 2 rfl) ?_
            refine lv_iload hx hb dX0_become_82 (lv_at hl 1 rfl) ?_
            refine va_put (ci := 0) (v := .int p2) (ty := .int) (C := RX0) (T := TX0) (N := 8) hx hb hts (by decide +kernel) tyX0 tyX0_ok nmX0 hown hK hP (ww_D hj) hS 40 cc_ext rfl 3 (by decide) (hts (.fieldLink RX0 21 "NumberFieldFactors$Extension" "low1" "I") (by decide +kernel)) (fun _ h9 => h9) rfl (by decide +kernel) rfl rfl (Nat.le_of_ble_eq_true rfl) dX0_become_84 (fun H locs hP hD hS => ?_)
            have hP := cs_E3 hP
            refine lv_aload_n hx hb dX0_become_87 rfl (lv_at hl 2 rfl) ?_
            refine lv_iload hx hb dX0_become_88 (lv_at hl 0 rfl) ?_
            refine va_put (ci := 0) (v := .int p3) (ty := .int) (C := RX0) (T := TX0) (N := 8) hx hb hts (by decide +kernel) tyX0 tyX0_ok nmX0 hown hK hP (ww_D hj) hS 40 cc_ext rfl 4 (by decide) (hts (.fieldLink RX0 24 "NumberFieldFactors$Extension" "low2" "I") (by decide +kernel)) (fun _ h9 => h9) rfl (by decide +kernel) rfl rfl (Nat.le_of_ble_eq_true rfl) dX0_become_90 (fun H locs hP hD hS => ?_)
            have hP := cs_E4 hP
            refine lv_aload_n hx hb dX0_become_93 rfl (lv_at hl 2 rfl) ?_
            refine lv_iload_n hx hb dX0_become_94 rfl (lv_at hl 3 rfl) ?_
            refine lv_iconst (v := 1) hx hb dX0_become_95 (by decide) ?_
            refine lv_icmp_ne (tgt := 109) hx hb dX0_become_96 (by decide) (fun c193 => ?_) (fun c193 => ?_)
            · rw [if_neg c193] at hf
              refine lv_bipush (v := 101) hx hb dX0_become_109 (by decide) ?_
              refine va_put (ci := 0) (v := .int 101) (ty := .int) (C := RX0) (T := TX0) (N := 8) hx hb hts (by decide +kernel) tyX0 tyX0_ok nmX0 hown hK hP (ww_D hj) hS 40 cc_ext rfl 5 (by decide) (hts (.fieldLink RX0 27 "NumberFieldFactors$Extension" "t" "I") (by decide +kernel)) (fun _ h9 => h9) rfl (by decide +kernel) rfl rfl (Nat.le_of_ble_eq_true rfl) dX0_become_111 (fun H locs hP hD hS => ?_)
              have hP := cs_E5 hP
              refine lv_aload_n hx hb dX0_become_114 rfl (lv_at hl 2 rfl) ?_
              refine lv_aload_n hx hb dX0_become_115 rfl (lv_at hl 2 rfl) ?_
              refine lv_aload_n hx hb dX0_become_116 rfl (lv_at hl 2 rfl) ?_
              refine va_get (ci := 0) (v := .int ((va_up (va_up (va_up (va_up (va_up (va_up E 0 p0) 1 1030301) 2 p1) 3 p2) 4 p3) 5 101) 5)) (C := RX0) (T := TX0) (N := 8) hx hb hts (by decide +kernel) hown hK hP 40 cc_ext rfl 5 (by decide) (hts (.fieldLink RX0 27 "NumberFieldFactors$Extension" "t" "I") (by decide +kernel)) (fun _ h9 => h9) rfl dX0_become_117 ?_
              refine lv_bipush (v := 101) hx hb dX0_become_120 (by decide) ?_
              obtain ⟨u194, g195, hf⟩ := Option.bind_eq_some_iff.mp hf
              try dsimp only at hf
              refine ct_call (va_runV (As := [.int ((va_up (va_up (va_up (va_up (va_up (va_up E 0 p0) 1 1030301) 2 p1) 3 p2) 4 p3) 5 101) 5), .int 101]) (rest := [.ref (ad 40)]) ⟨hx, hb, hml, hown, hts⟩ (C_X0_power l D tys nw hn hnw hj htI htR (res := u194) g195) (cwV 2 hts gX0_become_X0_power rfl rfl rfl (by decide +kernel) ⟨Nat.le_of_ble_eq_true rfl, Nat.le_of_ble_eq_true rfl⟩) (ct_preV hn hP hK hN (ci := 0) (k := 40) rfl (by decide) rfl) rfl rfl hl.1 rfl (lv_room (Nat.le_of_ble_eq_true rfl)) dX0_become_122 ⟨Nat.zero_le _, Nat.zero_le _⟩) hS (fun H locs hP hS => ?_)
              refine va_put (ci := 0) (v := .int u194) (ty := .int) (C := RX0) (T := TX0) (N := 8) hx hb hts (by decide +kernel) tyX0 tyX0_ok nmX0 hown hK hP (ww_D hj) hS 40 cc_ext rfl 6 (by decide) (hts (.fieldLink RX0 30 "NumberFieldFactors$Extension" "mateOfT" "I") (by decide +kernel)) (fun _ h9 => h9) rfl (by decide +kernel) rfl rfl (Nat.le_of_ble_eq_true rfl) dX0_become_125 (fun H locs hP hD hS => ?_)
              have hP := cs_E6 hP
              refine lv_aload_n hx hb dX0_become_128 rfl (lv_at hl 2 rfl) ?_
              refine lv_aload_n hx hb dX0_become_129 rfl (lv_at hl 2 rfl) ?_
              refine lv_aload_n hx hb dX0_become_130 rfl (lv_at hl 2 rfl) ?_
              refine va_get (ci := 0) (v := .int ((va_up (va_up (va_up (va_up (va_up (va_up (va_up E 0 p0) 1 1030301) 2 p1) 3 p2) 4 p3) 5 101) 6 u194) 6)) (C := RX0) (T := TX0) (N := 8) hx hb hts (by decide +kernel) hown hK hP 40 cc_ext rfl 6 (by decide) (hts (.fieldLink RX0 30 "NumberFieldFactors$Extension" "mateOfT" "I") (by decide +kernel)) (fun _ h9 => h9) rfl dX0_become_131 ?_
              refine lv_aload_n hx hb dX0_become_134 rfl (lv_at hl 2 rfl) ?_
              refine va_get (ci := 0) (v := .int ((va_up (va_up (va_up (va_up (va_up (va_up (va_up E 0 p0) 1 1030301) 2 p1) 3 p2) 4 p3) 5 101) 6 u194) 6)) (C := RX0) (T := TX0) (N := 8) hx hb hts (by decide +kernel) hown hK hP 40 cc_ext rfl 6 (by decide) (hts (.fieldLink RX0 30 "NumberFieldFactors$Extension" "mateOfT" "I") (by decide +kernel)) (fun _ h9 => h9) rfl dX0_become_135 ?_
              obtain ⟨u196, g197, hf⟩ := Option.bind_eq_some_iff.mp hf
              try dsimp only at hf
              refine ct_call (va_runV (As := [.int ((va_up (va_up (va_up (va_up (va_up (va_up (va_up E 0 p0) 1 1030301) 2 p1) 3 p2) 4 p3) 5 101) 6 u194) 6), .int ((va_up (va_up (va_up (va_up (va_up (va_up (va_up E 0 p0) 1 1030301) 2 p1) 3 p2) 4 p3) 5 101) 6 u194) 6)]) (rest := [.ref (ad 40)]) ⟨hx, hb, hml, hown, hts⟩ (C_X0_times l D tys nw hn hnw hj htI htR (res := u196) g197) (cwV 2 hts gX0_become_X0_times rfl rfl rfl (by decide +kernel) ⟨Nat.le_of_ble_eq_true rfl, Nat.le_of_ble_eq_true rfl⟩) (ct_preV hn hP hK hN (ci := 0) (k := 40) rfl (by decide) rfl) rfl rfl hl.1 rfl (lv_room (Nat.le_of_ble_eq_true rfl)) dX0_become_138 ⟨Nat.zero_le _, Nat.zero_le _⟩) hS (fun H locs hP hS => ?_)
              refine va_put (ci := 0) (v := .int u196) (ty := .int) (C := RX0) (T := TX0) (N := 8) hx hb hts (by decide +kernel) tyX0 tyX0_ok nmX0 hown hK hP (ww_D hj) hS 40 cc_ext rfl 7 (by decide) (hts (.fieldLink RX0 33 "NumberFieldFactors$Extension" "mateOfTSquared" "I") (by decide +kernel)) (fun _ h9 => h9) rfl (by decide +kernel) rfl rfl (Nat.le_of_ble_eq_true rfl) dX0_become_141 (fun H locs hP hD hS => ?_)
              have hP := cs_E7 hP
              refine lv_iconst (v := 1) hx hb dX0_become_144 (by decide) ?_
              obtain rfl := Option.some.inj hf
              exact W.zret (v := 1) (ty := .boolean) hx hb hr (by decide) (fun t ht hW => ⟨rfl, by rw [ht]; exact hP, hS.F ht⟩) hS.2.2 dX0_become_145
            · rw [if_pos c193] at hf
              refine lv_bipush (v := 101) hx hb dX0_become_99 (by decide) ?_
              refine lv_iload_n hx hb dX0_become_101 rfl (lv_at hl 4 rfl) ?_
              refine lv_isub hx hb dX0_become_102 ?_
              refine lv_bipush (v := 101) hx hb dX0_become_103 (by decide) ?_
              refine jv_irem hx hb dX0_become_105 (by decide) ?_
              refine lv_goto (tgt := 111) hx hb dX0_become_106 (by decide) ?_
              refine va_put (ci := 0) (v := .int (jrem (101 - p1) 101)) (ty := .int) (C := RX0) (T := TX0) (N := 8) hx hb hts (by decide +kernel) tyX0 tyX0_ok nmX0 hown hK hP (ww_D hj) hS 40 cc_ext rfl 5 (by decide) (hts (.fieldLink RX0 27 "NumberFieldFactors$Extension" "t" "I") (by decide +kernel)) (fun _ h9 => h9) rfl (by decide +kernel) rfl rfl (Nat.le_of_ble_eq_true rfl) dX0_become_111 (fun H locs hP hD hS => ?_)
              have hP := cs_E5 hP
              refine lv_aload_n hx hb dX0_become_114 rfl (lv_at hl 2 rfl) ?_
              refine lv_aload_n hx hb dX0_become_115 rfl (lv_at hl 2 rfl) ?_
              refine lv_aload_n hx hb dX0_become_116 rfl (lv_at hl 2 rfl) ?_
              refine va_get (ci := 0) (v := .int ((va_up (va_up (va_up (va_up (va_up (va_up E 0 p0) 1 1030301) 2 p1) 3 p2) 4 p3) 5 (jrem (101 - p1) 101)) 5)) (C := RX0) (T := TX0) (N := 8) hx hb hts (by decide +kernel) hown hK hP 40 cc_ext rfl 5 (by decide) (hts (.fieldLink RX0 27 "NumberFieldFactors$Extension" "t" "I") (by decide +kernel)) (fun _ h9 => h9) rfl dX0_become_117 ?_
              refine lv_bipush (v := 101) hx hb dX0_become_120 (by decide) ?_
              obtain ⟨u198, g199, hf⟩ := Option.bind_eq_some_iff.mp hf
              try dsimp only at hf
              refine ct_call (va_runV (As := [.int ((va_up (va_up (va_up (va_up (va_up (va_up E 0 p0) 1 1030301) 2 p1) 3 p2) 4 p3) 5 (jrem (101 - p1) 101)) 5), .int 101]) (rest := [.ref (ad 40)]) ⟨hx, hb, hml, hown, hts⟩ (C_X0_power l D tys nw hn hnw hj htI htR (res := u198) g199) (cwV 2 hts gX0_become_X0_power rfl rfl rfl (by decide +kernel) ⟨Nat.le_of_ble_eq_true rfl, Nat.le_of_ble_eq_true rfl⟩) (ct_preV hn hP hK hN (ci := 0) (k := 40) rfl (by decide) rfl) rfl rfl hl.1 rfl (lv_room (Nat.le_of_ble_eq_true rfl)) dX0_become_122 ⟨Nat.zero_le _, Nat.zero_le _⟩) hS (fun H locs hP hS => ?_)
              refine va_put (ci := 0) (v := .int u198) (ty := .int) (C := RX0) (T := TX0) (N := 8) hx hb hts (by decide +kernel) tyX0 tyX0_ok nmX0 hown hK hP (ww_D hj) hS 40 cc_ext rfl 6 (by decide) (hts (.fieldLink RX0 30 "NumberFieldFactors$Extension" "mateOfT" "I") (by decide +kernel)) (fun _ h9 => h9) rfl (by decide +kernel) rfl rfl (Nat.le_of_ble_eq_true rfl) dX0_become_125 (fun H locs hP hD hS => ?_)
              have hP := cs_E6 hP
              refine lv_aload_n hx hb dX0_become_128 rfl (lv_at hl 2 rfl) ?_
              refine lv_aload_n hx hb dX0_become_129 rfl (lv_at hl 2 rfl) ?_
              refine lv_aload_n hx hb dX0_become_130 rfl (lv_at hl 2 rfl) ?_
              refine va_get (ci := 0) (v := .int ((va_up (va_up (va_up (va_up (va_up (va_up (va_up E 0 p0) 1 1030301) 2 p1) 3 p2) 4 p3) 5 (jrem (101 - p1) 101)) 6 u198) 6)) (C := RX0) (T := TX0) (N := 8) hx hb hts (by decide +kernel) hown hK hP 40 cc_ext rfl 6 (by decide) (hts (.fieldLink RX0 30 "NumberFieldFactors$Extension" "mateOfT" "I") (by decide +kernel)) (fun _ h9 => h9) rfl dX0_become_131 ?_
              refine lv_aload_n hx hb dX0_become_134 rfl (lv_at hl 2 rfl) ?_
              refine va_get (ci := 0) (v := .int ((va_up (va_up (va_up (va_up (va_up (va_up (va_up E 0 p0) 1 1030301) 2 p1) 3 p2) 4 p3) 5 (jrem (101 - p1) 101)) 6 u198) 6)) (C := RX0) (T := TX0) (N := 8) hx hb hts (by decide +kernel) hown hK hP 40 cc_ext rfl 6 (by decide) (hts (.fieldLink RX0 30 "NumberFieldFactors$Extension" "mateOfT" "I") (by decide +kernel)) (fun _ h9 => h9) rfl dX0_become_135 ?_
              obtain ⟨u200, g201, hf⟩ := Option.bind_eq_some_iff.mp hf
              try dsimp only at hf
              refine ct_call (va_runV (As := [.int ((va_up (va_up (va_up (va_up (va_up (va_up (va_up E 0 p0) 1 1030301) 2 p1) 3 p2) 4 p3) 5 (jrem (101 - p1) 101)) 6 u198) 6), .int ((va_up (va_up (va_up (va_up (va_up (va_up (va_up E 0 p0) 1 1030301) 2 p1) 3 p2) 4 p3) 5 (jrem (101 - p1) 101)) 6 u198) 6)]) (rest := [.ref (ad 40)]) ⟨hx, hb, hml, hown, hts⟩ (C_X0_times l D tys nw hn hnw hj htI htR (res := u200) g201) (cwV 2 hts gX0_become_X0_times rfl rfl rfl (by decide +kernel) ⟨Nat.le_of_ble_eq_true rfl, Nat.le_of_ble_eq_true rfl⟩) (ct_preV hn hP hK hN (ci := 0) (k := 40) rfl (by decide) rfl) rfl rfl hl.1 rfl (lv_room (Nat.le_of_ble_eq_true rfl)) dX0_become_138 ⟨Nat.zero_le _, Nat.zero_le _⟩) hS (fun H locs hP hS => ?_)
              refine va_put (ci := 0) (v := .int u200) (ty := .int) (C := RX0) (T := TX0) (N := 8) hx hb hts (by decide +kernel) tyX0 tyX0_ok nmX0 hown hK hP (ww_D hj) hS 40 cc_ext rfl 7 (by decide) (hts (.fieldLink RX0 33 "NumberFieldFactors$Extension" "mateOfTSquared" "I") (by decide +kernel)) (fun _ h9 => h9) rfl (by decide +kernel) rfl rfl (Nat.le_of_ble_eq_true rfl) dX0_become_141 (fun H locs hP hD hS => ?_)
              have hP := cs_E7 hP
              refine lv_iconst (v := 1) hx hb dX0_become_144 (by decide) ?_
              obtain rfl := Option.some.inj hf
              exact W.zret (v := 1) (ty := .boolean) hx hb hr (by decide) (fun t ht hW => ⟨rfl, by rw [ht]; exact hP, hS.F ht⟩) hS.2.2 dX0_become_145
          · rw [if_pos c192] at hf
            refine lv_sipush (v := 10201) hx hb dX0_become_65 (by decide) ?_
            refine lv_goto (tgt := 73) hx hb dX0_become_68 (by decide) ?_
            refine va_put (ci := 0) (v := .int 10201) (ty := .int) (C := RX0) (T := TX0) (N := 8) hx hb hts (by decide +kernel) tyX0 tyX0_ok nmX0 hown hK hP (ww_D hj) hS 40 cc_ext rfl 1 (by decide) (hts (.fieldLink RX0 15 "NumberFieldFactors$Extension" "size" "I") (by decide +kernel)) (fun _ h9 => h9) rfl (by decide +kernel) rfl rfl (Nat.le_of_ble_eq_true rfl) dX0_become_73 (fun H locs hP hD hS => ?_)
            have hP := cs_E1 hP
            refine lv_aload_n hx hb dX0_become_76 rfl (lv_at hl 2 rfl) ?_
            refine lv_iload_n hx hb dX0_become_77 rfl (lv_at hl 4 rfl) ?_
            refine va_put (ci := 0) (v := .int p1) (ty := .int) (C := RX0) (T := TX0) (N := 8) hx hb hts (by decide +kernel) tyX0 tyX0_ok nmX0 hown hK hP (ww_D hj) hS 40 cc_ext rfl 2 (by decide) (hts (.fieldLink RX0 18 "NumberFieldFactors$Extension" "low0" "I") (by decide +kernel)) (fun _ h9 => h9) rfl (by decide +kernel) rfl rfl (Nat.le_of_ble_eq_true rfl) dX0_become_78 (fun H locs hP hD hS => ?_)
            have hP := cs_E2 hP
            refine lv_aload_n hx hb dX0_become_81 rfl (lv_at hl 2 rfl) ?_
            refine lv_iload hx hb dX0_become_82 (lv_at hl 1 rfl) ?_
            refine va_put (ci := 0) (v := .int p2) (ty := .int) (C := RX0) (T := TX0) (N := 8) hx hb hts (by decide +kernel) tyX0 tyX0_ok nmX0 hown hK hP (ww_D hj) hS 40 cc_ext rfl 3 (by decide) (hts (.fieldLink RX0 21 "NumberFieldFactors$Extension" "low1" "I") (by decide +kernel)) (fun _ h9 => h9) rfl (by decide +kernel) rfl rfl (Nat.le_of_ble_eq_true rfl) dX0_become_84 (fun H locs hP hD hS => ?_)
            have hP := cs_E3 hP
            refine lv_aload_n hx hb dX0_become_87 rfl (lv_at hl 2 rfl) ?_
            refine lv_iload hx hb dX0_become_88 (lv_at hl 0 rfl) ?_
            refine va_put (ci := 0) (v := .int p3) (ty := .int) (C := RX0) (T := TX0) (N := 8) hx hb hts (by decide +kernel) tyX0 tyX0_ok nmX0 hown hK hP (ww_D hj) hS 40 cc_ext rfl 4 (by decide) (hts (.fieldLink RX0 24 "NumberFieldFactors$Extension" "low2" "I") (by decide +kernel)) (fun _ h9 => h9) rfl (by decide +kernel) rfl rfl (Nat.le_of_ble_eq_true rfl) dX0_become_90 (fun H locs hP hD hS => ?_)
            have hP := cs_E4 hP
            refine lv_aload_n hx hb dX0_become_93 rfl (lv_at hl 2 rfl) ?_
            refine lv_iload_n hx hb dX0_become_94 rfl (lv_at hl 3 rfl) ?_
            refine lv_iconst (v := 1) hx hb dX0_become_95 (by decide) ?_
            refine lv_icmp_ne (tgt := 109) hx hb dX0_become_96 (by decide) (fun c202 => ?_) (fun c202 => ?_)
            · rw [if_neg c202] at hf
              refine lv_bipush (v := 101) hx hb dX0_become_109 (by decide) ?_
              refine va_put (ci := 0) (v := .int 101) (ty := .int) (C := RX0) (T := TX0) (N := 8) hx hb hts (by decide +kernel) tyX0 tyX0_ok nmX0 hown hK hP (ww_D hj) hS 40 cc_ext rfl 5 (by decide) (hts (.fieldLink RX0 27 "NumberFieldFactors$Extension" "t" "I") (by decide +kernel)) (fun _ h9 => h9) rfl (by decide +kernel) rfl rfl (Nat.le_of_ble_eq_true rfl) dX0_become_111 (fun H locs hP hD hS => ?_)
              have hP := cs_E5 hP
              refine lv_aload_n hx hb dX0_become_114 rfl (lv_at hl 2 rfl) ?_
              refine lv_aload_n hx hb dX0_become_115 rfl (lv_at hl 2 rfl) ?_
              refine lv_aload_n hx hb dX0_become_116 rfl (lv_at hl 2 rfl) ?_
              refine va_get (ci := 0) (v := .int ((va_up (va_up (va_up (va_up (va_up (va_up E 0 p0) 1 10201) 2 p1) 3 p2) 4 p3) 5 101) 5)) (C := RX0) (T := TX0) (N := 8) hx hb hts (by decide +kernel) hown hK hP 40 cc_ext rfl 5 (by decide) (hts (.fieldLink RX0 27 "NumberFieldFactors$Extension" "t" "I") (by decide +kernel)) (fun _ h9 => h9) rfl dX0_become_117 ?_
              refine lv_bipush (v := 101) hx hb dX0_become_120 (by decide) ?_
              obtain ⟨u203, g204, hf⟩ := Option.bind_eq_some_iff.mp hf
              try dsimp only at hf
              refine ct_call (va_runV (As := [.int ((va_up (va_up (va_up (va_up (va_up (va_up E 0 p0) 1 10201) 2 p1) 3 p2) 4 p3) 5 101) 5), .int 101]) (rest := [.ref (ad 40)]) ⟨hx, hb, hml, hown, hts⟩ (C_X0_power l D tys nw hn hnw hj htI htR (res := u203) g204) (cwV 2 hts gX0_become_X0_power rfl rfl rfl (by decide +kernel) ⟨Nat.le_of_ble_eq_true rfl, Nat.le_of_ble_eq_true rfl⟩) (ct_preV hn hP hK hN (ci := 0) (k := 40) rfl (by decide) rfl) rfl rfl hl.1 rfl (lv_room (Nat.le_of_ble_eq_true rfl)) dX0_become_122 ⟨Nat.zero_le _, Nat.zero_le _⟩) hS (fun H locs hP hS => ?_)
              refine va_put (ci := 0) (v := .int u203) (ty := .int) (C := RX0) (T := TX0) (N := 8) hx hb hts (by decide +kernel) tyX0 tyX0_ok nmX0 hown hK hP (ww_D hj) hS 40 cc_ext rfl 6 (by decide) (hts (.fieldLink RX0 30 "NumberFieldFactors$Extension" "mateOfT" "I") (by decide +kernel)) (fun _ h9 => h9) rfl (by decide +kernel) rfl rfl (Nat.le_of_ble_eq_true rfl) dX0_become_125 (fun H locs hP hD hS => ?_)
              have hP := cs_E6 hP
              refine lv_aload_n hx hb dX0_become_128 rfl (lv_at hl 2 rfl) ?_
              refine lv_aload_n hx hb dX0_become_129 rfl (lv_at hl 2 rfl) ?_
              refine lv_aload_n hx hb dX0_become_130 rfl (lv_at hl 2 rfl) ?_
              refine va_get (ci := 0) (v := .int ((va_up (va_up (va_up (va_up (va_up (va_up (va_up E 0 p0) 1 10201) 2 p1) 3 p2) 4 p3) 5 101) 6 u203) 6)) (C := RX0) (T := TX0) (N := 8) hx hb hts (by decide +kernel) hown hK hP 40 cc_ext rfl 6 (by decide) (hts (.fieldLink RX0 30 "NumberFieldFactors$Extension" "mateOfT" "I") (by decide +kernel)) (fun _ h9 => h9) rfl dX0_become_131 ?_
              refine lv_aload_n hx hb dX0_become_134 rfl (lv_at hl 2 rfl) ?_
              refine va_get (ci := 0) (v := .int ((va_up (va_up (va_up (va_up (va_up (va_up (va_up E 0 p0) 1 10201) 2 p1) 3 p2) 4 p3) 5 101) 6 u203) 6)) (C := RX0) (T := TX0) (N := 8) hx hb hts (by decide +kernel) hown hK hP 40 cc_ext rfl 6 (by decide) (hts (.fieldLink RX0 30 "NumberFieldFactors$Extension" "mateOfT" "I") (by decide +kernel)) (fun _ h9 => h9) rfl dX0_become_135 ?_
              obtain ⟨u205, g206, hf⟩ := Option.bind_eq_some_iff.mp hf
              try dsimp only at hf
              refine ct_call (va_runV (As := [.int ((va_up (va_up (va_up (va_up (va_up (va_up (va_up E 0 p0) 1 10201) 2 p1) 3 p2) 4 p3) 5 101) 6 u203) 6), .int ((va_up (va_up (va_up (va_up (va_up (va_up (va_up E 0 p0) 1 10201) 2 p1) 3 p2) 4 p3) 5 101) 6 u203) 6)]) (rest := [.ref (ad 40)]) ⟨hx, hb, hml, hown, hts⟩ (C_X0_times l D tys nw hn hnw hj htI htR (res := u205) g206) (cwV 2 hts gX0_become_X0_times rfl rfl rfl (by decide +kernel) ⟨Nat.le_of_ble_eq_true rfl, Nat.le_of_ble_eq_true rfl⟩) (ct_preV hn hP hK hN (ci := 0) (k := 40) rfl (by decide) rfl) rfl rfl hl.1 rfl (lv_room (Nat.le_of_ble_eq_true rfl)) dX0_become_138 ⟨Nat.zero_le _, Nat.zero_le _⟩) hS (fun H locs hP hS => ?_)
              refine va_put (ci := 0) (v := .int u205) (ty := .int) (C := RX0) (T := TX0) (N := 8) hx hb hts (by decide +kernel) tyX0 tyX0_ok nmX0 hown hK hP (ww_D hj) hS 40 cc_ext rfl 7 (by decide) (hts (.fieldLink RX0 33 "NumberFieldFactors$Extension" "mateOfTSquared" "I") (by decide +kernel)) (fun _ h9 => h9) rfl (by decide +kernel) rfl rfl (Nat.le_of_ble_eq_true rfl) dX0_become_141 (fun H locs hP hD hS => ?_)
              have hP := cs_E7 hP
              refine lv_iconst (v := 1) hx hb dX0_become_144 (by decide) ?_
              obtain rfl := Option.some.inj hf
              exact W.zret (v := 1) (ty := .boolean) hx hb hr (by decide) (fun t ht hW => ⟨rfl, by rw [ht]; exact hP, hS.F ht⟩) hS.2.2 dX0_become_145
            · rw [if_pos c202] at hf
              refine lv_bipush (v := 101) hx hb dX0_become_99 (by decide) ?_
              refine lv_iload_n hx hb dX0_become_101 rfl (lv_at hl 4 rfl) ?_
              refine lv_isub hx hb dX0_become_102 ?_
              refine lv_bipush (v := 101) hx hb dX0_become_103 (by decide) ?_
              refine jv_irem hx hb dX0_become_105 (by decide) ?_
              refine lv_goto (tgt := 111) hx hb dX0_become_106 (by decide) ?_
              refine va_put (ci := 0) (v := .int (jrem (101 - p1) 101)) (ty := .int) (C := RX0) (T := TX0) (N := 8) hx hb hts (by decide +kernel) tyX0 tyX0_ok nmX0 hown hK hP (ww_D hj) hS 40 cc_ext rfl 5 (by decide) (hts (.fieldLink RX0 27 "NumberFieldFactors$Extension" "t" "I") (by decide +kernel)) (fun _ h9 => h9) rfl (by decide +kernel) rfl rfl (Nat.le_of_ble_eq_true rfl) dX0_become_111 (fun H locs hP hD hS => ?_)
              have hP := cs_E5 hP
              refine lv_aload_n hx hb dX0_become_114 rfl (lv_at hl 2 rfl) ?_
              refine lv_aload_n hx hb dX0_become_115 rfl (lv_at hl 2 rfl) ?_
              refine lv_aload_n hx hb dX0_become_116 rfl (lv_at hl 2 rfl) ?_
              refine va_get (ci := 0) (v := .int ((va_up (va_up (va_up (va_up (va_up (va_up E 0 p0) 1 10201) 2 p1) 3 p2) 4 p3) 5 (jrem (101 - p1) 101)) 5)) (C := RX0) (T := TX0) (N := 8) hx hb hts (by decide +kernel) hown hK hP 40 cc_ext rfl 5 (by decide) (hts (.fieldLink RX0 27 "NumberFieldFactors$Extension" "t" "I") (by decide +kernel)) (fun _ h9 => h9) rfl dX0_become_117 ?_
              refine lv_bipush (v := 101) hx hb dX0_become_120 (by decide) ?_
              obtain ⟨u207, g208, hf⟩ := Option.bind_eq_some_iff.mp hf
              try dsimp only at hf
              refine ct_call (va_runV (As := [.int ((va_up (va_up (va_up (va_up (va_up (va_up E 0 p0) 1 10201) 2 p1) 3 p2) 4 p3) 5 (jrem (101 - p1) 101)) 5), .int 101]) (rest := [.ref (ad 40)]) ⟨hx, hb, hml, hown, hts⟩ (C_X0_power l D tys nw hn hnw hj htI htR (res := u207) g208) (cwV 2 hts gX0_become_X0_power rfl rfl rfl (by decide +kernel) ⟨Nat.le_of_ble_eq_true rfl, Nat.le_of_ble_eq_true rfl⟩) (ct_preV hn hP hK hN (ci := 0) (k := 40) rfl (by decide) rfl) rfl rfl hl.1 rfl (lv_room (Nat.le_of_ble_eq_true rfl)) dX0_become_122 ⟨Nat.zero_le _, Nat.zero_le _⟩) hS (fun H locs hP hS => ?_)
              refine va_put (ci := 0) (v := .int u207) (ty := .int) (C := RX0) (T := TX0) (N := 8) hx hb hts (by decide +kernel) tyX0 tyX0_ok nmX0 hown hK hP (ww_D hj) hS 40 cc_ext rfl 6 (by decide) (hts (.fieldLink RX0 30 "NumberFieldFactors$Extension" "mateOfT" "I") (by decide +kernel)) (fun _ h9 => h9) rfl (by decide +kernel) rfl rfl (Nat.le_of_ble_eq_true rfl) dX0_become_125 (fun H locs hP hD hS => ?_)
              have hP := cs_E6 hP
              refine lv_aload_n hx hb dX0_become_128 rfl (lv_at hl 2 rfl) ?_
              refine lv_aload_n hx hb dX0_become_129 rfl (lv_at hl 2 rfl) ?_
              refine lv_aload_n hx hb dX0_become_130 rfl (lv_at hl 2 rfl) ?_
              refine va_get (ci := 0) (v := .int ((va_up (va_up (va_up (va_up (va_up (va_up (va_up E 0 p0) 1 10201) 2 p1) 3 p2) 4 p3) 5 (jrem (101 - p1) 101)) 6 u207) 6)) (C := RX0) (T := TX0) (N := 8) hx hb hts (by decide +kernel) hown hK hP 40 cc_ext rfl 6 (by decide) (hts (.fieldLink RX0 30 "NumberFieldFactors$Extension" "mateOfT" "I") (by decide +kernel)) (fun _ h9 => h9) rfl dX0_become_131 ?_
              refine lv_aload_n hx hb dX0_become_134 rfl (lv_at hl 2 rfl) ?_
              refine va_get (ci := 0) (v := .int ((va_up (va_up (va_up (va_up (va_up (va_up (va_up E 0 p0) 1 10201) 2 p1) 3 p2) 4 p3) 5 (jrem (101 - p1) 101)) 6 u207) 6)) (C := RX0) (T := TX0) (N := 8) hx hb hts (by decide +kernel) hown hK hP 40 cc_ext rfl 6 (by decide) (hts (.fieldLink RX0 30 "NumberFieldFactors$Extension" "mateOfT" "I") (by decide +kernel)) (fun _ h9 => h9) rfl dX0_become_135 ?_
              obtain ⟨u209, g210, hf⟩ := Option.bind_eq_some_iff.mp hf
              try dsimp only at hf
              refine ct_call (va_runV (As := [.int ((va_up (va_up (va_up (va_up (va_up (va_up (va_up E 0 p0) 1 10201) 2 p1) 3 p2) 4 p3) 5 (jrem (101 - p1) 101)) 6 u207) 6), .int ((va_up (va_up (va_up (va_up (va_up (va_up (va_up E 0 p0) 1 10201) 2 p1) 3 p2) 4 p3) 5 (jrem (101 - p1) 101)) 6 u207) 6)]) (rest := [.ref (ad 40)]) ⟨hx, hb, hml, hown, hts⟩ (C_X0_times l D tys nw hn hnw hj htI htR (res := u209) g210) (cwV 2 hts gX0_become_X0_times rfl rfl rfl (by decide +kernel) ⟨Nat.le_of_ble_eq_true rfl, Nat.le_of_ble_eq_true rfl⟩) (ct_preV hn hP hK hN (ci := 0) (k := 40) rfl (by decide) rfl) rfl rfl hl.1 rfl (lv_room (Nat.le_of_ble_eq_true rfl)) dX0_become_138 ⟨Nat.zero_le _, Nat.zero_le _⟩) hS (fun H locs hP hS => ?_)
              refine va_put (ci := 0) (v := .int u209) (ty := .int) (C := RX0) (T := TX0) (N := 8) hx hb hts (by decide +kernel) tyX0 tyX0_ok nmX0 hown hK hP (ww_D hj) hS 40 cc_ext rfl 7 (by decide) (hts (.fieldLink RX0 33 "NumberFieldFactors$Extension" "mateOfTSquared" "I") (by decide +kernel)) (fun _ h9 => h9) rfl (by decide +kernel) rfl rfl (Nat.le_of_ble_eq_true rfl) dX0_become_141 (fun H locs hP hD hS => ?_)
              have hP := cs_E7 hP
              refine lv_iconst (v := 1) hx hb dX0_become_144 (by decide) ?_
              obtain rfl := Option.some.inj hf
              exact W.zret (v := 1) (ty := .boolean) hx hb hr (by decide) (fun t ht hW => ⟨rfl, by rw [ht]; exact hP, hS.F ht⟩) hS.2.2 dX0_become_145
        · rw [if_pos c191] at hf
          refine lv_bipush (v := 101) hx hb dX0_become_55 (by decide) ?_
          refine lv_goto (tgt := 73) hx hb dX0_become_57 (by decide) ?_
          refine va_put (ci := 0) (v := .int 101) (ty := .int) (C := RX0) (T := TX0) (N := 8) hx hb hts (by decide +kernel) tyX0 tyX0_ok nmX0 hown hK hP (ww_D hj) hS 40 cc_ext rfl 1 (by decide) (hts (.fieldLink RX0 15 "NumberFieldFactors$Extension" "size" "I") (by decide +kernel)) (fun _ h9 => h9) rfl (by decide +kernel) rfl rfl (Nat.le_of_ble_eq_true rfl) dX0_become_73 (fun H locs hP hD hS => ?_)
          have hP := cs_E1 hP
          refine lv_aload_n hx hb dX0_become_76 rfl (lv_at hl 2 rfl) ?_
          refine lv_iload_n hx hb dX0_become_77 rfl (lv_at hl 4 rfl) ?_
          refine va_put (ci := 0) (v := .int p1) (ty := .int) (C := RX0) (T := TX0) (N := 8) hx hb hts (by decide +kernel) tyX0 tyX0_ok nmX0 hown hK hP (ww_D hj) hS 40 cc_ext rfl 2 (by decide) (hts (.fieldLink RX0 18 "NumberFieldFactors$Extension" "low0" "I") (by decide +kernel)) (fun _ h9 => h9) rfl (by decide +kernel) rfl rfl (Nat.le_of_ble_eq_true rfl) dX0_become_78 (fun H locs hP hD hS => ?_)
          have hP := cs_E2 hP
          refine lv_aload_n hx hb dX0_become_81 rfl (lv_at hl 2 rfl) ?_
          refine lv_iload hx hb dX0_become_82 (lv_at hl 1 rfl) ?_
          refine va_put (ci := 0) (v := .int p2) (ty := .int) (C := RX0) (T := TX0) (N := 8) hx hb hts (by decide +kernel) tyX0 tyX0_ok nmX0 hown hK hP (ww_D hj) hS 40 cc_ext rfl 3 (by decide) (hts (.fieldLink RX0 21 "NumberFieldFactors$Extension" "low1" "I") (by decide +kernel)) (fun _ h9 => h9) rfl (by decide +kernel) rfl rfl (Nat.le_of_ble_eq_true rfl) dX0_become_84 (fun H locs hP hD hS => ?_)
          have hP := cs_E3 hP
          refine lv_aload_n hx hb dX0_become_87 rfl (lv_at hl 2 rfl) ?_
          refine lv_iload hx hb dX0_become_88 (lv_at hl 0 rfl) ?_
          refine va_put (ci := 0) (v := .int p3) (ty := .int) (C := RX0) (T := TX0) (N := 8) hx hb hts (by decide +kernel) tyX0 tyX0_ok nmX0 hown hK hP (ww_D hj) hS 40 cc_ext rfl 4 (by decide) (hts (.fieldLink RX0 24 "NumberFieldFactors$Extension" "low2" "I") (by decide +kernel)) (fun _ h9 => h9) rfl (by decide +kernel) rfl rfl (Nat.le_of_ble_eq_true rfl) dX0_become_90 (fun H locs hP hD hS => ?_)
          have hP := cs_E4 hP
          refine lv_aload_n hx hb dX0_become_93 rfl (lv_at hl 2 rfl) ?_
          refine lv_iload_n hx hb dX0_become_94 rfl (lv_at hl 3 rfl) ?_
          refine lv_iconst (v := 1) hx hb dX0_become_95 (by decide) ?_
          refine lv_icmp_ne (tgt := 109) hx hb dX0_become_96 (by decide) (fun c211 => ?_) (fun c211 => ?_)
          · rw [if_neg c211] at hf
            refine lv_bipush (v := 101) hx hb dX0_become_109 (by decide) ?_
            refine va_put (ci := 0) (v := .int 101) (ty := .int) (C := RX0) (T := TX0) (N := 8) hx hb hts (by decide +kernel) tyX0 tyX0_ok nmX0 hown hK hP (ww_D hj) hS 40 cc_ext rfl 5 (by decide) (hts (.fieldLink RX0 27 "NumberFieldFactors$Extension" "t" "I") (by decide +kernel)) (fun _ h9 => h9) rfl (by decide +kernel) rfl rfl (Nat.le_of_ble_eq_true rfl) dX0_become_111 (fun H locs hP hD hS => ?_)
            have hP := cs_E5 hP
            refine lv_aload_n hx hb dX0_become_114 rfl (lv_at hl 2 rfl) ?_
            refine lv_aload_n hx hb dX0_become_115 rfl (lv_at hl 2 rfl) ?_
            refine lv_aload_n hx hb dX0_become_116 rfl (lv_at hl 2 rfl) ?_
            refine va_get (ci := 0) (v := .int ((va_up (va_up (va_up (va_up (va_up (va_up E 0 p0) 1 101) 2 p1) 3 p2) 4 p3) 5 101) 5)) (C := RX0) (T := TX0) (N := 8) hx hb hts (by decide +kernel) hown hK hP 40 cc_ext rfl 5 (by decide) (hts (.fieldLink RX0 27 "NumberFieldFactors$Extension" "t" "I") (by decide +kernel)) (fun _ h9 => h9) rfl dX0_become_117 ?_
            refine lv_bipush (v := 101) hx hb dX0_become_120 (by decide) ?_
            obtain ⟨u212, g213, hf⟩ := Option.bind_eq_some_iff.mp hf
            try dsimp only at hf
            refine ct_call (va_runV (As := [.int ((va_up (va_up (va_up (va_up (va_up (va_up E 0 p0) 1 101) 2 p1) 3 p2) 4 p3) 5 101) 5), .int 101]) (rest := [.ref (ad 40)]) ⟨hx, hb, hml, hown, hts⟩ (C_X0_power l D tys nw hn hnw hj htI htR (res := u212) g213) (cwV 2 hts gX0_become_X0_power rfl rfl rfl (by decide +kernel) ⟨Nat.le_of_ble_eq_true rfl, Nat.le_of_ble_eq_true rfl⟩) (ct_preV hn hP hK hN (ci := 0) (k := 40) rfl (by decide) rfl) rfl rfl hl.1 rfl (lv_room (Nat.le_of_ble_eq_true rfl)) dX0_become_122 ⟨Nat.zero_le _, Nat.zero_le _⟩) hS (fun H locs hP hS => ?_)
            refine va_put (ci := 0) (v := .int u212) (ty := .int) (C := RX0) (T := TX0) (N := 8) hx hb hts (by decide +kernel) tyX0 tyX0_ok nmX0 hown hK hP (ww_D hj) hS 40 cc_ext rfl 6 (by decide) (hts (.fieldLink RX0 30 "NumberFieldFactors$Extension" "mateOfT" "I") (by decide +kernel)) (fun _ h9 => h9) rfl (by decide +kernel) rfl rfl (Nat.le_of_ble_eq_true rfl) dX0_become_125 (fun H locs hP hD hS => ?_)
            have hP := cs_E6 hP
            refine lv_aload_n hx hb dX0_become_128 rfl (lv_at hl 2 rfl) ?_
            refine lv_aload_n hx hb dX0_become_129 rfl (lv_at hl 2 rfl) ?_
            refine lv_aload_n hx hb dX0_become_130 rfl (lv_at hl 2 rfl) ?_
            refine va_get (ci := 0) (v := .int ((va_up (va_up (va_up (va_up (va_up (va_up (va_up E 0 p0) 1 101) 2 p1) 3 p2) 4 p3) 5 101) 6 u212) 6)) (C := RX0) (T := TX0) (N := 8) hx hb hts (by decide +kernel) hown hK hP 40 cc_ext rfl 6 (by decide) (hts (.fieldLink RX0 30 "NumberFieldFactors$Extension" "mateOfT" "I") (by decide +kernel)) (fun _ h9 => h9) rfl dX0_become_131 ?_
            refine lv_aload_n hx hb dX0_become_134 rfl (lv_at hl 2 rfl) ?_
            refine va_get (ci := 0) (v := .int ((va_up (va_up (va_up (va_up (va_up (va_up (va_up E 0 p0) 1 101) 2 p1) 3 p2) 4 p3) 5 101) 6 u212) 6)) (C := RX0) (T := TX0) (N := 8) hx hb hts (by decide +kernel) hown hK hP 40 cc_ext rfl 6 (by decide) (hts (.fieldLink RX0 30 "NumberFieldFactors$Extension" "mateOfT" "I") (by decide +kernel)) (fun _ h9 => h9) rfl dX0_become_135 ?_
            obtain ⟨u214, g215, hf⟩ := Option.bind_eq_some_iff.mp hf
            try dsimp only at hf
            refine ct_call (va_runV (As := [.int ((va_up (va_up (va_up (va_up (va_up (va_up (va_up E 0 p0) 1 101) 2 p1) 3 p2) 4 p3) 5 101) 6 u212) 6), .int ((va_up (va_up (va_up (va_up (va_up (va_up (va_up E 0 p0) 1 101) 2 p1) 3 p2) 4 p3) 5 101) 6 u212) 6)]) (rest := [.ref (ad 40)]) ⟨hx, hb, hml, hown, hts⟩ (C_X0_times l D tys nw hn hnw hj htI htR (res := u214) g215) (cwV 2 hts gX0_become_X0_times rfl rfl rfl (by decide +kernel) ⟨Nat.le_of_ble_eq_true rfl, Nat.le_of_ble_eq_true rfl⟩) (ct_preV hn hP hK hN (ci := 0) (k := 40) rfl (by decide) rfl) rfl rfl hl.1 rfl (lv_room (Nat.le_of_ble_eq_true rfl)) dX0_become_138 ⟨Nat.zero_le _, Nat.zero_le _⟩) hS (fun H locs hP hS => ?_)
            refine va_put (ci := 0) (v := .int u214) (ty := .int) (C := RX0) (T := TX0) (N := 8) hx hb hts (by decide +kernel) tyX0 tyX0_ok nmX0 hown hK hP (ww_D hj) hS 40 cc_ext rfl 7 (by decide) (hts (.fieldLink RX0 33 "NumberFieldFactors$Extension" "mateOfTSquared" "I") (by decide +kernel)) (fun _ h9 => h9) rfl (by decide +kernel) rfl rfl (Nat.le_of_ble_eq_true rfl) dX0_become_141 (fun H locs hP hD hS => ?_)
            have hP := cs_E7 hP
            refine lv_iconst (v := 1) hx hb dX0_become_144 (by decide) ?_
            obtain rfl := Option.some.inj hf
            exact W.zret (v := 1) (ty := .boolean) hx hb hr (by decide) (fun t ht hW => ⟨rfl, by rw [ht]; exact hP, hS.F ht⟩) hS.2.2 dX0_become_145
          · rw [if_pos c211] at hf
            refine lv_bipush (v := 101) hx hb dX0_become_99 (by decide) ?_
            refine lv_iload_n hx hb dX0_become_101 rfl (lv_at hl 4 rfl) ?_
            refine lv_isub hx hb dX0_become_102 ?_
            refine lv_bipush (v := 101) hx hb dX0_become_103 (by decide) ?_
            refine jv_irem hx hb dX0_become_105 (by decide) ?_
            refine lv_goto (tgt := 111) hx hb dX0_become_106 (by decide) ?_
            refine va_put (ci := 0) (v := .int (jrem (101 - p1) 101)) (ty := .int) (C := RX0) (T := TX0) (N := 8) hx hb hts (by decide +kernel) tyX0 tyX0_ok nmX0 hown hK hP (ww_D hj) hS 40 cc_ext rfl 5 (by decide) (hts (.fieldLink RX0 27 "NumberFieldFactors$Extension" "t" "I") (by decide +kernel)) (fun _ h9 => h9) rfl (by decide +kernel) rfl rfl (Nat.le_of_ble_eq_true rfl) dX0_become_111 (fun H locs hP hD hS => ?_)
            have hP := cs_E5 hP
            refine lv_aload_n hx hb dX0_become_114 rfl (lv_at hl 2 rfl) ?_
            refine lv_aload_n hx hb dX0_become_115 rfl (lv_at hl 2 rfl) ?_
            refine lv_aload_n hx hb dX0_become_116 rfl (lv_at hl 2 rfl) ?_
            refine va_get (ci := 0) (v := .int ((va_up (va_up (va_up (va_up (va_up (va_up E 0 p0) 1 101) 2 p1) 3 p2) 4 p3) 5 (jrem (101 - p1) 101)) 5)) (C := RX0) (T := TX0) (N := 8) hx hb hts (by decide +kernel) hown hK hP 40 cc_ext rfl 5 (by decide) (hts (.fieldLink RX0 27 "NumberFieldFactors$Extension" "t" "I") (by decide +kernel)) (fun _ h9 => h9) rfl dX0_become_117 ?_
            refine lv_bipush (v := 101) hx hb dX0_become_120 (by decide) ?_
            obtain ⟨u216, g217, hf⟩ := Option.bind_eq_some_iff.mp hf
            try dsimp only at hf
            refine ct_call (va_runV (As := [.int ((va_up (va_up (va_up (va_up (va_up (va_up E 0 p0) 1 101) 2 p1) 3 p2) 4 p3) 5 (jrem (101 - p1) 101)) 5), .int 101]) (rest := [.ref (ad 40)]) ⟨hx, hb, hml, hown, hts⟩ (C_X0_power l D tys nw hn hnw hj htI htR (res := u216) g217) (cwV 2 hts gX0_become_X0_power rfl rfl rfl (by decide +kernel) ⟨Nat.le_of_ble_eq_true rfl, Nat.le_of_ble_eq_true rfl⟩) (ct_preV hn hP hK hN (ci := 0) (k := 40) rfl (by decide) rfl) rfl rfl hl.1 rfl (lv_room (Nat.le_of_ble_eq_true rfl)) dX0_become_122 ⟨Nat.zero_le _, Nat.zero_le _⟩) hS (fun H locs hP hS => ?_)
            refine va_put (ci := 0) (v := .int u216) (ty := .int) (C := RX0) (T := TX0) (N := 8) hx hb hts (by decide +kernel) tyX0 tyX0_ok nmX0 hown hK hP (ww_D hj) hS 40 cc_ext rfl 6 (by decide) (hts (.fieldLink RX0 30 "NumberFieldFactors$Extension" "mateOfT" "I") (by decide +kernel)) (fun _ h9 => h9) rfl (by decide +kernel) rfl rfl (Nat.le_of_ble_eq_true rfl) dX0_become_125 (fun H locs hP hD hS => ?_)
            have hP := cs_E6 hP
            refine lv_aload_n hx hb dX0_become_128 rfl (lv_at hl 2 rfl) ?_
            refine lv_aload_n hx hb dX0_become_129 rfl (lv_at hl 2 rfl) ?_
            refine lv_aload_n hx hb dX0_become_130 rfl (lv_at hl 2 rfl) ?_
            refine va_get (ci := 0) (v := .int ((va_up (va_up (va_up (va_up (va_up (va_up (va_up E 0 p0) 1 101) 2 p1) 3 p2) 4 p3) 5 (jrem (101 - p1) 101)) 6 u216) 6)) (C := RX0) (T := TX0) (N := 8) hx hb hts (by decide +kernel) hown hK hP 40 cc_ext rfl 6 (by decide) (hts (.fieldLink RX0 30 "NumberFieldFactors$Extension" "mateOfT" "I") (by decide +kernel)) (fun _ h9 => h9) rfl dX0_become_131 ?_
            refine lv_aload_n hx hb dX0_become_134 rfl (lv_at hl 2 rfl) ?_
            refine va_get (ci := 0) (v := .int ((va_up (va_up (va_up (va_up (va_up (va_up (va_up E 0 p0) 1 101) 2 p1) 3 p2) 4 p3) 5 (jrem (101 - p1) 101)) 6 u216) 6)) (C := RX0) (T := TX0) (N := 8) hx hb hts (by decide +kernel) hown hK hP 40 cc_ext rfl 6 (by decide) (hts (.fieldLink RX0 30 "NumberFieldFactors$Extension" "mateOfT" "I") (by decide +kernel)) (fun _ h9 => h9) rfl dX0_become_135 ?_
            obtain ⟨u218, g219, hf⟩ := Option.bind_eq_some_iff.mp hf
            try dsimp only at hf
            refine ct_call (va_runV (As := [.int ((va_up (va_up (va_up (va_up (va_up (va_up (va_up E 0 p0) 1 101) 2 p1) 3 p2) 4 p3) 5 (jrem (101 - p1) 101)) 6 u216) 6), .int ((va_up (va_up (va_up (va_up (va_up (va_up (va_up E 0 p0) 1 101) 2 p1) 3 p2) 4 p3) 5 (jrem (101 - p1) 101)) 6 u216) 6)]) (rest := [.ref (ad 40)]) ⟨hx, hb, hml, hown, hts⟩ (C_X0_times l D tys nw hn hnw hj htI htR (res := u218) g219) (cwV 2 hts gX0_become_X0_times rfl rfl rfl (by decide +kernel) ⟨Nat.le_of_ble_eq_true rfl, Nat.le_of_ble_eq_true rfl⟩) (ct_preV hn hP hK hN (ci := 0) (k := 40) rfl (by decide) rfl) rfl rfl hl.1 rfl (lv_room (Nat.le_of_ble_eq_true rfl)) dX0_become_138 ⟨Nat.zero_le _, Nat.zero_le _⟩) hS (fun H locs hP hS => ?_)
            refine va_put (ci := 0) (v := .int u218) (ty := .int) (C := RX0) (T := TX0) (N := 8) hx hb hts (by decide +kernel) tyX0 tyX0_ok nmX0 hown hK hP (ww_D hj) hS 40 cc_ext rfl 7 (by decide) (hts (.fieldLink RX0 33 "NumberFieldFactors$Extension" "mateOfTSquared" "I") (by decide +kernel)) (fun _ h9 => h9) rfl (by decide +kernel) rfl rfl (Nat.le_of_ble_eq_true rfl) dX0_become_141 (fun H locs hP hD hS => ?_)
            have hP := cs_E7 hP
            refine lv_iconst (v := 1) hx hb dX0_become_144 (by decide) ?_
            obtain rfl := Option.some.inj hf
            exact W.zret (v := 1) (ty := .boolean) hx hb hr (by decide) (fun t ht hW => ⟨rfl, by rw [ht]; exact hP, hS.F ht⟩) hS.2.2 dX0_become_145
      · rw [if_neg c190] at hf
        refine lv_iload_n hx hb dX0_become_30 rfl (lv_at hl 3 rfl) ?_
        refine lv_iload_n hx hb dX0_become_31 rfl (lv_at hl 4 rfl) ?_
        refine lv_iload hx hb dX0_become_32 (lv_at hl 1 rfl) ?_
        refine lv_iload hx hb dX0_become_34 (lv_at hl 0 rfl) ?_
        obtain ⟨u220, g221, hf⟩ := Option.bind_eq_some_iff.mp hf
        try dsimp only at hf
        refine ct_call (va_runS (As := [.int p0, .int p1, .int p2, .int p3]) (rest := []) ⟨hx, hb, hml, hown, hts⟩ (C_X0_hasRoot l D tys nw hn hnw hj htI htR (res := u220) g221) (cwS 4 hts gX0_become_X0_hasRoot rfl rfl rfl (by decide +kernel) ⟨Nat.le_of_ble_eq_true rfl, Nat.le_of_ble_eq_true rfl⟩) (ct_preS hn hP hK hN) rfl rfl hl.1 rfl (lv_room (Nat.le_of_ble_eq_true rfl)) dX0_become_36 ⟨Nat.zero_le _, Nat.zero_le _⟩) hS (fun H locs hP hS => ?_)
        refine lv_if_eq (tgt := 44) hx hb dX0_become_39 (by decide) (fun c222 => ?_) (fun c222 => ?_)
        · rw [if_pos c222] at hf
          refine lv_aload_n hx hb dX0_become_44 rfl (lv_at hl 2 rfl) ?_
          refine lv_iload_n hx hb dX0_become_45 rfl (lv_at hl 3 rfl) ?_
          refine va_put (ci := 0) (v := .int p0) (ty := .int) (C := RX0) (T := TX0) (N := 8) hx hb hts (by decide +kernel) tyX0 tyX0_ok nmX0 hown hK hP (ww_D hj) hS 40 cc_ext rfl 0 (by decide) (hts (.fieldLink RX0 9 "NumberFieldFactors$Extension" "degree" "I") (by decide +kernel)) (fun _ h9 => h9) rfl (by decide +kernel) rfl rfl (Nat.le_of_ble_eq_true rfl) dX0_become_46 (fun H locs hP hD hS => ?_)
          have hP := cs_E0 hP
          refine lv_aload_n hx hb dX0_become_49 rfl (lv_at hl 2 rfl) ?_
          refine lv_iload_n hx hb dX0_become_50 rfl (lv_at hl 3 rfl) ?_
          refine lv_iconst (v := 1) hx hb dX0_become_51 (by decide) ?_
          refine lv_icmp_ne (tgt := 60) hx hb dX0_become_52 (by decide) (fun c223 => ?_) (fun c223 => ?_)
          · rw [if_neg c223] at hf
            refine lv_iload_n hx hb dX0_become_60 rfl (lv_at hl 3 rfl) ?_
            refine lv_iconst (v := 2) hx hb dX0_become_61 (by decide) ?_
            refine lv_icmp_ne (tgt := 71) hx hb dX0_become_62 (by decide) (fun c224 => ?_) (fun c224 => ?_)
            · rw [if_neg c224] at hf
              refine lv_ldc (v := 1030301) hx hb hown (hts (.constant RX0 40 (1030301)) (by decide +kernel)) dX0_become_71 ?_
              refine va_put (ci := 0) (v := .int 1030301) (ty := .int) (C := RX0) (T := TX0) (N := 8) hx hb hts (by decide +kernel) tyX0 tyX0_ok nmX0 hown hK hP (ww_D hj) hS 40 cc_ext rfl 1 (by decide) (hts (.fieldLink RX0 15 "NumberFieldFactors$Extension" "size" "I") (by decide +kernel)) (fun _ h9 => h9) rfl (by decide +kernel) rfl rfl (Nat.le_of_ble_eq_true rfl) dX0_become_73 (fun H locs hP hD hS => ?_)
              have hP := cs_E1 hP
              refine lv_aload_n hx hb dX0_become_76 rfl (lv_at hl 2 rfl) ?_
              refine lv_iload_n hx hb dX0_become_77 rfl (lv_at hl 4 rfl) ?_
              refine va_put (ci := 0) (v := .int p1) (ty := .int) (C := RX0) (T := TX0) (N := 8) hx hb hts (by decide +kernel) tyX0 tyX0_ok nmX0 hown hK hP (ww_D hj) hS 40 cc_ext rfl 2 (by decide) (hts (.fieldLink RX0 18 "NumberFieldFactors$Extension" "low0" "I") (by decide +kernel)) (fun _ h9 => h9) rfl (by decide +kernel) rfl rfl (Nat.le_of_ble_eq_true rfl) dX0_become_78 (fun H locs hP hD hS => ?_)
              have hP := cs_E2 hP
              refine lv_aload_n hx hb dX0_become_81 rfl (lv_at hl 2 rfl) ?_
              refine lv_iload hx hb dX0_become_82 (lv_at hl 1 rfl) ?_
              refine va_put (ci := 0) (v := .int p2) (ty := .int) (C := RX0) (T := TX0) (N := 8) hx hb hts (by decide +kernel) tyX0 tyX0_ok nmX0 hown hK hP (ww_D hj) hS 40 cc_ext rfl 3 (by decide) (hts (.fieldLink RX0 21 "NumberFieldFactors$Extension" "low1" "I") (by decide +kernel)) (fun _ h9 => h9) rfl (by decide +kernel) rfl rfl (Nat.le_of_ble_eq_true rfl) dX0_become_84 (fun H locs hP hD hS => ?_)
              have hP := cs_E3 hP
              refine lv_aload_n hx hb dX0_become_87 rfl (lv_at hl 2 rfl) ?_
              refine lv_iload hx hb dX0_become_88 (lv_at hl 0 rfl) ?_
              refine va_put (ci := 0) (v := .int p3) (ty := .int) (C := RX0) (T := TX0) (N := 8) hx hb hts (by decide +kernel) tyX0 tyX0_ok nmX0 hown hK hP (ww_D hj) hS 40 cc_ext rfl 4 (by decide) (hts (.fieldLink RX0 24 "NumberFieldFactors$Extension" "low2" "I") (by decide +kernel)) (fun _ h9 => h9) rfl (by decide +kernel) rfl rfl (Nat.le_of_ble_eq_true rfl) dX0_become_90 (fun H locs hP hD hS => ?_)
              have hP := cs_E4 hP
              refine lv_aload_n hx hb dX0_become_93 rfl (lv_at hl 2 rfl) ?_
              refine lv_iload_n hx hb dX0_become_94 rfl (lv_at hl 3 rfl) ?_
              refine lv_iconst (v := 1) hx hb dX0_become_95 (by decide) ?_
              refine lv_icmp_ne (tgt := 109) hx hb dX0_become_96 (by decide) (fun c225 => ?_) (fun c225 => ?_)
              · rw [if_neg c225] at hf
                refine lv_bipush (v := 101) hx hb dX0_become_109 (by decide) ?_
                refine va_put (ci := 0) (v := .int 101) (ty := .int) (C := RX0) (T := TX0) (N := 8) hx hb hts (by decide +kernel) tyX0 tyX0_ok nmX0 hown hK hP (ww_D hj) hS 40 cc_ext rfl 5 (by decide) (hts (.fieldLink RX0 27 "NumberFieldFactors$Extension" "t" "I") (by decide +kernel)) (fun _ h9 => h9) rfl (by decide +kernel) rfl rfl (Nat.le_of_ble_eq_true rfl) dX0_become_111 (fun H locs hP hD hS => ?_)
                have hP := cs_E5 hP
                refine lv_aload_n hx hb dX0_become_114 rfl (lv_at hl 2 rfl) ?_
                refine lv_aload_n hx hb dX0_become_115 rfl (lv_at hl 2 rfl) ?_
                refine lv_aload_n hx hb dX0_become_116 rfl (lv_at hl 2 rfl) ?_
                refine va_get (ci := 0) (v := .int ((va_up (va_up (va_up (va_up (va_up (va_up E 0 p0) 1 1030301) 2 p1) 3 p2) 4 p3) 5 101) 5)) (C := RX0) (T := TX0) (N := 8) hx hb hts (by decide +kernel) hown hK hP 40 cc_ext rfl 5 (by decide) (hts (.fieldLink RX0 27 "NumberFieldFactors$Extension" "t" "I") (by decide +kernel)) (fun _ h9 => h9) rfl dX0_become_117 ?_
                refine lv_bipush (v := 101) hx hb dX0_become_120 (by decide) ?_
                obtain ⟨u226, g227, hf⟩ := Option.bind_eq_some_iff.mp hf
                try dsimp only at hf
                refine ct_call (va_runV (As := [.int ((va_up (va_up (va_up (va_up (va_up (va_up E 0 p0) 1 1030301) 2 p1) 3 p2) 4 p3) 5 101) 5), .int 101]) (rest := [.ref (ad 40)]) ⟨hx, hb, hml, hown, hts⟩ (C_X0_power l D tys nw hn hnw hj htI htR (res := u226) g227) (cwV 2 hts gX0_become_X0_power rfl rfl rfl (by decide +kernel) ⟨Nat.le_of_ble_eq_true rfl, Nat.le_of_ble_eq_true rfl⟩) (ct_preV hn hP hK hN (ci := 0) (k := 40) rfl (by decide) rfl) rfl rfl hl.1 rfl (lv_room (Nat.le_of_ble_eq_true rfl)) dX0_become_122 ⟨Nat.zero_le _, Nat.zero_le _⟩) hS (fun H locs hP hS => ?_)
                refine va_put (ci := 0) (v := .int u226) (ty := .int) (C := RX0) (T := TX0) (N := 8) hx hb hts (by decide +kernel) tyX0 tyX0_ok nmX0 hown hK hP (ww_D hj) hS 40 cc_ext rfl 6 (by decide) (hts (.fieldLink RX0 30 "NumberFieldFactors$Extension" "mateOfT" "I") (by decide +kernel)) (fun _ h9 => h9) rfl (by decide +kernel) rfl rfl (Nat.le_of_ble_eq_true rfl) dX0_become_125 (fun H locs hP hD hS => ?_)
                have hP := cs_E6 hP
                refine lv_aload_n hx hb dX0_become_128 rfl (lv_at hl 2 rfl) ?_
                refine lv_aload_n hx hb dX0_become_129 rfl (lv_at hl 2 rfl) ?_
                refine lv_aload_n hx hb dX0_become_130 rfl (lv_at hl 2 rfl) ?_
                refine va_get (ci := 0) (v := .int ((va_up (va_up (va_up (va_up (va_up (va_up (va_up E 0 p0) 1 1030301) 2 p1) 3 p2) 4 p3) 5 101) 6 u226) 6)) (C := RX0) (T := TX0) (N := 8) hx hb hts (by decide +kernel) hown hK hP 40 cc_ext rfl 6 (by decide) (hts (.fieldLink RX0 30 "NumberFieldFactors$Extension" "mateOfT" "I") (by decide +kernel)) (fun _ h9 => h9) rfl dX0_become_131 ?_
                refine lv_aload_n hx hb dX0_become_134 rfl (lv_at hl 2 rfl) ?_
                refine va_get (ci := 0) (v := .int ((va_up (va_up (va_up (va_up (va_up (va_up (va_up E 0 p0) 1 1030301) 2 p1) 3 p2) 4 p3) 5 101) 6 u226) 6)) (C := RX0) (T := TX0) (N := 8) hx hb hts (by decide +kernel) hown hK hP 40 cc_ext rfl 6 (by decide) (hts (.fieldLink RX0 30 "NumberFieldFactors$Extension" "mateOfT" "I") (by decide +kernel)) (fun _ h9 => h9) rfl dX0_become_135 ?_
                obtain ⟨u228, g229, hf⟩ := Option.bind_eq_some_iff.mp hf
                try dsimp only at hf
                refine ct_call (va_runV (As := [.int ((va_up (va_up (va_up (va_up (va_up (va_up (va_up E 0 p0) 1 1030301) 2 p1) 3 p2) 4 p3) 5 101) 6 u226) 6), .int ((va_up (va_up (va_up (va_up (va_up (va_up (va_up E 0 p0) 1 1030301) 2 p1) 3 p2) 4 p3) 5 101) 6 u226) 6)]) (rest := [.ref (ad 40)]) ⟨hx, hb, hml, hown, hts⟩ (C_X0_times l D tys nw hn hnw hj htI htR (res := u228) g229) (cwV 2 hts gX0_become_X0_times rfl rfl rfl (by decide +kernel) ⟨Nat.le_of_ble_eq_true rfl, Nat.le_of_ble_eq_true rfl⟩) (ct_preV hn hP hK hN (ci := 0) (k := 40) rfl (by decide) rfl) rfl rfl hl.1 rfl (lv_room (Nat.le_of_ble_eq_true rfl)) dX0_become_138 ⟨Nat.zero_le _, Nat.zero_le _⟩) hS (fun H locs hP hS => ?_)
                refine va_put (ci := 0) (v := .int u228) (ty := .int) (C := RX0) (T := TX0) (N := 8) hx hb hts (by decide +kernel) tyX0 tyX0_ok nmX0 hown hK hP (ww_D hj) hS 40 cc_ext rfl 7 (by decide) (hts (.fieldLink RX0 33 "NumberFieldFactors$Extension" "mateOfTSquared" "I") (by decide +kernel)) (fun _ h9 => h9) rfl (by decide +kernel) rfl rfl (Nat.le_of_ble_eq_true rfl) dX0_become_141 (fun H locs hP hD hS => ?_)
                have hP := cs_E7 hP
                refine lv_iconst (v := 1) hx hb dX0_become_144 (by decide) ?_
                obtain rfl := Option.some.inj hf
                exact W.zret (v := 1) (ty := .boolean) hx hb hr (by decide) (fun t ht hW => ⟨rfl, by rw [ht]; exact hP, hS.F ht⟩) hS.2.2 dX0_become_145
              · rw [if_pos c225] at hf
                refine lv_bipush (v := 101) hx hb dX0_become_99 (by decide) ?_
                refine lv_iload_n hx hb dX0_become_101 rfl (lv_at hl 4 rfl) ?_
                refine lv_isub hx hb dX0_become_102 ?_
                refine lv_bipush (v := 101) hx hb dX0_become_103 (by decide) ?_
                refine jv_irem hx hb dX0_become_105 (by decide) ?_
                refine lv_goto (tgt := 111) hx hb dX0_become_106 (by decide) ?_
                refine va_put (ci := 0) (v := .int (jrem (101 - p1) 101)) (ty := .int) (C := RX0) (T := TX0) (N := 8) hx hb hts (by decide +kernel) tyX0 tyX0_ok nmX0 hown hK hP (ww_D hj) hS 40 cc_ext rfl 5 (by decide) (hts (.fieldLink RX0 27 "NumberFieldFactors$Extension" "t" "I") (by decide +kernel)) (fun _ h9 => h9) rfl (by decide +kernel) rfl rfl (Nat.le_of_ble_eq_true rfl) dX0_become_111 (fun H locs hP hD hS => ?_)
                have hP := cs_E5 hP
                refine lv_aload_n hx hb dX0_become_114 rfl (lv_at hl 2 rfl) ?_
                refine lv_aload_n hx hb dX0_become_115 rfl (lv_at hl 2 rfl) ?_
                refine lv_aload_n hx hb dX0_become_116 rfl (lv_at hl 2 rfl) ?_
                refine va_get (ci := 0) (v := .int ((va_up (va_up (va_up (va_up (va_up (va_up E 0 p0) 1 1030301) 2 p1) 3 p2) 4 p3) 5 (jrem (101 - p1) 101)) 5)) (C := RX0) (T := TX0) (N := 8) hx hb hts (by decide +kernel) hown hK hP 40 cc_ext rfl 5 (by decide) (hts (.fieldLink RX0 27 "NumberFieldFactors$Extension" "t" "I") (by decide +kernel)) (fun _ h9 => h9) rfl dX0_become_117 ?_
                refine lv_bipush (v := 101) hx hb dX0_become_120 (by decide) ?_
                obtain ⟨u230, g231, hf⟩ := Option.bind_eq_some_iff.mp hf
                try dsimp only at hf
                refine ct_call (va_runV (As := [.int ((va_up (va_up (va_up (va_up (va_up (va_up E 0 p0) 1 1030301) 2 p1) 3 p2) 4 p3) 5 (jrem (101 - p1) 101)) 5), .int 101]) (rest := [.ref (ad 40)]) ⟨hx, hb, hml, hown, hts⟩ (C_X0_power l D tys nw hn hnw hj htI htR (res := u230) g231) (cwV 2 hts gX0_become_X0_power rfl rfl rfl (by decide +kernel) ⟨Nat.le_of_ble_eq_true rfl, Nat.le_of_ble_eq_true rfl⟩) (ct_preV hn hP hK hN (ci := 0) (k := 40) rfl (by decide) rfl) rfl rfl hl.1 rfl (lv_room (Nat.le_of_ble_eq_true rfl)) dX0_become_122 ⟨Nat.zero_le _, Nat.zero_le _⟩) hS (fun H locs hP hS => ?_)
                refine va_put (ci := 0) (v := .int u230) (ty := .int) (C := RX0) (T := TX0) (N := 8) hx hb hts (by decide +kernel) tyX0 tyX0_ok nmX0 hown hK hP (ww_D hj) hS 40 cc_ext rfl 6 (by decide) (hts (.fieldLink RX0 30 "NumberFieldFactors$Extension" "mateOfT" "I") (by decide +kernel)) (fun _ h9 => h9) rfl (by decide +kernel) rfl rfl (Nat.le_of_ble_eq_true rfl) dX0_become_125 (fun H locs hP hD hS => ?_)
                have hP := cs_E6 hP
                refine lv_aload_n hx hb dX0_become_128 rfl (lv_at hl 2 rfl) ?_
                refine lv_aload_n hx hb dX0_become_129 rfl (lv_at hl 2 rfl) ?_
                refine lv_aload_n hx hb dX0_become_130 rfl (lv_at hl 2 rfl) ?_
                refine va_get (ci := 0) (v := .int ((va_up (va_up (va_up (va_up (va_up (va_up (va_up E 0 p0) 1 1030301) 2 p1) 3 p2) 4 p3) 5 (jrem (101 - p1) 101)) 6 u230) 6)) (C := RX0) (T := TX0) (N := 8) hx hb hts (by decide +kernel) hown hK hP 40 cc_ext rfl 6 (by decide) (hts (.fieldLink RX0 30 "NumberFieldFactors$Extension" "mateOfT" "I") (by decide +kernel)) (fun _ h9 => h9) rfl dX0_become_131 ?_
                refine lv_aload_n hx hb dX0_become_134 rfl (lv_at hl 2 rfl) ?_
                refine va_get (ci := 0) (v := .int ((va_up (va_up (va_up (va_up (va_up (va_up (va_up E 0 p0) 1 1030301) 2 p1) 3 p2) 4 p3) 5 (jrem (101 - p1) 101)) 6 u230) 6)) (C := RX0) (T := TX0) (N := 8) hx hb hts (by decide +kernel) hown hK hP 40 cc_ext rfl 6 (by decide) (hts (.fieldLink RX0 30 "NumberFieldFactors$Extension" "mateOfT" "I") (by decide +kernel)) (fun _ h9 => h9) rfl dX0_become_135 ?_
                obtain ⟨u232, g233, hf⟩ := Option.bind_eq_some_iff.mp hf
                try dsimp only at hf
                refine ct_call (va_runV (As := [.int ((va_up (va_up (va_up (va_up (va_up (va_up (va_up E 0 p0) 1 1030301) 2 p1) 3 p2) 4 p3) 5 (jrem (101 - p1) 101)) 6 u230) 6), .int ((va_up (va_up (va_up (va_up (va_up (va_up (va_up E 0 p0) 1 1030301) 2 p1) 3 p2) 4 p3) 5 (jrem (101 - p1) 101)) 6 u230) 6)]) (rest := [.ref (ad 40)]) ⟨hx, hb, hml, hown, hts⟩ (C_X0_times l D tys nw hn hnw hj htI htR (res := u232) g233) (cwV 2 hts gX0_become_X0_times rfl rfl rfl (by decide +kernel) ⟨Nat.le_of_ble_eq_true rfl, Nat.le_of_ble_eq_true rfl⟩) (ct_preV hn hP hK hN (ci := 0) (k := 40) rfl (by decide) rfl) rfl rfl hl.1 rfl (lv_room (Nat.le_of_ble_eq_true rfl)) dX0_become_138 ⟨Nat.zero_le _, Nat.zero_le _⟩) hS (fun H locs hP hS => ?_)
                refine va_put (ci := 0) (v := .int u232) (ty := .int) (C := RX0) (T := TX0) (N := 8) hx hb hts (by decide +kernel) tyX0 tyX0_ok nmX0 hown hK hP (ww_D hj) hS 40 cc_ext rfl 7 (by decide) (hts (.fieldLink RX0 33 "NumberFieldFactors$Extension" "mateOfTSquared" "I") (by decide +kernel)) (fun _ h9 => h9) rfl (by decide +kernel) rfl rfl (Nat.le_of_ble_eq_true rfl) dX0_become_141 (fun H locs hP hD hS => ?_)
                have hP := cs_E7 hP
                refine lv_iconst (v := 1) hx hb dX0_become_144 (by decide) ?_
                obtain rfl := Option.some.inj hf
                exact W.zret (v := 1) (ty := .boolean) hx hb hr (by decide) (fun t ht hW => ⟨rfl, by rw [ht]; exact hP, hS.F ht⟩) hS.2.2 dX0_become_145
            · rw [if_pos c224] at hf
              refine lv_sipush (v := 10201) hx hb dX0_become_65 (by decide) ?_
              refine lv_goto (tgt := 73) hx hb dX0_become_68 (by decide) ?_
              refine va_put (ci := 0) (v := .int 10201) (ty := .int) (C := RX0) (T := TX0) (N := 8) hx hb hts (by decide +kernel) tyX0 tyX0_ok nmX0 hown hK hP (ww_D hj) hS 40 cc_ext rfl 1 (by decide) (hts (.fieldLink RX0 15 "NumberFieldFactors$Extension" "size" "I") (by decide +kernel)) (fun _ h9 => h9) rfl (by decide +kernel) rfl rfl (Nat.le_of_ble_eq_true rfl) dX0_become_73 (fun H locs hP hD hS => ?_)
              have hP := cs_E1 hP
              refine lv_aload_n hx hb dX0_become_76 rfl (lv_at hl 2 rfl) ?_
              refine lv_iload_n hx hb dX0_become_77 rfl (lv_at hl 4 rfl) ?_
              refine va_put (ci := 0) (v := .int p1) (ty := .int) (C := RX0) (T := TX0) (N := 8) hx hb hts (by decide +kernel) tyX0 tyX0_ok nmX0 hown hK hP (ww_D hj) hS 40 cc_ext rfl 2 (by decide) (hts (.fieldLink RX0 18 "NumberFieldFactors$Extension" "low0" "I") (by decide +kernel)) (fun _ h9 => h9) rfl (by decide +kernel) rfl rfl (Nat.le_of_ble_eq_true rfl) dX0_become_78 (fun H locs hP hD hS => ?_)
              have hP := cs_E2 hP
              refine lv_aload_n hx hb dX0_become_81 rfl (lv_at hl 2 rfl) ?_
              refine lv_iload hx hb dX0_become_82 (lv_at hl 1 rfl) ?_
              refine va_put (ci := 0) (v := .int p2) (ty := .int) (C := RX0) (T := TX0) (N := 8) hx hb hts (by decide +kernel) tyX0 tyX0_ok nmX0 hown hK hP (ww_D hj) hS 40 cc_ext rfl 3 (by decide) (hts (.fieldLink RX0 21 "NumberFieldFactors$Extension" "low1" "I") (by decide +kernel)) (fun _ h9 => h9) rfl (by decide +kernel) rfl rfl (Nat.le_of_ble_eq_true rfl) dX0_become_84 (fun H locs hP hD hS => ?_)
              have hP := cs_E3 hP
              refine lv_aload_n hx hb dX0_become_87 rfl (lv_at hl 2 rfl) ?_
              refine lv_iload hx hb dX0_become_88 (lv_at hl 0 rfl) ?_
              refine va_put (ci := 0) (v := .int p3) (ty := .int) (C := RX0) (T := TX0) (N := 8) hx hb hts (by decide +kernel) tyX0 tyX0_ok nmX0 hown hK hP (ww_D hj) hS 40 cc_ext rfl 4 (by decide) (hts (.fieldLink RX0 24 "NumberFieldFactors$Extension" "low2" "I") (by decide +kernel)) (fun _ h9 => h9) rfl (by decide +kernel) rfl rfl (Nat.le_of_ble_eq_true rfl) dX0_become_90 (fun H locs hP hD hS => ?_)
              have hP := cs_E4 hP
              refine lv_aload_n hx hb dX0_become_93 rfl (lv_at hl 2 rfl) ?_
              refine lv_iload_n hx hb dX0_become_94 rfl (lv_at hl 3 rfl) ?_
              refine lv_iconst (v := 1) hx hb dX0_become_95 (by decide) ?_
              refine lv_icmp_ne (tgt := 109) hx hb dX0_become_96 (by decide) (fun c234 => ?_) (fun c234 => ?_)
              · rw [if_neg c234] at hf
                refine lv_bipush (v := 101) hx hb dX0_become_109 (by decide) ?_
                refine va_put (ci := 0) (v := .int 101) (ty := .int) (C := RX0) (T := TX0) (N := 8) hx hb hts (by decide +kernel) tyX0 tyX0_ok nmX0 hown hK hP (ww_D hj) hS 40 cc_ext rfl 5 (by decide) (hts (.fieldLink RX0 27 "NumberFieldFactors$Extension" "t" "I") (by decide +kernel)) (fun _ h9 => h9) rfl (by decide +kernel) rfl rfl (Nat.le_of_ble_eq_true rfl) dX0_become_111 (fun H locs hP hD hS => ?_)
                have hP := cs_E5 hP
                refine lv_aload_n hx hb dX0_become_114 rfl (lv_at hl 2 rfl) ?_
                refine lv_aload_n hx hb dX0_become_115 rfl (lv_at hl 2 rfl) ?_
                refine lv_aload_n hx hb dX0_become_116 rfl (lv_at hl 2 rfl) ?_
                refine va_get (ci := 0) (v := .int ((va_up (va_up (va_up (va_up (va_up (va_up E 0 p0) 1 10201) 2 p1) 3 p2) 4 p3) 5 101) 5)) (C := RX0) (T := TX0) (N := 8) hx hb hts (by decide +kernel) hown hK hP 40 cc_ext rfl 5 (by decide) (hts (.fieldLink RX0 27 "NumberFieldFactors$Extension" "t" "I") (by decide +kernel)) (fun _ h9 => h9) rfl dX0_become_117 ?_
                refine lv_bipush (v := 101) hx hb dX0_become_120 (by decide) ?_
                obtain ⟨u235, g236, hf⟩ := Option.bind_eq_some_iff.mp hf
                try dsimp only at hf
                refine ct_call (va_runV (As := [.int ((va_up (va_up (va_up (va_up (va_up (va_up E 0 p0) 1 10201) 2 p1) 3 p2) 4 p3) 5 101) 5), .int 101]) (rest := [.ref (ad 40)]) ⟨hx, hb, hml, hown, hts⟩ (C_X0_power l D tys nw hn hnw hj htI htR (res := u235) g236) (cwV 2 hts gX0_become_X0_power rfl rfl rfl (by decide +kernel) ⟨Nat.le_of_ble_eq_true rfl, Nat.le_of_ble_eq_true rfl⟩) (ct_preV hn hP hK hN (ci := 0) (k := 40) rfl (by decide) rfl) rfl rfl hl.1 rfl (lv_room (Nat.le_of_ble_eq_true rfl)) dX0_become_122 ⟨Nat.zero_le _, Nat.zero_le _⟩) hS (fun H locs hP hS => ?_)
                refine va_put (ci := 0) (v := .int u235) (ty := .int) (C := RX0) (T := TX0) (N := 8) hx hb hts (by decide +kernel) tyX0 tyX0_ok nmX0 hown hK hP (ww_D hj) hS 40 cc_ext rfl 6 (by decide) (hts (.fieldLink RX0 30 "NumberFieldFactors$Extension" "mateOfT" "I") (by decide +kernel)) (fun _ h9 => h9) rfl (by decide +kernel) rfl rfl (Nat.le_of_ble_eq_true rfl) dX0_become_125 (fun H locs hP hD hS => ?_)
                have hP := cs_E6 hP
                refine lv_aload_n hx hb dX0_become_128 rfl (lv_at hl 2 rfl) ?_
                refine lv_aload_n hx hb dX0_become_129 rfl (lv_at hl 2 rfl) ?_
                refine lv_aload_n hx hb dX0_become_130 rfl (lv_at hl 2 rfl) ?_
                refine va_get (ci := 0) (v := .int ((va_up (va_up (va_up (va_up (va_up (va_up (va_up E 0 p0) 1 10201) 2 p1) 3 p2) 4 p3) 5 101) 6 u235) 6)) (C := RX0) (T := TX0) (N := 8) hx hb hts (by decide +kernel) hown hK hP 40 cc_ext rfl 6 (by decide) (hts (.fieldLink RX0 30 "NumberFieldFactors$Extension" "mateOfT" "I") (by decide +kernel)) (fun _ h9 => h9) rfl dX0_become_131 ?_
                refine lv_aload_n hx hb dX0_become_134 rfl (lv_at hl 2 rfl) ?_
                refine va_get (ci := 0) (v := .int ((va_up (va_up (va_up (va_up (va_up (va_up (va_up E 0 p0) 1 10201) 2 p1) 3 p2) 4 p3) 5 101) 6 u235) 6)) (C := RX0) (T := TX0) (N := 8) hx hb hts (by decide +kernel) hown hK hP 40 cc_ext rfl 6 (by decide) (hts (.fieldLink RX0 30 "NumberFieldFactors$Extension" "mateOfT" "I") (by decide +kernel)) (fun _ h9 => h9) rfl dX0_become_135 ?_
                obtain ⟨u237, g238, hf⟩ := Option.bind_eq_some_iff.mp hf
                try dsimp only at hf
                refine ct_call (va_runV (As := [.int ((va_up (va_up (va_up (va_up (va_up (va_up (va_up E 0 p0) 1 10201) 2 p1) 3 p2) 4 p3) 5 101) 6 u235) 6), .int ((va_up (va_up (va_up (va_up (va_up (va_up (va_up E 0 p0) 1 10201) 2 p1) 3 p2) 4 p3) 5 101) 6 u235) 6)]) (rest := [.ref (ad 40)]) ⟨hx, hb, hml, hown, hts⟩ (C_X0_times l D tys nw hn hnw hj htI htR (res := u237) g238) (cwV 2 hts gX0_become_X0_times rfl rfl rfl (by decide +kernel) ⟨Nat.le_of_ble_eq_true rfl, Nat.le_of_ble_eq_true rfl⟩) (ct_preV hn hP hK hN (ci := 0) (k := 40) rfl (by decide) rfl) rfl rfl hl.1 rfl (lv_room (Nat.le_of_ble_eq_true rfl)) dX0_become_138 ⟨Nat.zero_le _, Nat.zero_le _⟩) hS (fun H locs hP hS => ?_)
                refine va_put (ci := 0) (v := .int u237) (ty := .int) (C := RX0) (T := TX0) (N := 8) hx hb hts (by decide +kernel) tyX0 tyX0_ok nmX0 hown hK hP (ww_D hj) hS 40 cc_ext rfl 7 (by decide) (hts (.fieldLink RX0 33 "NumberFieldFactors$Extension" "mateOfTSquared" "I") (by decide +kernel)) (fun _ h9 => h9) rfl (by decide +kernel) rfl rfl (Nat.le_of_ble_eq_true rfl) dX0_become_141 (fun H locs hP hD hS => ?_)
                have hP := cs_E7 hP
                refine lv_iconst (v := 1) hx hb dX0_become_144 (by decide) ?_
                obtain rfl := Option.some.inj hf
                exact W.zret (v := 1) (ty := .boolean) hx hb hr (by decide) (fun t ht hW => ⟨rfl, by rw [ht]; exact hP, hS.F ht⟩) hS.2.2 dX0_become_145
              · rw [if_pos c234] at hf
                refine lv_bipush (v := 101) hx hb dX0_become_99 (by decide) ?_
                refine lv_iload_n hx hb dX0_become_101 rfl (lv_at hl 4 rfl) ?_
                refine lv_isub hx hb dX0_become_102 ?_
                refine lv_bipush (v := 101) hx hb dX0_become_103 (by decide) ?_
                refine jv_irem hx hb dX0_become_105 (by decide) ?_
                refine lv_goto (tgt := 111) hx hb dX0_become_106 (by decide) ?_
                refine va_put (ci := 0) (v := .int (jrem (101 - p1) 101)) (ty := .int) (C := RX0) (T := TX0) (N := 8) hx hb hts (by decide +kernel) tyX0 tyX0_ok nmX0 hown hK hP (ww_D hj) hS 40 cc_ext rfl 5 (by decide) (hts (.fieldLink RX0 27 "NumberFieldFactors$Extension" "t" "I") (by decide +kernel)) (fun _ h9 => h9) rfl (by decide +kernel) rfl rfl (Nat.le_of_ble_eq_true rfl) dX0_become_111 (fun H locs hP hD hS => ?_)
                have hP := cs_E5 hP
                refine lv_aload_n hx hb dX0_become_114 rfl (lv_at hl 2 rfl) ?_
                refine lv_aload_n hx hb dX0_become_115 rfl (lv_at hl 2 rfl) ?_
                refine lv_aload_n hx hb dX0_become_116 rfl (lv_at hl 2 rfl) ?_
                refine va_get (ci := 0) (v := .int ((va_up (va_up (va_up (va_up (va_up (va_up E 0 p0) 1 10201) 2 p1) 3 p2) 4 p3) 5 (jrem (101 - p1) 101)) 5)) (C := RX0) (T := TX0) (N := 8) hx hb hts (by decide +kernel) hown hK hP 40 cc_ext rfl 5 (by decide) (hts (.fieldLink RX0 27 "NumberFieldFactors$Extension" "t" "I") (by decide +kernel)) (fun _ h9 => h9) rfl dX0_become_117 ?_
                refine lv_bipush (v := 101) hx hb dX0_become_120 (by decide) ?_
                obtain ⟨u239, g240, hf⟩ := Option.bind_eq_some_iff.mp hf
                try dsimp only at hf
                refine ct_call (va_runV (As := [.int ((va_up (va_up (va_up (va_up (va_up (va_up E 0 p0) 1 10201) 2 p1) 3 p2) 4 p3) 5 (jrem (101 - p1) 101)) 5), .int 101]) (rest := [.ref (ad 40)]) ⟨hx, hb, hml, hown, hts⟩ (C_X0_power l D tys nw hn hnw hj htI htR (res := u239) g240) (cwV 2 hts gX0_become_X0_power rfl rfl rfl (by decide +kernel) ⟨Nat.le_of_ble_eq_true rfl, Nat.le_of_ble_eq_true rfl⟩) (ct_preV hn hP hK hN (ci := 0) (k := 40) rfl (by decide) rfl) rfl rfl hl.1 rfl (lv_room (Nat.le_of_ble_eq_true rfl)) dX0_become_122 ⟨Nat.zero_le _, Nat.zero_le _⟩) hS (fun H locs hP hS => ?_)
                refine va_put (ci := 0) (v := .int u239) (ty := .int) (C := RX0) (T := TX0) (N := 8) hx hb hts (by decide +kernel) tyX0 tyX0_ok nmX0 hown hK hP (ww_D hj) hS 40 cc_ext rfl 6 (by decide) (hts (.fieldLink RX0 30 "NumberFieldFactors$Extension" "mateOfT" "I") (by decide +kernel)) (fun _ h9 => h9) rfl (by decide +kernel) rfl rfl (Nat.le_of_ble_eq_true rfl) dX0_become_125 (fun H locs hP hD hS => ?_)
                have hP := cs_E6 hP
                refine lv_aload_n hx hb dX0_become_128 rfl (lv_at hl 2 rfl) ?_
                refine lv_aload_n hx hb dX0_become_129 rfl (lv_at hl 2 rfl) ?_
                refine lv_aload_n hx hb dX0_become_130 rfl (lv_at hl 2 rfl) ?_
                refine va_get (ci := 0) (v := .int ((va_up (va_up (va_up (va_up (va_up (va_up (va_up E 0 p0) 1 10201) 2 p1) 3 p2) 4 p3) 5 (jrem (101 - p1) 101)) 6 u239) 6)) (C := RX0) (T := TX0) (N := 8) hx hb hts (by decide +kernel) hown hK hP 40 cc_ext rfl 6 (by decide) (hts (.fieldLink RX0 30 "NumberFieldFactors$Extension" "mateOfT" "I") (by decide +kernel)) (fun _ h9 => h9) rfl dX0_become_131 ?_
                refine lv_aload_n hx hb dX0_become_134 rfl (lv_at hl 2 rfl) ?_
                refine va_get (ci := 0) (v := .int ((va_up (va_up (va_up (va_up (va_up (va_up (va_up E 0 p0) 1 10201) 2 p1) 3 p2) 4 p3) 5 (jrem (101 - p1) 101)) 6 u239) 6)) (C := RX0) (T := TX0) (N := 8) hx hb hts (by decide +kernel) hown hK hP 40 cc_ext rfl 6 (by decide) (hts (.fieldLink RX0 30 "NumberFieldFactors$Extension" "mateOfT" "I") (by decide +kernel)) (fun _ h9 => h9) rfl dX0_become_135 ?_
                obtain ⟨u241, g242, hf⟩ := Option.bind_eq_some_iff.mp hf
                try dsimp only at hf
                refine ct_call (va_runV (As := [.int ((va_up (va_up (va_up (va_up (va_up (va_up (va_up E 0 p0) 1 10201) 2 p1) 3 p2) 4 p3) 5 (jrem (101 - p1) 101)) 6 u239) 6), .int ((va_up (va_up (va_up (va_up (va_up (va_up (va_up E 0 p0) 1 10201) 2 p1) 3 p2) 4 p3) 5 (jrem (101 - p1) 101)) 6 u239) 6)]) (rest := [.ref (ad 40)]) ⟨hx, hb, hml, hown, hts⟩ (C_X0_times l D tys nw hn hnw hj htI htR (res := u241) g242) (cwV 2 hts gX0_become_X0_times rfl rfl rfl (by decide +kernel) ⟨Nat.le_of_ble_eq_true rfl, Nat.le_of_ble_eq_true rfl⟩) (ct_preV hn hP hK hN (ci := 0) (k := 40) rfl (by decide) rfl) rfl rfl hl.1 rfl (lv_room (Nat.le_of_ble_eq_true rfl)) dX0_become_138 ⟨Nat.zero_le _, Nat.zero_le _⟩) hS (fun H locs hP hS => ?_)
                refine va_put (ci := 0) (v := .int u241) (ty := .int) (C := RX0) (T := TX0) (N := 8) hx hb hts (by decide +kernel) tyX0 tyX0_ok nmX0 hown hK hP (ww_D hj) hS 40 cc_ext rfl 7 (by decide) (hts (.fieldLink RX0 33 "NumberFieldFactors$Extension" "mateOfTSquared" "I") (by decide +kernel)) (fun _ h9 => h9) rfl (by decide +kernel) rfl rfl (Nat.le_of_ble_eq_true rfl) dX0_become_141 (fun H locs hP hD hS => ?_)
                have hP := cs_E7 hP
                refine lv_iconst (v := 1) hx hb dX0_become_144 (by decide) ?_
                obtain rfl := Option.some.inj hf
                exact W.zret (v := 1) (ty := .boolean) hx hb hr (by decide) (fun t ht hW => ⟨rfl, by rw [ht]; exact hP, hS.F ht⟩) hS.2.2 dX0_become_145
          · rw [if_pos c223] at hf
            refine lv_bipush (v := 101) hx hb dX0_become_55 (by decide) ?_
            refine lv_goto (tgt := 73) hx hb dX0_become_57 (by decide) ?_
            refine va_put (ci := 0) (v := .int 101) (ty := .int) (C := RX0) (T := TX0) (N := 8) hx hb hts (by decide +kernel) tyX0 tyX0_ok nmX0 hown hK hP (ww_D hj) hS 40 cc_ext rfl 1 (by decide) (hts (.fieldLink RX0 15 "NumberFieldFactors$Extension" "size" "I") (by decide +kernel)) (fun _ h9 => h9) rfl (by decide +kernel) rfl rfl (Nat.le_of_ble_eq_true rfl) dX0_become_73 (fun H locs hP hD hS => ?_)
            have hP := cs_E1 hP
            refine lv_aload_n hx hb dX0_become_76 rfl (lv_at hl 2 rfl) ?_
            refine lv_iload_n hx hb dX0_become_77 rfl (lv_at hl 4 rfl) ?_
            refine va_put (ci := 0) (v := .int p1) (ty := .int) (C := RX0) (T := TX0) (N := 8) hx hb hts (by decide +kernel) tyX0 tyX0_ok nmX0 hown hK hP (ww_D hj) hS 40 cc_ext rfl 2 (by decide) (hts (.fieldLink RX0 18 "NumberFieldFactors$Extension" "low0" "I") (by decide +kernel)) (fun _ h9 => h9) rfl (by decide +kernel) rfl rfl (Nat.le_of_ble_eq_true rfl) dX0_become_78 (fun H locs hP hD hS => ?_)
            have hP := cs_E2 hP
            refine lv_aload_n hx hb dX0_become_81 rfl (lv_at hl 2 rfl) ?_
            refine lv_iload hx hb dX0_become_82 (lv_at hl 1 rfl) ?_
            refine va_put (ci := 0) (v := .int p2) (ty := .int) (C := RX0) (T := TX0) (N := 8) hx hb hts (by decide +kernel) tyX0 tyX0_ok nmX0 hown hK hP (ww_D hj) hS 40 cc_ext rfl 3 (by decide) (hts (.fieldLink RX0 21 "NumberFieldFactors$Extension" "low1" "I") (by decide +kernel)) (fun _ h9 => h9) rfl (by decide +kernel) rfl rfl (Nat.le_of_ble_eq_true rfl) dX0_become_84 (fun H locs hP hD hS => ?_)
            have hP := cs_E3 hP
            refine lv_aload_n hx hb dX0_become_87 rfl (lv_at hl 2 rfl) ?_
            refine lv_iload hx hb dX0_become_88 (lv_at hl 0 rfl) ?_
            refine va_put (ci := 0) (v := .int p3) (ty := .int) (C := RX0) (T := TX0) (N := 8) hx hb hts (by decide +kernel) tyX0 tyX0_ok nmX0 hown hK hP (ww_D hj) hS 40 cc_ext rfl 4 (by decide) (hts (.fieldLink RX0 24 "NumberFieldFactors$Extension" "low2" "I") (by decide +kernel)) (fun _ h9 => h9) rfl (by decide +kernel) rfl rfl (Nat.le_of_ble_eq_true rfl) dX0_become_90 (fun H locs hP hD hS => ?_)
            have hP := cs_E4 hP
            refine lv_aload_n hx hb dX0_become_93 rfl (lv_at hl 2 rfl) ?_
            refine lv_iload_n hx hb dX0_become_94 rfl (lv_at hl 3 rfl) ?_
            refine lv_iconst (v := 1) hx hb dX0_become_95 (by decide) ?_
            refine lv_icmp_ne (tgt := 109) hx hb dX0_become_96 (by decide) (fun c243 => ?_) (fun c243 => ?_)
            · rw [if_neg c243] at hf
              refine lv_bipush (v := 101) hx hb dX0_become_109 (by decide) ?_
              refine va_put (ci := 0) (v := .int 101) (ty := .int) (C := RX0) (T := TX0) (N := 8) hx hb hts (by decide +kernel) tyX0 tyX0_ok nmX0 hown hK hP (ww_D hj) hS 40 cc_ext rfl 5 (by decide) (hts (.fieldLink RX0 27 "NumberFieldFactors$Extension" "t" "I") (by decide +kernel)) (fun _ h9 => h9) rfl (by decide +kernel) rfl rfl (Nat.le_of_ble_eq_true rfl) dX0_become_111 (fun H locs hP hD hS => ?_)
              have hP := cs_E5 hP
              refine lv_aload_n hx hb dX0_become_114 rfl (lv_at hl 2 rfl) ?_
              refine lv_aload_n hx hb dX0_become_115 rfl (lv_at hl 2 rfl) ?_
              refine lv_aload_n hx hb dX0_become_116 rfl (lv_at hl 2 rfl) ?_
              refine va_get (ci := 0) (v := .int ((va_up (va_up (va_up (va_up (va_up (va_up E 0 p0) 1 101) 2 p1) 3 p2) 4 p3) 5 101) 5)) (C := RX0) (T := TX0) (N := 8) hx hb hts (by decide +kernel) hown hK hP 40 cc_ext rfl 5 (by decide) (hts (.fieldLink RX0 27 "NumberFieldFactors$Extension" "t" "I") (by decide +kernel)) (fun _ h9 => h9) rfl dX0_become_117 ?_
              refine lv_bipush (v := 101) hx hb dX0_become_120 (by decide) ?_
              obtain ⟨u244, g245, hf⟩ := Option.bind_eq_some_iff.mp hf
              try dsimp only at hf
              refine ct_call (va_runV (As := [.int ((va_up (va_up (va_up (va_up (va_up (va_up E 0 p0) 1 101) 2 p1) 3 p2) 4 p3) 5 101) 5), .int 101]) (rest := [.ref (ad 40)]) ⟨hx, hb, hml, hown, hts⟩ (C_X0_power l D tys nw hn hnw hj htI htR (res := u244) g245) (cwV 2 hts gX0_become_X0_power rfl rfl rfl (by decide +kernel) ⟨Nat.le_of_ble_eq_true rfl, Nat.le_of_ble_eq_true rfl⟩) (ct_preV hn hP hK hN (ci := 0) (k := 40) rfl (by decide) rfl) rfl rfl hl.1 rfl (lv_room (Nat.le_of_ble_eq_true rfl)) dX0_become_122 ⟨Nat.zero_le _, Nat.zero_le _⟩) hS (fun H locs hP hS => ?_)
              refine va_put (ci := 0) (v := .int u244) (ty := .int) (C := RX0) (T := TX0) (N := 8) hx hb hts (by decide +kernel) tyX0 tyX0_ok nmX0 hown hK hP (ww_D hj) hS 40 cc_ext rfl 6 (by decide) (hts (.fieldLink RX0 30 "NumberFieldFactors$Extension" "mateOfT" "I") (by decide +kernel)) (fun _ h9 => h9) rfl (by decide +kernel) rfl rfl (Nat.le_of_ble_eq_true rfl) dX0_become_125 (fun H locs hP hD hS => ?_)
              have hP := cs_E6 hP
              refine lv_aload_n hx hb dX0_become_128 rfl (lv_at hl 2 rfl) ?_
              refine lv_aload_n hx hb dX0_become_129 rfl (lv_at hl 2 rfl) ?_
              refine lv_aload_n hx hb dX0_become_130 rfl (lv_at hl 2 rfl) ?_
              refine va_get (ci := 0) (v := .int ((va_up (va_up (va_up (va_up (va_up (va_up (va_up E 0 p0) 1 101) 2 p1) 3 p2) 4 p3) 5 101) 6 u244) 6)) (C := RX0) (T := TX0) (N := 8) hx hb hts (by decide +kernel) hown hK hP 40 cc_ext rfl 6 (by decide) (hts (.fieldLink RX0 30 "NumberFieldFactors$Extension" "mateOfT" "I") (by decide +kernel)) (fun _ h9 => h9) rfl dX0_become_131 ?_
              refine lv_aload_n hx hb dX0_become_134 rfl (lv_at hl 2 rfl) ?_
              refine va_get (ci := 0) (v := .int ((va_up (va_up (va_up (va_up (va_up (va_up (va_up E 0 p0) 1 101) 2 p1) 3 p2) 4 p3) 5 101) 6 u244) 6)) (C := RX0) (T := TX0) (N := 8) hx hb hts (by decide +kernel) hown hK hP 40 cc_ext rfl 6 (by decide) (hts (.fieldLink RX0 30 "NumberFieldFactors$Extension" "mateOfT" "I") (by decide +kernel)) (fun _ h9 => h9) rfl dX0_become_135 ?_
              obtain ⟨u246, g247, hf⟩ := Option.bind_eq_some_iff.mp hf
              try dsimp only at hf
              refine ct_call (va_runV (As := [.int ((va_up (va_up (va_up (va_up (va_up (va_up (va_up E 0 p0) 1 101) 2 p1) 3 p2) 4 p3) 5 101) 6 u244) 6), .int ((va_up (va_up (va_up (va_up (va_up (va_up (va_up E 0 p0) 1 101) 2 p1) 3 p2) 4 p3) 5 101) 6 u244) 6)]) (rest := [.ref (ad 40)]) ⟨hx, hb, hml, hown, hts⟩ (C_X0_times l D tys nw hn hnw hj htI htR (res := u246) g247) (cwV 2 hts gX0_become_X0_times rfl rfl rfl (by decide +kernel) ⟨Nat.le_of_ble_eq_true rfl, Nat.le_of_ble_eq_true rfl⟩) (ct_preV hn hP hK hN (ci := 0) (k := 40) rfl (by decide) rfl) rfl rfl hl.1 rfl (lv_room (Nat.le_of_ble_eq_true rfl)) dX0_become_138 ⟨Nat.zero_le _, Nat.zero_le _⟩) hS (fun H locs hP hS => ?_)
              refine va_put (ci := 0) (v := .int u246) (ty := .int) (C := RX0) (T := TX0) (N := 8) hx hb hts (by decide +kernel) tyX0 tyX0_ok nmX0 hown hK hP (ww_D hj) hS 40 cc_ext rfl 7 (by decide) (hts (.fieldLink RX0 33 "NumberFieldFactors$Extension" "mateOfTSquared" "I") (by decide +kernel)) (fun _ h9 => h9) rfl (by decide +kernel) rfl rfl (Nat.le_of_ble_eq_true rfl) dX0_become_141 (fun H locs hP hD hS => ?_)
              have hP := cs_E7 hP
              refine lv_iconst (v := 1) hx hb dX0_become_144 (by decide) ?_
              obtain rfl := Option.some.inj hf
              exact W.zret (v := 1) (ty := .boolean) hx hb hr (by decide) (fun t ht hW => ⟨rfl, by rw [ht]; exact hP, hS.F ht⟩) hS.2.2 dX0_become_145
            · rw [if_pos c243] at hf
              refine lv_bipush (v := 101) hx hb dX0_become_99 (by decide) ?_
              refine lv_iload_n hx hb dX0_become_101 rfl (lv_at hl 4 rfl) ?_
              refine lv_isub hx hb dX0_become_102 ?_
              refine lv_bipush (v := 101) hx hb dX0_become_103 (by decide) ?_
              refine jv_irem hx hb dX0_become_105 (by decide) ?_
              refine lv_goto (tgt := 111) hx hb dX0_become_106 (by decide) ?_
              refine va_put (ci := 0) (v := .int (jrem (101 - p1) 101)) (ty := .int) (C := RX0) (T := TX0) (N := 8) hx hb hts (by decide +kernel) tyX0 tyX0_ok nmX0 hown hK hP (ww_D hj) hS 40 cc_ext rfl 5 (by decide) (hts (.fieldLink RX0 27 "NumberFieldFactors$Extension" "t" "I") (by decide +kernel)) (fun _ h9 => h9) rfl (by decide +kernel) rfl rfl (Nat.le_of_ble_eq_true rfl) dX0_become_111 (fun H locs hP hD hS => ?_)
              have hP := cs_E5 hP
              refine lv_aload_n hx hb dX0_become_114 rfl (lv_at hl 2 rfl) ?_
              refine lv_aload_n hx hb dX0_become_115 rfl (lv_at hl 2 rfl) ?_
              refine lv_aload_n hx hb dX0_become_116 rfl (lv_at hl 2 rfl) ?_
              refine va_get (ci := 0) (v := .int ((va_up (va_up (va_up (va_up (va_up (va_up E 0 p0) 1 101) 2 p1) 3 p2) 4 p3) 5 (jrem (101 - p1) 101)) 5)) (C := RX0) (T := TX0) (N := 8) hx hb hts (by decide +kernel) hown hK hP 40 cc_ext rfl 5 (by decide) (hts (.fieldLink RX0 27 "NumberFieldFactors$Extension" "t" "I") (by decide +kernel)) (fun _ h9 => h9) rfl dX0_become_117 ?_
              refine lv_bipush (v := 101) hx hb dX0_become_120 (by decide) ?_
              obtain ⟨u248, g249, hf⟩ := Option.bind_eq_some_iff.mp hf
              try dsimp only at hf
              refine ct_call (va_runV (As := [.int ((va_up (va_up (va_up (va_up (va_up (va_up E 0 p0) 1 101) 2 p1) 3 p2) 4 p3) 5 (jrem (101 - p1) 101)) 5), .int 101]) (rest := [.ref (ad 40)]) ⟨hx, hb, hml, hown, hts⟩ (C_X0_power l D tys nw hn hnw hj htI htR (res := u248) g249) (cwV 2 hts gX0_become_X0_power rfl rfl rfl (by decide +kernel) ⟨Nat.le_of_ble_eq_true rfl, Nat.le_of_ble_eq_true rfl⟩) (ct_preV hn hP hK hN (ci := 0) (k := 40) rfl (by decide) rfl) rfl rfl hl.1 rfl (lv_room (Nat.le_of_ble_eq_true rfl)) dX0_become_122 ⟨Nat.zero_le _, Nat.zero_le _⟩) hS (fun H locs hP hS => ?_)
              refine va_put (ci := 0) (v := .int u248) (ty := .int) (C := RX0) (T := TX0) (N := 8) hx hb hts (by decide +kernel) tyX0 tyX0_ok nmX0 hown hK hP (ww_D hj) hS 40 cc_ext rfl 6 (by decide) (hts (.fieldLink RX0 30 "NumberFieldFactors$Extension" "mateOfT" "I") (by decide +kernel)) (fun _ h9 => h9) rfl (by decide +kernel) rfl rfl (Nat.le_of_ble_eq_true rfl) dX0_become_125 (fun H locs hP hD hS => ?_)
              have hP := cs_E6 hP
              refine lv_aload_n hx hb dX0_become_128 rfl (lv_at hl 2 rfl) ?_
              refine lv_aload_n hx hb dX0_become_129 rfl (lv_at hl 2 rfl) ?_
              refine lv_aload_n hx hb dX0_become_130 rfl (lv_at hl 2 rfl) ?_
              refine va_get (ci := 0) (v := .int ((va_up (va_up (va_up (va_up (va_up (va_up (va_up E 0 p0) 1 101) 2 p1) 3 p2) 4 p3) 5 (jrem (101 - p1) 101)) 6 u248) 6)) (C := RX0) (T := TX0) (N := 8) hx hb hts (by decide +kernel) hown hK hP 40 cc_ext rfl 6 (by decide) (hts (.fieldLink RX0 30 "NumberFieldFactors$Extension" "mateOfT" "I") (by decide +kernel)) (fun _ h9 => h9) rfl dX0_become_131 ?_
              refine lv_aload_n hx hb dX0_become_134 rfl (lv_at hl 2 rfl) ?_
              refine va_get (ci := 0) (v := .int ((va_up (va_up (va_up (va_up (va_up (va_up (va_up E 0 p0) 1 101) 2 p1) 3 p2) 4 p3) 5 (jrem (101 - p1) 101)) 6 u248) 6)) (C := RX0) (T := TX0) (N := 8) hx hb hts (by decide +kernel) hown hK hP 40 cc_ext rfl 6 (by decide) (hts (.fieldLink RX0 30 "NumberFieldFactors$Extension" "mateOfT" "I") (by decide +kernel)) (fun _ h9 => h9) rfl dX0_become_135 ?_
              obtain ⟨u250, g251, hf⟩ := Option.bind_eq_some_iff.mp hf
              try dsimp only at hf
              refine ct_call (va_runV (As := [.int ((va_up (va_up (va_up (va_up (va_up (va_up (va_up E 0 p0) 1 101) 2 p1) 3 p2) 4 p3) 5 (jrem (101 - p1) 101)) 6 u248) 6), .int ((va_up (va_up (va_up (va_up (va_up (va_up (va_up E 0 p0) 1 101) 2 p1) 3 p2) 4 p3) 5 (jrem (101 - p1) 101)) 6 u248) 6)]) (rest := [.ref (ad 40)]) ⟨hx, hb, hml, hown, hts⟩ (C_X0_times l D tys nw hn hnw hj htI htR (res := u250) g251) (cwV 2 hts gX0_become_X0_times rfl rfl rfl (by decide +kernel) ⟨Nat.le_of_ble_eq_true rfl, Nat.le_of_ble_eq_true rfl⟩) (ct_preV hn hP hK hN (ci := 0) (k := 40) rfl (by decide) rfl) rfl rfl hl.1 rfl (lv_room (Nat.le_of_ble_eq_true rfl)) dX0_become_138 ⟨Nat.zero_le _, Nat.zero_le _⟩) hS (fun H locs hP hS => ?_)
              refine va_put (ci := 0) (v := .int u250) (ty := .int) (C := RX0) (T := TX0) (N := 8) hx hb hts (by decide +kernel) tyX0 tyX0_ok nmX0 hown hK hP (ww_D hj) hS 40 cc_ext rfl 7 (by decide) (hts (.fieldLink RX0 33 "NumberFieldFactors$Extension" "mateOfTSquared" "I") (by decide +kernel)) (fun _ h9 => h9) rfl (by decide +kernel) rfl rfl (Nat.le_of_ble_eq_true rfl) dX0_become_141 (fun H locs hP hD hS => ?_)
              have hP := cs_E7 hP
              refine lv_iconst (v := 1) hx hb dX0_become_144 (by decide) ?_
              obtain rfl := Option.some.inj hf
              exact W.zret (v := 1) (ty := .boolean) hx hb hr (by decide) (fun t ht hW => ⟨rfl, by rw [ht]; exact hP, hS.F ht⟩) hS.2.2 dX0_become_145
        · rw [if_neg c222] at hf
          refine lv_iconst (v := 0) hx hb dX0_become_42 (by decide) ?_
          obtain rfl := Option.some.inj hf
          exact W.zret (v := 0) (ty := .boolean) hx hb hr (by decide) (fun t ht hW => ⟨rfl, by rw [ht]; exact hP, hS.F ht⟩) hS.2.2 dX0_become_43
