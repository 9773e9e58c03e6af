def f_X3_forget (N : Nat → Int32) : Option ((Nat → Int32)) :=
  some (va_up N 1 0)
set_option maxHeartbeats 4000000 in
set_option maxRecDepth 100000 in
theorem C_X3_forget (l : Launch) (D : va_G) (tys : List (ClassId × FieldType)) (nw : List Cond) (hn : nw.all nw_kind = true) (hnw : ∀ w ∈ nw0, w ∈ nw) {ad : Nat → Nat} (hj : ww_inj 46 ad) {cI : ClassId} {cR : ClassId} (htI : tys[0]? = some (cI, .int)) (htR : tys[1]? = some (cR, .object RX2)) {M : Fin 20 → Nat → Int32} {E : Nat → Int32} {P : Nat → Fin 20} {C : Nat → Int32} {N : Nat → Int32} {res : (Nat → Int32)} (hf : f_X3_forget N = some res) :
    Met l yX3_forget usX3_forget ({ frames := 0, cells := 0, slots := 0, locals := 0 }) (va_Pc [.ref (ad 42)] (ws_B D tys nw (ww 46 ad (cellC cI cR ad M E P C N)))) (ct_Q D (ww 46 ad (cellC cI cR ad M E P C res)) (ww_A 46 ad) (none)) 0 0 (ww_A 46 ad) := by
  refine Met.ofW (cc := cX3_forget) (maxL := 1) (ret := none) (by decide) rfl ?_
  intro p e s m args below meth c s₁ B hml hv
  obtain ⟨rfl, hP, hK, hN⟩ := hv
  have hx := B.exec
  have hb := B.bytes
  have hr := B.returns
  have hts := atoms_spec (ws := usX3_forget) B.pre
  have hown : s.vm.findClass RX3 = some m.cls := findClass_of_methodNamed B.named
  have hlocks := B.notSynchronized
  have hS : va_S (ww_A 46 ad) s.heap s.heap [] := va_S.rf
  have hl := lv_entry ([.ref (ad 42)]) (n := 1) (Nat.le_of_ble_eq_true rfl)
  rw [lg_entry_eq]
  generalize (lg_sl ([.ref (ad 42)]) ++ List.replicate (1 - (lg_sl ([.ref (ad 42)])).length) Slot.unset).toArray = ls at hl ⊢
  have hl : lv_has ls 1 [(0, .ref (ad 42))] := hl
  unfold f_X3_forget at hf
  refine lv_aload_n hx hb dX3_forget_0 rfl (lv_at hl 0 rfl) ?_
  refine lv_iconst (v := 0) hx hb dX3_forget_1 (by decide) ?_
  refine va_put (ci := 3) (v := .int 0) (ty := .boolean) (C := RX3) (T := TX3) (N := 8) hx hb hts (fun w h => BW_in (in_wsX30 w h)) tyX3 tyX3_ok nmX3 hown hK hP (ww_D hj) hS 42 cc_spl rfl 3 (by decide) (hts (.fieldLink RX3 25 "NumberFieldFactors$Splitter" "found" "Z") (BW_in mw_146)) (fun _ h9 => h9) rfl (by decide +kernel) (by decide) rfl (Nat.le_of_ble_eq_true rfl) dX3_forget_2 (fun H locs hP hD hS => ?_)
  have hP := cs_N1 hP
  obtain rfl := Option.some.inj hf
  exact W.vret hx hb hr (fun t ht hW => ⟨rfl, by rw [ht]; exact hP, hS.F ht⟩) hS.2.2 dX3_forget_5
def f_X3_part (P : Nat → Fin 20) (p0 : Int32) : Option (Fin 20) :=
  if p0 < 0 then
    some (11 : Fin 20)
  else
    if 5 ≤ p0 then
      some (11 : Fin 20)
    else
      if p0 < 0 ∨ 5 ≤ (p0).toNatClampNeg then none else
      some (P (p0).toNatClampNeg)
set_option maxHeartbeats 4000000 in
set_option maxRecDepth 100000 in
theorem C_X3_part (l : Launch) (D : va_G) (tys : List (ClassId × FieldType)) (nw : List Cond) (hn : nw.all nw_kind = true) (hnw : ∀ w ∈ nw0, w ∈ nw) {ad : Nat → Nat} (hj : ww_inj 46 ad) {cI : ClassId} {cR : ClassId} (htI : tys[0]? = some (cI, .int)) (htR : tys[1]? = some (cR, .object RX2)) {M : Fin 20 → Nat → Int32} {E : Nat → Int32} {P : Nat → Fin 20} {C : Nat → Int32} {N : Nat → Int32} {p0 : Int32} {res : Fin 20} (hf : f_X3_part P p0 = some res) :
    Met l yX3_part usX3_part ({ frames := 0, cells := 0, slots := 0, locals := 0 }) (va_Pc [.ref (ad 42), .int p0] (ws_B D tys nw (ww 46 ad (cellC cI cR ad M E P C N)))) (ct_Q D (ww 46 ad (cellC cI cR ad M E P C N)) (ww_A 46 ad) (some (.ref (ra ad res)))) 0 0 (ww_A 46 ad) := by
  refine Met.ofW (cc := cX3_part) (maxL := 2) (ret := (some (.object "NumberFieldFactors$Row"))) (by decide) rfl ?_
  intro p e s m args below meth c s₁ B hml hv
  obtain ⟨rfl, hP, hK, hN⟩ := hv
  have hx := B.exec
  have hb := B.bytes
  have hr := B.returns
  have hts := atoms_spec (ws := usX3_part) B.pre
  have hown : s.vm.findClass RX3 = some m.cls := findClass_of_methodNamed B.named
  have hlocks := B.notSynchronized
  have hS : va_S (ww_A 46 ad) s.heap s.heap [] := va_S.rf
  have hl := lv_entry ([.ref (ad 42), .int p0]) (n := 2) (Nat.le_of_ble_eq_true rfl)
  rw [lg_entry_eq]
  generalize (lg_sl ([.ref (ad 42), .int p0]) ++ List.replicate (2 - (lg_sl ([.ref (ad 42), .int p0])).length) Slot.unset).toArray = ls at hl ⊢
  have hl : lv_has ls 2 [(0, .ref (ad 42)), (1, .int p0)] := hl
  unfold f_X3_part at hf
  refine lv_iload_n hx hb dX3_part_0 rfl (lv_at hl 1 rfl) ?_
  refine lv_if_lt (tgt := 22) hx hb dX3_part_1 (by decide) (fun c1 => ?_) (fun c1 => ?_)
  · rw [if_pos c1] at hf
    refine lv_aload_n hx hb dX3_part_22 rfl (lv_at hl 0 rfl) ?_
    refine va_get (ci := 3) (v := .ref (ra ad (11 : Fin 20))) (C := RX3) (T := TX3) (N := 8) hx hb hts (fun w h => BW_in (in_wsX30 w h)) hown hK hP 42 cc_spl rfl 4 (by decide) (hts (.fieldLink RX3 30 "NumberFieldFactors$Splitter" "root" "LNumberFieldFactors$Row;") (BW_in mw_147)) (fun _ h9 => h9) rfl dX3_part_23 ?_
    obtain rfl := Option.some.inj hf
    exact W.aret (v := .ref (ra ad (11 : Fin 20))) hx hb hr (Or.inl ⟨_, rfl⟩) (Or.inr ⟨_, rfl⟩) (fun t ht hW => ⟨rfl, by rw [ht]; exact hP, hS.F ht⟩) hS.2.2 dX3_part_26
  · rw [if_neg c1] at hf
    refine lv_iload_n hx hb dX3_part_4 rfl (lv_at hl 1 rfl) ?_
    refine lv_aload_n hx hb dX3_part_5 rfl (lv_at hl 0 rfl) ?_
    refine va_get (ci := 3) (v := .ref (ad 43)) (C := RX3) (T := TX3) (N := 8) hx hb hts (fun w h => BW_in (in_wsX30 w h)) hown hK hP 42 cc_spl rfl 0 (by decide) (hts (.fieldLink RX3 11 "NumberFieldFactors$Splitter" "parts" "[LNumberFieldFactors$Row;") (BW_in mw_143)) (fun _ h9 => h9) rfl dX3_part_6 ?_
    refine va_alen (v := 5) hx hb hK hP 43 1 cc_parts htR rfl dX3_part_9 ?_
    refine lv_icmp_ge (tgt := 22) hx hb dX3_part_10 (by decide) (fun c2 => ?_) (fun c2 => ?_)
    · rw [if_pos c2] at hf
      refine lv_aload_n hx hb dX3_part_22 rfl (lv_at hl 0 rfl) ?_
      refine va_get (ci := 3) (v := .ref (ra ad (11 : Fin 20))) (C := RX3) (T := TX3) (N := 8) hx hb hts (fun w h => BW_in (in_wsX30 w h)) hown hK hP 42 cc_spl rfl 4 (by decide) (hts (.fieldLink RX3 30 "NumberFieldFactors$Splitter" "root" "LNumberFieldFactors$Row;") (BW_in mw_147)) (fun _ h9 => h9) rfl dX3_part_23 ?_
      obtain rfl := Option.some.inj hf
      exact W.aret (v := .ref (ra ad (11 : Fin 20))) hx hb hr (Or.inl ⟨_, rfl⟩) (Or.inr ⟨_, rfl⟩) (fun t ht hW => ⟨rfl, by rw [ht]; exact hP, hS.F ht⟩) hS.2.2 dX3_part_26
    · rw [if_neg c2] at hf
      refine lv_aload_n hx hb dX3_part_13 rfl (lv_at hl 0 rfl) ?_
      refine va_get (ci := 3) (v := .ref (ad 43)) (C := RX3) (T := TX3) (N := 8) hx hb hts (fun w h => BW_in (in_wsX30 w h)) hown hK hP 42 cc_spl rfl 0 (by decide) (hts (.fieldLink RX3 11 "NumberFieldFactors$Splitter" "parts" "[LNumberFieldFactors$Row;") (BW_in mw_143)) (fun _ h9 => h9) rfl dX3_part_14 ?_
      refine lv_iload_n hx hb dX3_part_17 rfl (lv_at hl 1 rfl) ?_
      by_cases b3 : p0 < 0 ∨ 5 ≤ (p0).toNatClampNeg
      · rw [if_pos b3] at hf; cases hf
      rw [if_neg b3] at hf
      refine va_aldq hx hb hK hP 43 1 cc_parts htR b3 dX3_part_18 ?_
      refine lv_goto (tgt := 26) hx hb dX3_part_19 (by decide) ?_
      obtain rfl := Option.some.inj hf
      exact W.aret (v := .ref (ra ad (P (p0).toNatClampNeg))) hx hb hr (Or.inl ⟨_, rfl⟩) (Or.inr ⟨_, rfl⟩) (fun t ht hW => ⟨rfl, by rw [ht]; exact hP, hS.F ht⟩) hS.2.2 dX3_part_26
def f_X3_timesOf (C : Nat → Int32) (p0 : Int32) : Option (Int32) :=
  if p0 < 0 then
    some 0
  else
    if 5 ≤ p0 then
      some 0
    else
      if p0 < 0 ∨ 5 ≤ (p0).toNatClampNeg then none else
      some (C (p0).toNatClampNeg)
set_option maxHeartbeats 4000000 in
set_option maxRecDepth 100000 in
theorem C_X3_timesOf (l : Launch) (D : va_G) (tys : List (ClassId × FieldType)) (nw : List Cond) (hn : nw.all nw_kind = true) (hnw : ∀ w ∈ nw0, w ∈ nw) {ad : Nat → Nat} (hj : ww_inj 46 ad) {cI : ClassId} {cR : ClassId} (htI : tys[0]? = some (cI, .int)) (htR : tys[1]? = some (cR, .object RX2)) {M : Fin 20 → Nat → Int32} {E : Nat → Int32} {P : Nat → Fin 20} {C : Nat → Int32} {N : Nat → Int32} {p0 : Int32} {res : Int32} (hf : f_X3_timesOf C p0 = some res) :
    Met l yX3_timesOf usX3_timesOf ({ frames := 0, cells := 0, slots := 0, locals := 0 }) (va_Pc [.ref (ad 42), .int p0] (ws_B D tys nw (ww 46 ad (cellC cI cR ad M E P C N)))) (ct_Q D (ww 46 ad (cellC cI cR ad M E P C N)) (ww_A 46 ad) (some (.int res))) 0 0 (ww_A 46 ad) := by
  refine Met.ofW (cc := cX3_timesOf) (maxL := 2) (ret := (some .int)) (by decide) rfl ?_
  intro p e s m args below meth c s₁ B hml hv
  obtain ⟨rfl, hP, hK, hN⟩ := hv
  have hx := B.exec
  have hb := B.bytes
  have hr := B.returns
  have hts := atoms_spec (ws := usX3_timesOf) B.pre
  have hown : s.vm.findClass RX3 = some m.cls := findClass_of_methodNamed B.named
  have hlocks := B.notSynchronized
  have hS : va_S (ww_A 46 ad) s.heap s.heap [] := va_S.rf
  have hl := lv_entry ([.ref (ad 42), .int p0]) (n := 2) (Nat.le_of_ble_eq_true rfl)
  rw [lg_entry_eq]
  generalize (lg_sl ([.ref (ad 42), .int p0]) ++ List.replicate (2 - (lg_sl ([.ref (ad 42), .int p0])).length) Slot.unset).toArray = ls at hl ⊢
  have hl : lv_has ls 2 [(0, .ref (ad 42)), (1, .int p0)] := hl
  unfold f_X3_timesOf at hf
  refine lv_iload_n hx hb dX3_timesOf_0 rfl (lv_at hl 1 rfl) ?_
  refine lv_if_lt (tgt := 22) hx hb dX3_timesOf_1 (by decide) (fun c1 => ?_) (fun c1 => ?_)
  · rw [if_pos c1] at hf
    refine lv_iconst (v := 0) hx hb dX3_timesOf_22 (by decide) ?_
    obtain rfl := Option.some.inj hf
    exact W.iret (v := 0) hx hb hr (fun t ht hW => ⟨rfl, by rw [ht]; exact hP, hS.F ht⟩) hS.2.2 dX3_timesOf_23
  · rw [if_neg c1] at hf
    refine lv_iload_n hx hb dX3_timesOf_4 rfl (lv_at hl 1 rfl) ?_
    refine lv_aload_n hx hb dX3_timesOf_5 rfl (lv_at hl 0 rfl) ?_
    refine va_get (ci := 3) (v := .ref (ad 44)) (C := RX3) (T := TX3) (N := 8) hx hb hts (fun w h => BW_in (in_wsX30 w h)) hown hK hP 42 cc_spl rfl 1 (by decide) (hts (.fieldLink RX3 17 "NumberFieldFactors$Splitter" "counts" "[I") (BW_in mw_144)) (fun _ h9 => h9) rfl dX3_timesOf_6 ?_
    refine va_alen (v := 5) hx hb hK hP 44 0 cc_counts htI rfl dX3_timesOf_9 ?_
    refine lv_icmp_ge (tgt := 22) hx hb dX3_timesOf_10 (by decide) (fun c2 => ?_) (fun c2 => ?_)
    · rw [if_pos c2] at hf
      refine lv_iconst (v := 0) hx hb dX3_timesOf_22 (by decide) ?_
      obtain rfl := Option.some.inj hf
      exact W.iret (v := 0) hx hb hr (fun t ht hW => ⟨rfl, by rw [ht]; exact hP, hS.F ht⟩) hS.2.2 dX3_timesOf_23
    · rw [if_neg c2] at hf
      refine lv_aload_n hx hb dX3_timesOf_13 rfl (lv_at hl 0 rfl) ?_
      refine va_get (ci := 3) (v := .ref (ad 44)) (C := RX3) (T := TX3) (N := 8) hx hb hts (fun w h => BW_in (in_wsX30 w h)) hown hK hP 42 cc_spl rfl 1 (by decide) (hts (.fieldLink RX3 17 "NumberFieldFactors$Splitter" "counts" "[I") (BW_in mw_144)) (fun _ h9 => h9) rfl dX3_timesOf_14 ?_
      refine lv_iload_n hx hb dX3_timesOf_17 rfl (lv_at hl 1 rfl) ?_
      by_cases b3 : p0 < 0 ∨ 5 ≤ (p0).toNatClampNeg
      · rw [if_pos b3] at hf; cases hf
      rw [if_neg b3] at hf
      refine va_iald hx hb hK hP 44 0 cc_counts htI b3 dX3_timesOf_18 ?_
      refine lv_goto (tgt := 23) hx hb dX3_timesOf_19 (by decide) ?_
      obtain rfl := Option.some.inj hf
      exact W.iret (v := C (p0).toNatClampNeg) hx hb hr (fun t ht hW => ⟨rfl, by rw [ht]; exact hP, hS.F ht⟩) hS.2.2 dX3_timesOf_23
def f_X3_commonDegree_l12 (k12 : Int32 → Int32 → Option (Int32)) (fu : Nat) (M : Fin 20 → Nat → Int32) (P : Nat → Fin 20) (N : Nat → Int32) (x1 : Int32) : Nat → Int32 → Int32 → Option (Int32)
  | 0, _, _ => none
  | n + 1, x2, x3 =>
    if (N 0) ≤ x3 then
      k12 x2 x3
    else
      (f_X3_part P x3).bind (fun u3 =>
      (f_X2_degree fu M u3).bind (fun u5 =>
      ((
        if x2 = 0 then
          some 0
        else
          ((
            if u5 ≤ 0 then
              some 0
            else
              if u5 = 0 then none else
              ((
                if (jrem x1 u5) = 0 then
                  some 1
                else
                  some 0 : Option (Int32))).bind (fun w12 =>
              some w12) : Option (Int32))).bind (fun w9 =>
          some w9) : Option (Int32))).bind (fun w7 =>
      f_X3_commonDegree_l12 k12 fu M P N x1 n w7 (x3 + 1))))
def f_X3_commonDegree_l2 (k2 : Int32 → Option (Int32)) (fu : Nat) (M : Fin 20 → Nat → Int32) (P : Nat → Fin 20) (N : Nat → Int32) : Nat → Int32 → Option (Int32)
  | 0, _ => none
  | n + 1, x1 =>
    if 60 < x1 then
      k2 x1
    else
      f_X3_commonDegree_l12 (fun y14 y15 =>
        if y14 = 0 then
          f_X3_commonDegree_l2 k2 fu M P N n (x1 + 1)
        else
          some x1) fu M P N x1 fu 1 0
def f_X3_commonDegree (fu : Nat) (M : Fin 20 → Nat → Int32) (P : Nat → Fin 20) (N : Nat → Int32) : Option (Int32) :=
  f_X3_commonDegree_l2 (fun y17 =>
    some 0) fu M P N fu 1
set_option maxHeartbeats 4000000 in
set_option maxRecDepth 100000 in
theorem C_X3_commonDegree (l : Launch) (D : va_G) (tys : List (ClassId × FieldType)) (nw : List Cond) (hn : nw.all nw_kind = true) (hnw : ∀ w ∈ nw0, w ∈ nw) {ad : Nat → Nat} (hj : ww_inj 46 ad) {cI : ClassId} {cR : ClassId} (htI : tys[0]? = some (cI, .int)) (htR : tys[1]? = some (cR, .object RX2)) {fu : Nat} {M : Fin 20 → Nat → Int32} {E : Nat → Int32} {P : Nat → Fin 20} {C : Nat → Int32} {N : Nat → Int32} {res : Int32} (hf : f_X3_commonDegree fu M P N = some res) :
    Met l yX3_commonDegree usX3_commonDegree ({ frames := 1, cells := 0, slots := 0, locals := 21 }) (va_Pc [.ref (ad 42)] (ws_B D tys nw (ww 46 ad (cellC cI cR ad M E P C N)))) (ct_Q D (ww 46 ad (cellC cI cR ad M E P C N)) (ww_A 46 ad) (some (.int res))) 0 0 (ww_A 46 ad) := by
  refine Met.ofW (cc := cX3_commonDegree) (maxL := 5) (ret := (some .int)) (by decide) rfl ?_
  intro p e s m args below meth c s₁ B hml hv
  obtain ⟨rfl, hP, hK, hN⟩ := hv
  have hx := B.exec
  have hb := B.bytes
  have hr := B.returns
  have hts := atoms_spec (ws := usX3_commonDegree) B.pre
  have hown : s.vm.findClass RX3 = some m.cls := findClass_of_methodNamed B.named
  have hlocks := B.notSynchronized
  have hS : va_S (ww_A 46 ad) s.heap s.heap [] := va_S.rf
  have hl := lv_entry ([.ref (ad 42)]) (n := 5) (Nat.le_of_ble_eq_true rfl)
  rw [lg_entry_eq]
  generalize (lg_sl ([.ref (ad 42)]) ++ List.replicate (5 - (lg_sl ([.ref (ad 42)])).length) Slot.unset).toArray = ls at hl ⊢
  have hl : lv_has ls 5 [(0, .ref (ad 42))] := hl
  have L12 : ∀ (x1 : Int32) (k12 : Int32 → Int32 → Option (Int32)), (∀ (x2 : Int32) (x3 : Int32) (H : Heap) (locs : List Loc) (ls : Array Slot), va_P D vwCl (ww 46 ad (cellC cI cR ad M E P C N)) H → va_S (ww_A 46 ad) s.heap H locs → lv_has ls 5 [(0, .ref (ad 42)), (1, .int x1), (2, .int x2), (3, .int x3)] →  k12 x2 x3 = some res → W p l e (headSpec usX3_commonDegree { frames := 1, cells := 0, slots := 0, locals := 21 }).room s m [.ref (ad 42)].toArray below meth c H locs 0 0 (MQ below (ct_Q D (ww 46 ad (cellC cI cR ad M E P C N)) (ww_A 46 ad) (some (.int res))) [.ref (ad 42)].toArray s 0 0 (ww_A 46 ad)) (F0 m 58 ls [])) → ∀ (n : Nat) (x2 : Int32) (x3 : Int32) (H : Heap) (locs : List Loc) (ls : Array Slot), va_P D vwCl (ww 46 ad (cellC cI cR ad M E P C N)) H → va_S (ww_A 46 ad) s.heap H locs → lv_has ls 5 [(0, .ref (ad 42)), (1, .int x1), (2, .int x2), (3, .int x3)] →  f_X3_commonDegree_l12 k12 fu M P N x1 n x2 x3 = some res → W p l e (headSpec usX3_commonDegree { frames := 1, cells := 0, slots := 0, locals := 21 }).room s m [.ref (ad 42)].toArray below meth c H locs 0 0 (MQ below (ct_Q D (ww 46 ad (cellC cI cR ad M E P C N)) (ww_A 46 ad) (some (.int res))) [.ref (ad 42)].toArray s 0 0 (ww_A 46 ad)) (F0 m 12 ls []) := by
    intro x1 k12 hk_12 n
    induction n with
    | zero => intro x2 x3 H locs ls hP hS hl hf; rw [f_X3_commonDegree_l12] at hf; cases hf
    | succ n ih =>
      intro x2 x3 H locs ls hP hS hl hf
      rw [f_X3_commonDegree_l12] at hf
      refine lv_iload_n hx hb dX3_commonDegree_12 rfl (lv_at hl 3 rfl) ?_
      refine lv_aload_n hx hb dX3_commonDegree_13 rfl (lv_at hl 0 rfl) ?_
      refine va_get (ci := 3) (v := .int (N 0)) (C := RX3) (T := TX3) (N := 8) hx hb hts (fun w h => BW_in (in_wsX30 w h)) hown hK hP 42 cc_spl rfl 2 (by decide) (hts (.fieldLink RX3 21 "NumberFieldFactors$Splitter" "count" "I") (BW_in mw_145)) (fun _ h9 => h9) rfl dX3_commonDegree_14 ?_
      refine lv_icmp_ge (tgt := 58) hx hb dX3_commonDegree_17 (by decide) (fun c2 => ?_) (fun c2 => ?_)
      · rw [if_pos c2] at hf
        exact hk_12 x2 x3 _ _ _ hP hS (lv_sub hl [0, 1, 2, 3] rfl) hf
      · rw [if_neg c2] at hf
        refine lv_aload_n hx hb dX3_commonDegree_20 rfl (lv_at hl 0 rfl) ?_
        refine lv_iload_n hx hb dX3_commonDegree_21 rfl (lv_at hl 3 rfl) ?_
        obtain ⟨u3, g4, hf⟩ := Option.bind_eq_some_iff.mp hf
        try dsimp only at hf
        refine ct_call (va_runV (As := [.int x3]) (rest := []) ⟨hx, hb, hml, hown, hts⟩ (C_X3_part l D tys nw hn hnw hj htI htR (res := u3) g4) (cwV 1 hts (gu_V mw_155 mw_156 mw_157 mw_158 mw_152) rfl rfl rfl (by decide +kernel) ⟨Nat.le_of_ble_eq_true rfl, Nat.le_of_ble_eq_true rfl⟩) (ct_preV hn hP hK hN (ci := 3) (k := 42) rfl (by decide) rfl) rfl rfl hl.1 rfl (lv_room (Nat.le_of_ble_eq_true rfl)) dX3_commonDegree_22 ⟨Nat.zero_le _, Nat.zero_le _⟩) hS (fun H locs hP hS => ?_)
        obtain ⟨u5, g6, hf⟩ := Option.bind_eq_some_iff.mp hf
        try dsimp only at hf
        refine ct_call (va_runV (As := []) (rest := []) ⟨hx, hb, hml, hown, hts⟩ (C_X2_degree l D tys nw hn hnw hj htI htR (res := u5) g6) (cwV 0 hts (gu_V mw_159 mw_68 mw_69 mw_50 mw_64) rfl rfl rfl (by decide +kernel) ⟨Nat.le_of_ble_eq_true rfl, Nat.le_of_ble_eq_true rfl⟩) (ct_preV hn hP hK hN (ci := 2) (k := (20 + (u3).val)) rfl (ra_lt u3) (cl_row u3)) rfl rfl hl.1 rfl (lv_room (Nat.le_of_ble_eq_true rfl)) dX3_commonDegree_25 ⟨Nat.zero_le _, Nat.zero_le _⟩) hS (fun H locs hP hS => ?_)
        refine lv_istore (lv' := [(4, .int u5), (0, .ref (ad 42)), (1, .int x1), (2, .int x2), (3, .int x3)]) hx hb dX3_commonDegree_28 hl (by decide) rfl (fun ls hl => ?_)
        refine lv_iload_n hx hb dX3_commonDegree_30 rfl (lv_at hl 3 rfl) ?_
        obtain ⟨w7, gw7, hf⟩ := Option.bind_eq_some_iff.mp hf
        try dsimp only at hf
        have hJ51_w7 : ∀ (H : Heap) (locs : List Loc) (ls : Array Slot), va_P D vwCl (ww 46 ad (cellC cI cR ad M E P C N)) H → va_S (ww_A 46 ad) s.heap H locs → lv_has ls 5 [(0, .ref (ad 42)), (1, .int x1), (2, .int x2), (3, .int x3), (4, .int u5)] → W p l e (headSpec usX3_commonDegree { frames := 1, cells := 0, slots := 0, locals := 21 }).room s m [.ref (ad 42)].toArray below meth c H locs 0 0 (MQ below (ct_Q D (ww 46 ad (cellC cI cR ad M E P C N)) (ww_A 46 ad) (some (.int res))) [.ref (ad 42)].toArray s 0 0 (ww_A 46 ad)) (F0 m 51 ls [.int w7]) := by
          intro H locs ls hP hS hl
          refine lv_istore_n (lv' := [(2, .int w7), (0, .ref (ad 42)), (1, .int x1), (3, .int x3), (4, .int u5)]) hx hb dX3_commonDegree_51 rfl hl (by decide) rfl (fun ls hl => ?_)
          refine lv_iinc (v := x3 + 1) (lv' := [(3, .int (x3 + 1)), (2, .int w7), (0, .ref (ad 42)), (1, .int x1), (4, .int u5)]) hx hb dX3_commonDegree_52 hl (k := 3) rfl rfl (by decide) rfl (fun ls hl => ?_)
          refine lv_goto (tgt := 12) hx hb dX3_commonDegree_55 (by decide) ?_
          exact ih w7 (x3 + 1) _ _ _ hP hS (lv_sub hl [2, 3, 1, 0] rfl) hf
        refine lv_if_eq (tgt := 50) hx hb dX3_commonDegree_31 (by decide) (fun c8 => ?_) (fun c8 => ?_)
        · rw [if_pos c8] at gw7
          refine lv_iconst (v := 0) hx hb dX3_commonDegree_50 (by decide) ?_
          obtain rfl := Option.some.inj gw7
          exact hJ51_w7 _ _ _ hP hS (lv_sub hl [1, 2, 3, 4, 0] rfl)
        · rw [if_neg c8] at gw7
          refine lv_iload hx hb dX3_commonDegree_34 (lv_at hl 0 rfl) ?_
          obtain ⟨w9, gw9, gw7⟩ := Option.bind_eq_some_iff.mp gw7
          try dsimp only at gw7
          have hJ51_w9 : ∀ (H : Heap) (locs : List Loc) (ls : Array Slot), va_P D vwCl (ww 46 ad (cellC cI cR ad M E P C N)) H → va_S (ww_A 46 ad) s.heap H locs → lv_has ls 5 [(0, .ref (ad 42)), (1, .int x1), (2, .int x2), (3, .int x3), (4, .int u5)] → W p l e (headSpec usX3_commonDegree { frames := 1, cells := 0, slots := 0, locals := 21 }).room s m [.ref (ad 42)].toArray below meth c H locs 0 0 (MQ below (ct_Q D (ww 46 ad (cellC cI cR ad M E P C N)) (ww_A 46 ad) (some (.int res))) [.ref (ad 42)].toArray s 0 0 (ww_A 46 ad)) (F0 m 51 ls [.int w9]) := by
            intro H locs ls hP hS hl
            obtain rfl := Option.some.inj gw7
            exact hJ51_w7 _ _ _ hP hS (lv_sub hl [0, 1, 2, 3, 4] rfl)
          refine lv_if_le (tgt := 50) hx hb dX3_commonDegree_36 (by decide) (fun c10 => ?_) (fun c10 => ?_)
          · rw [if_pos c10] at gw9
            refine lv_iconst (v := 0) hx hb dX3_commonDegree_50 (by decide) ?_
            obtain rfl := Option.some.inj gw9
            exact hJ51_w9 _ _ _ hP hS (lv_sub hl [1, 2, 3, 4, 0] rfl)
          · rw [if_neg c10] at gw9
            refine lv_iload_n hx hb dX3_commonDegree_39 rfl (lv_at hl 2 rfl) ?_
            refine lv_iload hx hb dX3_commonDegree_40 (lv_at hl 0 rfl) ?_
            by_cases z11 : u5 = 0
            · rw [if_pos z11] at gw9; cases gw9
            rw [if_neg z11] at gw9
            refine jv_irem hx hb dX3_commonDegree_42 z11 ?_
            obtain ⟨w12, gw12, gw9⟩ := Option.bind_eq_some_iff.mp gw9
            try dsimp only at gw9
            have hJ51_w12 : ∀ (H : Heap) (locs : List Loc) (ls : Array Slot), va_P D vwCl (ww 46 ad (cellC cI cR ad M E P C N)) H → va_S (ww_A 46 ad) s.heap H locs → lv_has ls 5 [(0, .ref (ad 42)), (1, .int x1), (2, .int x2), (3, .int x3), (4, .int u5)] → W p l e (headSpec usX3_commonDegree { frames := 1, cells := 0, slots := 0, locals := 21 }).room s m [.ref (ad 42)].toArray below meth c H locs 0 0 (MQ below (ct_Q D (ww 46 ad (cellC cI cR ad M E P C N)) (ww_A 46 ad) (some (.int res))) [.ref (ad 42)].toArray s 0 0 (ww_A 46 ad)) (F0 m 51 ls [.int w12]) := by
              intro H locs ls hP hS hl
              obtain rfl := Option.some.inj gw9
              exact hJ51_w9 _ _ _ hP hS (lv_sub hl [0, 1, 2, 3, 4] rfl)
            refine lv_if_ne (tgt := 50) hx hb dX3_commonDegree_43 (by decide) (fun c13 => ?_) (fun c13 => ?_)
            · rw [if_neg c13] at gw12
              refine lv_iconst (v := 0) hx hb dX3_commonDegree_50 (by decide) ?_
              obtain rfl := Option.some.inj gw12
              exact hJ51_w12 _ _ _ hP hS (lv_sub hl [1, 2, 3, 4, 0] rfl)
            · rw [if_pos c13] at gw12
              refine lv_iconst (v := 1) hx hb dX3_commonDegree_46 (by decide) ?_
              refine lv_goto (tgt := 51) hx hb dX3_commonDegree_47 (by decide) ?_
              obtain rfl := Option.some.inj gw12
              exact hJ51_w12 _ _ _ hP hS (lv_sub hl [1, 2, 3, 4, 0] rfl)
  have L2 : ∀  (k2 : Int32 → Option (Int32)), (∀ (x1 : Int32) (H : Heap) (locs : List Loc) (ls : Array Slot), va_P D vwCl (ww 46 ad (cellC cI cR ad M E P C N)) H → va_S (ww_A 46 ad) s.heap H locs → lv_has ls 5 [(0, .ref (ad 42)), (1, .int x1)] →  k2 x1 = some res → W p l e (headSpec usX3_commonDegree { frames := 1, cells := 0, slots := 0, locals := 21 }).room s m [.ref (ad 42)].toArray below meth c H locs 0 0 (MQ below (ct_Q D (ww 46 ad (cellC cI cR ad M E P C N)) (ww_A 46 ad) (some (.int res))) [.ref (ad 42)].toArray s 0 0 (ww_A 46 ad)) (F0 m 70 ls [])) → ∀ (n : Nat) (x1 : Int32) (H : Heap) (locs : List Loc) (ls : Array Slot), va_P D vwCl (ww 46 ad (cellC cI cR ad M E P C N)) H → va_S (ww_A 46 ad) s.heap H locs → lv_has ls 5 [(0, .ref (ad 42)), (1, .int x1)] →  f_X3_commonDegree_l2 k2 fu M P N n x1 = some res → W p l e (headSpec usX3_commonDegree { frames := 1, cells := 0, slots := 0, locals := 21 }).room s m [.ref (ad 42)].toArray below meth c H locs 0 0 (MQ below (ct_Q D (ww 46 ad (cellC cI cR ad M E P C N)) (ww_A 46 ad) (some (.int res))) [.ref (ad 42)].toArray s 0 0 (ww_A 46 ad)) (F0 m 2 ls []) := by
    intro  k2 hk_2 n
    induction n with
    | zero => intro x1 H locs ls hP hS hl hf; rw [f_X3_commonDegree_l2] at hf; cases hf
    | succ n ih =>
      intro x1 H locs ls hP hS hl hf
      rw [f_X3_commonDegree_l2] at hf
      refine lv_iload_n hx hb dX3_commonDegree_2 rfl (lv_at hl 1 rfl) ?_
      refine lv_bipush (v := 60) hx hb dX3_commonDegree_3 (by decide) ?_
      refine lv_icmp_gt (tgt := 70) hx hb dX3_commonDegree_5 (by decide) (fun c1 => ?_) (fun c1 => ?_)
      · rw [if_pos c1] at hf
        exact hk_2 x1 _ _ _ hP hS (lv_sub hl [0, 1] rfl) hf
      · rw [if_neg c1] at hf
        refine lv_iconst (v := 1) hx hb dX3_commonDegree_8 (by decide) ?_
        refine lv_istore_n (lv' := [(2, .int 1), (0, .ref (ad 42)), (1, .int x1)]) hx hb dX3_commonDegree_9 rfl hl (by decide) rfl (fun ls hl => ?_)
        refine lv_iconst (v := 0) hx hb dX3_commonDegree_10 (by decide) ?_
        refine lv_istore_n (lv' := [(3, .int 0), (2, .int 1), (0, .ref (ad 42)), (1, .int x1)]) hx hb dX3_commonDegree_11 rfl hl (by decide) rfl (fun ls hl => ?_)
        refine L12 x1 _ (fun y14 y15 H locs ls hP hS hl hf => ?_) fu 1 0 _ _ _ hP hS (lv_sub hl [2, 3, 1, 0] rfl) hf
        try dsimp only at hf
        refine lv_iload_n hx hb dX3_commonDegree_58 rfl (lv_at hl 2 rfl) ?_
        refine lv_if_eq (tgt := 64) hx hb dX3_commonDegree_59 (by decide) (fun c16 => ?_) (fun c16 => ?_)
        · rw [if_pos c16] at hf
          refine lv_iinc (v := x1 + 1) (lv' := [(1, .int (x1 + 1)), (0, .ref (ad 42)), (2, .int y14), (3, .int y15)]) hx hb dX3_commonDegree_64 hl (k := 1) rfl rfl (by decide) rfl (fun ls hl => ?_)
          refine lv_goto (tgt := 2) hx hb dX3_commonDegree_67 (by decide) ?_
          exact ih (x1 + 1) _ _ _ hP hS (lv_sub hl [1, 0] rfl) hf
        · rw [if_neg c16] at hf
          refine lv_iload_n hx hb dX3_commonDegree_62 rfl (lv_at hl 1 rfl) ?_
          obtain rfl := Option.some.inj hf
          exact W.iret (v := x1) hx hb hr (fun t ht hW => ⟨rfl, by rw [ht]; exact hP, hS.F ht⟩) hS.2.2 dX3_commonDegree_63
  unfold f_X3_commonDegree at hf
  refine lv_iconst (v := 1) hx hb dX3_commonDegree_0 (by decide) ?_
  refine lv_istore_n (lv' := [(1, .int 1), (0, .ref (ad 42))]) hx hb dX3_commonDegree_1 rfl hl (by decide) rfl (fun ls hl => ?_)
  refine L2  _ (fun y17 H locs ls hP hS hl hf => ?_) fu 1 _ _ _ hP hS (lv_sub hl [1, 0] rfl) hf
  try dsimp only at hf
  refine lv_iconst (v := 0) hx hb dX3_commonDegree_70 (by decide) ?_
  obtain rfl := Option.some.inj hf
  exact W.iret (v := 0) hx hb hr (fun t ht hW => ⟨rfl, by rw [ht]; exact hP, hS.F ht⟩) hS.2.2 dX3_commonDegree_71
def f_X3_keepRoot (fu : Nat) (M : Fin 20 → Nat → Int32) (E : Nat → Int32) (p1 : Fin 20) : Option ((Fin 20 → Nat → Int32)) :=
  (f_X2_copy fu M (11 : Fin 20) p1).bind (fun u1 =>
  (f_X1_divide fu u1 E (11 : Fin 20) (14 : Fin 20)).bind (fun u3 =>
  (f_X2_copy fu u3 (11 : Fin 20) (2 : Fin 20)).bind (fun u5 =>
  (f_X1_makeMonic fu u5 E (11 : Fin 20)).bind (fun u7 =>
  some u7))))
set_option maxHeartbeats 4000000 in
set_option maxRecDepth 100000 in
theorem C_X3_keepRoot (l : Launch) (D : va_G) (tys : List (ClassId × FieldType)) (nw : List Cond) (hn : nw.all nw_kind = true) (hnw : ∀ w ∈ nw0, w ∈ nw) {ad : Nat → Nat} (hj : ww_inj 46 ad) {cI : ClassId} {cR : ClassId} (htI : tys[0]? = some (cI, .int)) (htR : tys[1]? = some (cR, .object RX2)) {fu : Nat} {M : Fin 20 → Nat → Int32} {E : Nat → Int32} {P : Nat → Fin 20} {C : Nat → Int32} {N : Nat → Int32} {p1 : Fin 20} {res : (Fin 20 → Nat → Int32)} (hf : f_X3_keepRoot fu M E p1 = some res) :
    Met l yX3_keepRoot usX3_keepRoot ({ frames := 3, cells := 0, slots := 0, locals := 84 }) (va_Pc [.ref (ad 42), .ref (ad 41), .ref (ra ad p1)] (ws_B D tys nw (ww 46 ad (cellC cI cR ad M E P C N)))) (ct_Q D (ww 46 ad (cellC cI cR ad res E P C N)) (ww_A 46 ad) (none)) 0 0 (ww_A 46 ad) := by
  refine Met.ofW (cc := cX3_keepRoot) (maxL := 3) (ret := none) (by decide) rfl ?_
  intro p e s m args below meth c s₁ B hml hv
  obtain ⟨rfl, hP, hK, hN⟩ := hv
  have hx := B.exec
  have hb := B.bytes
  have hr := B.returns
  have hts := atoms_spec (ws := usX3_keepRoot) B.pre
  have hown : s.vm.findClass RX3 = some m.cls := findClass_of_methodNamed B.named
  have hlocks := B.notSynchronized
  have hS : va_S (ww_A 46 ad) s.heap s.heap [] := va_S.rf
  have hl := lv_entry ([.ref (ad 42), .ref (ad 41), .ref (ra ad p1)]) (n := 3) (Nat.le_of_ble_eq_true rfl)
  rw [lg_entry_eq]
  generalize (lg_sl ([.ref (ad 42), .ref (ad 41), .ref (ra ad p1)]) ++ List.replicate (3 - (lg_sl ([.ref (ad 42), .ref (ad 41), .ref (ra ad p1)])).length) Slot.unset).toArray = ls at hl ⊢
  have hl : lv_has ls 3 [(0, .ref (ad 42)), (1, .ref (ad 41)), (2, .ref (ra ad p1))] := hl
  unfold f_X3_keepRoot at hf
  refine lv_aload_n hx hb dX3_keepRoot_0 rfl (lv_at hl 0 rfl) ?_
  refine va_get (ci := 3) (v := .ref (ra ad (11 : Fin 20))) (C := RX3) (T := TX3) (N := 8) hx hb hts (fun w h => BW_in (in_wsX30 w h)) hown hK hP 42 cc_spl rfl 4 (by decide) (hts (.fieldLink RX3 30 "NumberFieldFactors$Splitter" "root" "LNumberFieldFactors$Row;") (BW_in mw_147)) (fun _ h9 => h9) rfl dX3_keepRoot_1 ?_
  refine lv_aload_n hx hb dX3_keepRoot_4 rfl (lv_at hl 2 rfl) ?_
  obtain ⟨u1, g2, hf⟩ := Option.bind_eq_some_iff.mp hf
  try dsimp only at hf
  refine ct_call (va_runV (As := [.ref (ra ad p1)]) (rest := []) ⟨hx, hb, hml, hown, hts⟩ (C_X2_copy l D tys nw hn hnw hj htI htR (res := u1) g2) (cwV 1 hts (gu_V mw_160 mw_87 mw_88 mw_50 mw_81) rfl rfl rfl (by decide +kernel) ⟨Nat.le_of_ble_eq_true rfl, Nat.le_of_ble_eq_true rfl⟩) (ct_preV hn hP hK hN (ci := 2) (k := (20 + ((11 : Fin 20)).val)) rfl (ra_lt (11 : Fin 20)) (cl_row (11 : Fin 20))) rfl rfl hl.1 rfl (lv_room (Nat.le_of_ble_eq_true rfl)) dX3_keepRoot_5 ⟨Nat.zero_le _, Nat.zero_le _⟩) hS (fun H locs hP hS => ?_)
  refine lv_aload_n hx hb dX3_keepRoot_8 rfl (lv_at hl 1 rfl) ?_
  refine lv_aload_n hx hb dX3_keepRoot_9 rfl (lv_at hl 0 rfl) ?_
  refine va_get (ci := 3) (v := .ref (ra ad (11 : Fin 20))) (C := RX3) (T := TX3) (N := 8) hx hb hts (fun w h => BW_in (in_wsX30 w h)) hown hK hP 42 cc_spl rfl 4 (by decide) (hts (.fieldLink RX3 30 "NumberFieldFactors$Splitter" "root" "LNumberFieldFactors$Row;") (BW_in mw_147)) (fun _ h9 => h9) rfl dX3_keepRoot_10 ?_
  refine lv_aload_n hx hb dX3_keepRoot_13 rfl (lv_at hl 0 rfl) ?_
  refine va_get (ci := 3) (v := .ref (ra ad (14 : Fin 20))) (C := RX3) (T := TX3) (N := 8) hx hb hts (fun w h => BW_in (in_wsX30 w h)) hown hK hP 42 cc_spl rfl 7 (by decide) (hts (.fieldLink RX3 40 "NumberFieldFactors$Splitter" "shared" "LNumberFieldFactors$Row;") (BW_in mw_150)) (fun _ h9 => h9) rfl dX3_keepRoot_14 ?_
  obtain ⟨u3, g4, hf⟩ := Option.bind_eq_some_iff.mp hf
  try dsimp only at hf
  refine ct_call (va_runV (As := [.ref (ra ad (11 : Fin 20)), .ref (ra ad (14 : Fin 20))]) (rest := []) ⟨hx, hb, hml, hown, hts⟩ (C_X1_divide l D tys nw hn hnw hj htI htR (res := u3) g4) (cwV 2 hts (gu_V mw_161 mw_102 mw_103 mw_100 mw_94) rfl rfl rfl (by decide +kernel) ⟨Nat.le_of_ble_eq_true rfl, Nat.le_of_ble_eq_true rfl⟩) (ct_preV hn hP hK hN (ci := 1) (k := 41) rfl (by decide) rfl) rfl rfl hl.1 rfl (lv_room (Nat.le_of_ble_eq_true rfl)) dX3_keepRoot_17 ⟨Nat.zero_le _, Nat.zero_le _⟩) hS (fun H locs hP hS => ?_)
  refine lv_aload_n hx hb dX3_keepRoot_20 rfl (lv_at hl 0 rfl) ?_
  refine va_get (ci := 3) (v := .ref (ra ad (11 : Fin 20))) (C := RX3) (T := TX3) (N := 8) hx hb hts (fun w h => BW_in (in_wsX30 w h)) hown hK hP 42 cc_spl rfl 4 (by decide) (hts (.fieldLink RX3 30 "NumberFieldFactors$Splitter" "root" "LNumberFieldFactors$Row;") (BW_in mw_147)) (fun _ h9 => h9) rfl dX3_keepRoot_21 ?_
  refine lv_aload_n hx hb dX3_keepRoot_24 rfl (lv_at hl 1 rfl) ?_
  refine va_getN (ci := 1) (v := .ref (ra ad (2 : Fin 20))) (C := RX1) (T := TX1) (N := 11) (host := "NumberFieldFactors") hx hb hts (fun w h => BW_in (in_wsX10 w h)) hown hK hP 41 cc_ring rfl 2 (by decide) (va_Nw.use rfl (hN (.fieldLinkNest RX3 85 "NumberFieldFactors$Ring" "quotient" "LNumberFieldFactors$Row;" "NumberFieldFactors") (hnw _ (by decide +kernel)))) (fun _ h9 => h9) rfl dX3_keepRoot_25 ?_
  obtain ⟨u5, g6, hf⟩ := Option.bind_eq_some_iff.mp hf
  try dsimp only at hf
  refine ct_call (va_runV (As := [.ref (ra ad (2 : Fin 20))]) (rest := []) ⟨hx, hb, hml, hown, hts⟩ (C_X2_copy l D tys nw hn hnw hj htI htR (res := u5) g6) (cwV 1 hts (gu_V mw_160 mw_87 mw_88 mw_50 mw_81) rfl rfl rfl (by decide +kernel) ⟨Nat.le_of_ble_eq_true rfl, Nat.le_of_ble_eq_true rfl⟩) (ct_preV hn hP hK hN (ci := 2) (k := (20 + ((11 : Fin 20)).val)) rfl (ra_lt (11 : Fin 20)) (cl_row (11 : Fin 20))) rfl rfl hl.1 rfl (lv_room (Nat.le_of_ble_eq_true rfl)) dX3_keepRoot_28 ⟨Nat.zero_le _, Nat.zero_le _⟩) hS (fun H locs hP hS => ?_)
  refine lv_aload_n hx hb dX3_keepRoot_31 rfl (lv_at hl 1 rfl) ?_
  refine lv_aload_n hx hb dX3_keepRoot_32 rfl (lv_at hl 0 rfl) ?_
  refine va_get (ci := 3) (v := .ref (ra ad (11 : Fin 20))) (C := RX3) (T := TX3) (N := 8) hx hb hts (fun w h => BW_in (in_wsX30 w h)) hown hK hP 42 cc_spl rfl 4 (by decide) (hts (.fieldLink RX3 30 "NumberFieldFactors$Splitter" "root" "LNumberFieldFactors$Row;") (BW_in mw_147)) (fun _ h9 => h9) rfl dX3_keepRoot_33 ?_
  obtain ⟨u7, g8, hf⟩ := Option.bind_eq_some_iff.mp hf
  try dsimp only at hf
  refine ct_call (va_runV (As := [.ref (ra ad (11 : Fin 20))]) (rest := []) ⟨hx, hb, hml, hown, hts⟩ (C_X1_makeMonic l D tys nw hn hnw hj htI htR (res := u7) g8) (cwV 1 hts (gu_V mw_162 mw_98 mw_99 mw_100 mw_96) rfl rfl rfl (by decide +kernel) ⟨Nat.le_of_ble_eq_true rfl, Nat.le_of_ble_eq_true rfl⟩) (ct_preV hn hP hK hN (ci := 1) (k := 41) rfl (by decide) rfl) rfl rfl hl.1 rfl (lv_room (Nat.le_of_ble_eq_true rfl)) dX3_keepRoot_36 ⟨Nat.zero_le _, Nat.zero_le _⟩) hS (fun H locs hP hS => ?_)
  obtain rfl := Option.some.inj hf
  exact W.vret hx hb hr (fun t ht hW => ⟨rfl, by rw [ht]; exact hP, hS.F ht⟩) hS.2.2 dX3_keepRoot_39
def f_X3_add (fu : Nat) (M : Fin 20 → Nat → Int32) (P : Nat → Fin 20) (N : Nat → Int32) (p0 : Fin 20) : Option ((Fin 20 → Nat → Int32) × (Nat → Int32)) :=
  if 5 ≤ (N 0) then
    some (M, N)
  else
    if (N 0) < 0 ∨ 5 ≤ (N 0).toNatClampNeg then none else
    (f_X2_copy fu M (P (N 0).toNatClampNeg) p0).bind (fun u3 =>
    some (u3, va_up N 0 ((N 0) + 1)))
set_option maxHeartbeats 4000000 in
set_option maxRecDepth 100000 in
theorem C_X3_add (l : Launch) (D : va_G) (tys : List (ClassId × FieldType)) (nw : List Cond) (hn : nw.all nw_kind = true) (hnw : ∀ w ∈ nw0, w ∈ nw) {ad : Nat → Nat} (hj : ww_inj 46 ad) {cI : ClassId} {cR : ClassId} (htI : tys[0]? = some (cI, .int)) (htR : tys[1]? = some (cR, .object RX2)) {fu : Nat} {M : Fin 20 → Nat → Int32} {E : Nat → Int32} {P : Nat → Fin 20} {C : Nat → Int32} {N : Nat → Int32} {p0 : Fin 20} {res : (Fin 20 → Nat → Int32) × (Nat → Int32)} (hf : f_X3_add fu M P N p0 = some res) :
    Met l yX3_add usX3_add ({ frames := 2, cells := 0, slots := 0, locals := 43 }) (va_Pc [.ref (ad 42), .ref (ra ad p0)] (ws_B D tys nw (ww 46 ad (cellC cI cR ad M E P C N)))) (ct_Q D (ww 46 ad (cellC cI cR ad res.1 E P C res.2)) (ww_A 46 ad) (none)) 0 0 (ww_A 46 ad) := by
  refine Met.ofW (cc := cX3_add) (maxL := 2) (ret := none) (by decide) rfl ?_
  intro p e s m args below meth c s₁ B hml hv
  obtain ⟨rfl, hP, hK, hN⟩ := hv
  have hx := B.exec
  have hb := B.bytes
  have hr := B.returns
  have hts := atoms_spec (ws := usX3_add) B.pre
  have hown : s.vm.findClass RX3 = some m.cls := findClass_of_methodNamed B.named
  have hlocks := B.notSynchronized
  have hS : va_S (ww_A 46 ad) s.heap s.heap [] := va_S.rf
  have hl := lv_entry ([.ref (ad 42), .ref (ra ad p0)]) (n := 2) (Nat.le_of_ble_eq_true rfl)
  rw [lg_entry_eq]
  generalize (lg_sl ([.ref (ad 42), .ref (ra ad p0)]) ++ List.replicate (2 - (lg_sl ([.ref (ad 42), .ref (ra ad p0)])).length) Slot.unset).toArray = ls at hl ⊢
  have hl : lv_has ls 2 [(0, .ref (ad 42)), (1, .ref (ra ad p0))] := hl
  unfold f_X3_add at hf
  refine lv_aload_n hx hb dX3_add_0 rfl (lv_at hl 0 rfl) ?_
  refine va_get (ci := 3) (v := .int (N 0)) (C := RX3) (T := TX3) (N := 8) hx hb hts (fun w h => BW_in (in_wsX30 w h)) hown hK hP 42 cc_spl rfl 2 (by decide) (hts (.fieldLink RX3 21 "NumberFieldFactors$Splitter" "count" "I") (BW_in mw_145)) (fun _ h9 => h9) rfl dX3_add_1 ?_
  refine lv_aload_n hx hb dX3_add_4 rfl (lv_at hl 0 rfl) ?_
  refine va_get (ci := 3) (v := .ref (ad 43)) (C := RX3) (T := TX3) (N := 8) hx hb hts (fun w h => BW_in (in_wsX30 w h)) hown hK hP 42 cc_spl rfl 0 (by decide) (hts (.fieldLink RX3 11 "NumberFieldFactors$Splitter" "parts" "[LNumberFieldFactors$Row;") (BW_in mw_143)) (fun _ h9 => h9) rfl dX3_add_5 ?_
  refine va_alen (v := 5) hx hb hK hP 43 1 cc_parts htR rfl dX3_add_8 ?_
  refine lv_icmp_ge (tgt := 35) hx hb dX3_add_9 (by decide) (fun c1 => ?_) (fun c1 => ?_)
  · rw [if_pos c1] at hf
    obtain rfl := Option.some.inj hf
    exact W.vret hx hb hr (fun t ht hW => ⟨rfl, by rw [ht]; exact hP, hS.F ht⟩) hS.2.2 dX3_add_35
  · rw [if_neg c1] at hf
    refine lv_aload_n hx hb dX3_add_12 rfl (lv_at hl 0 rfl) ?_
    refine va_get (ci := 3) (v := .ref (ad 43)) (C := RX3) (T := TX3) (N := 8) hx hb hts (fun w h => BW_in (in_wsX30 w h)) hown hK hP 42 cc_spl rfl 0 (by decide) (hts (.fieldLink RX3 11 "NumberFieldFactors$Splitter" "parts" "[LNumberFieldFactors$Row;") (BW_in mw_143)) (fun _ h9 => h9) rfl dX3_add_13 ?_
    refine lv_aload_n hx hb dX3_add_16 rfl (lv_at hl 0 rfl) ?_
    refine va_get (ci := 3) (v := .int (N 0)) (C := RX3) (T := TX3) (N := 8) hx hb hts (fun w h => BW_in (in_wsX30 w h)) hown hK hP 42 cc_spl rfl 2 (by decide) (hts (.fieldLink RX3 21 "NumberFieldFactors$Splitter" "count" "I") (BW_in mw_145)) (fun _ h9 => h9) rfl dX3_add_17 ?_
    by_cases b2 : (N 0) < 0 ∨ 5 ≤ (N 0).toNatClampNeg
    · rw [if_pos b2] at hf; cases hf
    rw [if_neg b2] at hf
    refine va_aldq hx hb hK hP 43 1 cc_parts htR b2 dX3_add_20 ?_
    refine lv_aload_n hx hb dX3_add_21 rfl (lv_at hl 1 rfl) ?_
    obtain ⟨u3, g4, hf⟩ := Option.bind_eq_some_iff.mp hf
    try dsimp only at hf
    refine ct_call (va_runV (As := [.ref (ra ad p0)]) (rest := []) ⟨hx, hb, hml, hown, hts⟩ (C_X2_copy l D tys nw hn hnw hj htI htR (res := u3) g4) (cwV 1 hts (gu_V mw_160 mw_87 mw_88 mw_50 mw_81) rfl rfl rfl (by decide +kernel) ⟨Nat.le_of_ble_eq_true rfl, Nat.le_of_ble_eq_true rfl⟩) (ct_preV hn hP hK hN (ci := 2) (k := (20 + ((P (N 0).toNatClampNeg)).val)) rfl (ra_lt (P (N 0).toNatClampNeg)) (cl_row (P (N 0).toNatClampNeg))) rfl rfl hl.1 rfl (lv_room (Nat.le_of_ble_eq_true rfl)) dX3_add_22 ⟨Nat.zero_le _, Nat.zero_le _⟩) hS (fun H locs hP hS => ?_)
    refine lv_aload_n hx hb dX3_add_25 rfl (lv_at hl 0 rfl) ?_
    refine lv_dup hx hb dX3_add_26 rfl ?_
    refine va_get (ci := 3) (v := .int (N 0)) (C := RX3) (T := TX3) (N := 8) hx hb hts (fun w h => BW_in (in_wsX30 w h)) hown hK hP 42 cc_spl rfl 2 (by decide) (hts (.fieldLink RX3 21 "NumberFieldFactors$Splitter" "count" "I") (BW_in mw_145)) (fun _ h9 => h9) rfl dX3_add_27 ?_
    refine lv_iconst (v := 1) hx hb dX3_add_30 (by decide) ?_
    refine lv_iadd hx hb dX3_add_31 ?_
    refine va_put (ci := 3) (v := .int ((N 0) + 1)) (ty := .int) (C := RX3) (T := TX3) (N := 8) hx hb hts (fun w h => BW_in (in_wsX30 w h)) tyX3 tyX3_ok nmX3 hown hK hP (ww_D hj) hS 42 cc_spl rfl 2 (by decide) (hts (.fieldLink RX3 21 "NumberFieldFactors$Splitter" "count" "I") (BW_in mw_145)) (fun _ h9 => h9) rfl (by decide +kernel) rfl rfl (Nat.le_of_ble_eq_true rfl) dX3_add_32 (fun H locs hP hD hS => ?_)
    have hP := cs_N0 hP
    obtain rfl := Option.some.inj hf
    exact W.vret hx hb hr (fun t ht hW => ⟨rfl, by rw [ht]; exact hP, hS.F ht⟩) hS.2.2 dX3_add_35
def f_X3_sizeToThe (E : Nat → Int32) (p1 : Int32) : Option (Int64) :=
  nm ((E 1).toInt64) (fun v1 =>
  if p1 = 1 then
    some v1
  else
    some (v1 * v1))
set_option maxHeartbeats 4000000 in
set_option maxRecDepth 100000 in
theorem C_X3_sizeToThe (l : Launch) (D : va_G) (tys : List (ClassId × FieldType)) (nw : List Cond) (hn : nw.all nw_kind = true) (hnw : ∀ w ∈ nw0, w ∈ nw) {ad : Nat → Nat} (hj : ww_inj 46 ad) {cI : ClassId} {cR : ClassId} (htI : tys[0]? = some (cI, .int)) (htR : tys[1]? = some (cR, .object RX2)) {M : Fin 20 → Nat → Int32} {E : Nat → Int32} {P : Nat → Fin 20} {C : Nat → Int32} {N : Nat → Int32} {p1 : Int32} {res : Int64} (hf : f_X3_sizeToThe E p1 = some res) :
    Met l yX3_sizeToThe usX3_sizeToThe ({ frames := 0, cells := 0, slots := 0, locals := 0 }) (va_Pc [.ref (ad 41), .int p1] (ws_B D tys nw (ww 46 ad (cellC cI cR ad M E P C N)))) (ct_Q D (ww 46 ad (cellC cI cR ad M E P C N)) (ww_A 46 ad) (some (.long res))) 0 0 (ww_A 46 ad) := by
  refine Met.ofW (cc := cX3_sizeToThe) (maxL := 4) (ret := (some .long)) (by decide) rfl ?_
  intro p e s m args below meth c s₁ B hml hv
  obtain ⟨rfl, hP, hK, hN⟩ := hv
  have hx := B.exec
  have hb := B.bytes
  have hr := B.returns
  have hts := atoms_spec (ws := usX3_sizeToThe) B.pre
  have hown : s.vm.findClass RX3 = some m.cls := findClass_of_methodNamed B.named
  have hlocks := B.notSynchronized
  have hS : va_S (ww_A 46 ad) s.heap s.heap [] := va_S.rf
  have hl := lv_entry ([.ref (ad 41), .int p1]) (n := 4) (Nat.le_of_ble_eq_true rfl)
  rw [lg_entry_eq]
  generalize (lg_sl ([.ref (ad 41), .int p1]) ++ List.replicate (4 - (lg_sl ([.ref (ad 41), .int p1])).length) Slot.unset).toArray = ls at hl ⊢
  have hl : lv_has ls 4 [(0, .ref (ad 41)), (1, .int p1)] := hl
  unfold f_X3_sizeToThe at hf
  refine lv_aload_n hx hb dX3_sizeToThe_0 rfl (lv_at hl 0 rfl) ?_
  refine va_getN (ci := 1) (v := .ref (ad 40)) (C := RX1) (T := TX1) (N := 11) (host := "NumberFieldFactors") hx hb hts (fun w h => BW_in (in_wsX10 w h)) hown hK hP 41 cc_ring rfl 0 (by decide) (va_Nw.use rfl (hN (.fieldLinkNest RX3 91 "NumberFieldFactors$Ring" "extension" "LNumberFieldFactors$Extension;" "NumberFieldFactors") (hnw _ (by decide +kernel)))) (fun _ h9 => h9) rfl dX3_sizeToThe_1 ?_
  refine va_getN (ci := 0) (v := .int (E 1)) (C := RX0) (T := TX0) (N := 8) (host := "NumberFieldFactors") hx hb hts (fun w h => BW_in (in_wsX00 w h)) hown hK hP 40 cc_ext rfl 1 (by decide) (va_Nw.use rfl (hN (.fieldLinkNest RX3 95 "NumberFieldFactors$Extension" "size" "I" "NumberFieldFactors") (hnw _ (by decide +kernel)))) (fun _ h9 => h9) rfl dX3_sizeToThe_4 ?_
  refine lv_i2l hx hb dX3_sizeToThe_7 rfl ?_
  obtain ⟨v1, ev1, hf⟩ := nm_elim hf
  try dsimp only at hf
  refine tp_J ev1 ?_
  refine lv_lstore_n (lv' := [(2, .long v1), (0, .ref (ad 41)), (1, .int p1)]) hx hb dX3_sizeToThe_8 rfl hl (by decide) rfl (fun ls hl => ?_)
  refine lv_iload_n hx hb dX3_sizeToThe_9 rfl (lv_at hl 2 rfl) ?_
  refine lv_iconst (v := 1) hx hb dX3_sizeToThe_10 (by decide) ?_
  refine lv_icmp_ne (tgt := 18) hx hb dX3_sizeToThe_11 (by decide) (fun c2 => ?_) (fun c2 => ?_)
  · rw [if_neg c2] at hf
    refine lv_lload_n hx hb dX3_sizeToThe_18 rfl (lv_at hl 0 rfl) ?_
    refine lv_lload_n hx hb dX3_sizeToThe_19 rfl (lv_at hl 0 rfl) ?_
    refine lv_lmul hx hb dX3_sizeToThe_20 ?_
    obtain rfl := Option.some.inj hf
    exact W.lret hx hb hr (fun t ht hW => ⟨rfl, by rw [ht]; exact hP, hS.F ht⟩) hS.2.2 dX3_sizeToThe_21
  · rw [if_pos c2] at hf
    refine lv_lload_n hx hb dX3_sizeToThe_14 rfl (lv_at hl 0 rfl) ?_
    refine lv_goto (tgt := 21) hx hb dX3_sizeToThe_15 (by decide) ?_
    obtain rfl := Option.some.inj hf
    exact W.lret hx hb hr (fun t ht hW => ⟨rfl, by rw [ht]; exact hP, hS.F ht⟩) hS.2.2 dX3_sizeToThe_21
def f_X3_collect (fu : Nat) (M : Fin 20 → Nat → Int32) (E : Nat → Int32) (P : Nat → Fin 20) (N : Nat → Int32) (p1 : Int32) : Option ((Fin 20 → Nat → Int32) × (Nat → Int32)) :=
  (f_X3_sizeToThe E p1).bind (fun u1 =>
  (f_X1_raiseLinear fu M E 0 u1 (12 : Fin 20) (13 : Fin 20)).bind (fun u3 =>
  (f_X2_get u3 (13 : Fin 20) 1).bind (fun u5 =>
  (f_X0_minus u5 1).bind (fun u7 =>
  (f_X2_set u3 (13 : Fin 20) 1 u7).bind (fun u9 =>
  (f_X1_findCommon fu u9 E (12 : Fin 20) (13 : Fin 20) (14 : Fin 20)).bind (fun u11 =>
  (f_X2_degree fu u11 (14 : Fin 20)).bind (fun u13 =>
  if u13 ≤ 0 then
    some (u11, N)
  else
    (f_X3_add fu u11 P N (14 : Fin 20)).bind (fun u16 =>
    (f_X1_divide fu u16.1 E (12 : Fin 20) (14 : Fin 20)).bind (fun u18 =>
    (f_X2_copy fu u18 (12 : Fin 20) (2 : Fin 20)).bind (fun u20 =>
    some (u20, u16.2)))))))))))
set_option maxHeartbeats 4000000 in
set_option maxRecDepth 100000 in
theorem C_X3_collect (l : Launch) (D : va_G) (tys : List (ClassId × FieldType)) (nw : List Cond) (hn : nw.all nw_kind = true) (hnw : ∀ w ∈ nw0, w ∈ nw) {ad : Nat → Nat} (hj : ww_inj 46 ad) {cI : ClassId} {cR : ClassId} (htI : tys[0]? = some (cI, .int)) (htR : tys[1]? = some (cR, .object RX2)) {fu : Nat} {M : Fin 20 → Nat → Int32} {E : Nat → Int32} {P : Nat → Fin 20} {C : Nat → Int32} {N : Nat → Int32} {p1 : Int32} {res : (Fin 20 → Nat → Int32) × (Nat → Int32)} (hf : f_X3_collect fu M E P N p1 = some res) :
    Met l yX3_collect usX3_collect ({ frames := 4, cells := 0, slots := 0, locals := 111 }) (va_Pc [.ref (ad 42), .ref (ad 41), .int p1] (ws_B D tys nw (ww 46 ad (cellC cI cR ad M E P C N)))) (ct_Q D (ww 46 ad (cellC cI cR ad res.1 E P C res.2)) (ww_A 46 ad) (none)) 0 0 (ww_A 46 ad) := by
  refine Met.ofW (cc := cX3_collect) (maxL := 3) (ret := none) (by decide) rfl ?_
  intro p e s m args below meth c s₁ B hml hv
  obtain ⟨rfl, hP, hK, hN⟩ := hv
  have hx := B.exec
  have hb := B.bytes
  have hr := B.returns
  have hts := atoms_spec (ws := usX3_collect) B.pre
  have hown : s.vm.findClass RX3 = some m.cls := findClass_of_methodNamed B.named
  have hlocks := B.notSynchronized
  have hS : va_S (ww_A 46 ad) s.heap s.heap [] := va_S.rf
  have hl := lv_entry ([.ref (ad 42), .ref (ad 41), .int p1]) (n := 3) (Nat.le_of_ble_eq_true rfl)
  rw [lg_entry_eq]
  generalize (lg_sl ([.ref (ad 42), .ref (ad 41), .int p1]) ++ List.replicate (3 - (lg_sl ([.ref (ad 42), .ref (ad 41), .int p1])).length) Slot.unset).toArray = ls at hl ⊢
  have hl : lv_has ls 3 [(0, .ref (ad 42)), (1, .ref (ad 41)), (2, .int p1)] := hl
  unfold f_X3_collect at hf
  refine lv_aload_n hx hb dX3_collect_0 rfl (lv_at hl 1 rfl) ?_
  refine lv_iconst (v := 0) hx hb dX3_collect_1 (by decide) ?_
  refine lv_aload_n hx hb dX3_collect_2 rfl (lv_at hl 1 rfl) ?_
  refine lv_iload_n hx hb dX3_collect_3 rfl (lv_at hl 2 rfl) ?_
  obtain ⟨u1, g2, hf⟩ := Option.bind_eq_some_iff.mp hf
  try dsimp only at hf
  refine ct_call (va_runS (As := [.ref (ad 41), .int p1]) (rest := [.int 0, .ref (ad 41)]) ⟨hx, hb, hml, hown, hts⟩ (C_X3_sizeToThe l D tys nw hn hnw hj htI htR (res := u1) g2) (cwS 2 hts (gu_S mw_166 mw_167 mw_158 mw_164) rfl rfl rfl (by decide +kernel) ⟨Nat.le_of_ble_eq_true rfl, Nat.le_of_ble_eq_true rfl⟩) (ct_preS hn hP hK hN) rfl rfl hl.1 rfl (lv_room (Nat.le_of_ble_eq_true rfl)) dX3_collect_4 ⟨Nat.zero_le _, Nat.zero_le _⟩) hS (fun H locs hP hS => ?_)
  refine lv_aload_n hx hb dX3_collect_7 rfl (lv_at hl 0 rfl) ?_
  refine va_get (ci := 3) (v := .ref (ra ad (12 : Fin 20))) (C := RX3) (T := TX3) (N := 8) hx hb hts (fun w h => BW_in (in_wsX30 w h)) hown hK hP 42 cc_spl rfl 5 (by decide) (hts (.fieldLink RX3 34 "NumberFieldFactors$Splitter" "rest" "LNumberFieldFactors$Row;") (BW_in mw_148)) (fun _ h9 => h9) rfl dX3_collect_8 ?_
  refine lv_aload_n hx hb dX3_collect_11 rfl (lv_at hl 0 rfl) ?_
  refine va_get (ci := 3) (v := .ref (ra ad (13 : Fin 20))) (C := RX3) (T := TX3) (N := 8) hx hb hts (fun w h => BW_in (in_wsX30 w h)) hown hK hP 42 cc_spl rfl 6 (by decide) (hts (.fieldLink RX3 37 "NumberFieldFactors$Splitter" "power" "LNumberFieldFactors$Row;") (BW_in mw_149)) (fun _ h9 => h9) rfl dX3_collect_12 ?_
  obtain ⟨u3, g4, hf⟩ := Option.bind_eq_some_iff.mp hf
  try dsimp only at hf
  refine ct_call (va_runV (As := [.int 0, .long u1, .ref (ra ad (12 : Fin 20)), .ref (ra ad (13 : Fin 20))]) (rest := []) ⟨hx, hb, hml, hown, hts⟩ (C_X1_raiseLinear l D tys nw hn hnw hj htI htR (res := u3) g4) (cwV 4 hts (gu_V mw_168 mw_169 mw_170 mw_100 mw_121) rfl rfl rfl (by decide +kernel) ⟨Nat.le_of_ble_eq_true rfl, Nat.le_of_ble_eq_true rfl⟩) (ct_preV hn hP hK hN (ci := 1) (k := 41) rfl (by decide) rfl) rfl rfl hl.1 rfl (lv_room (Nat.le_of_ble_eq_true rfl)) dX3_collect_15 ⟨Nat.zero_le _, Nat.zero_le _⟩) hS (fun H locs hP hS => ?_)
  refine lv_aload_n hx hb dX3_collect_18 rfl (lv_at hl 0 rfl) ?_
  refine va_get (ci := 3) (v := .ref (ra ad (13 : Fin 20))) (C := RX3) (T := TX3) (N := 8) hx hb hts (fun w h => BW_in (in_wsX30 w h)) hown hK hP 42 cc_spl rfl 6 (by decide) (hts (.fieldLink RX3 37 "NumberFieldFactors$Splitter" "power" "LNumberFieldFactors$Row;") (BW_in mw_149)) (fun _ h9 => h9) rfl dX3_collect_19 ?_
  refine lv_iconst (v := 1) hx hb dX3_collect_22 (by decide) ?_
  refine lv_aload_n hx hb dX3_collect_23 rfl (lv_at hl 1 rfl) ?_
  refine va_getN (ci := 1) (v := .ref (ad 40)) (C := RX1) (T := TX1) (N := 11) (host := "NumberFieldFactors") hx hb hts (fun w h => BW_in (in_wsX10 w h)) hown hK hP 41 cc_ring rfl 0 (by decide) (va_Nw.use rfl (hN (.fieldLinkNest RX3 91 "NumberFieldFactors$Ring" "extension" "LNumberFieldFactors$Extension;" "NumberFieldFactors") (hnw _ (by decide +kernel)))) (fun _ h9 => h9) rfl dX3_collect_24 ?_
  refine lv_aload_n hx hb dX3_collect_27 rfl (lv_at hl 0 rfl) ?_
  refine va_get (ci := 3) (v := .ref (ra ad (13 : Fin 20))) (C := RX3) (T := TX3) (N := 8) hx hb hts (fun w h => BW_in (in_wsX30 w h)) hown hK hP 42 cc_spl rfl 6 (by decide) (hts (.fieldLink RX3 37 "NumberFieldFactors$Splitter" "power" "LNumberFieldFactors$Row;") (BW_in mw_149)) (fun _ h9 => h9) rfl dX3_collect_28 ?_
  refine lv_iconst (v := 1) hx hb dX3_collect_31 (by decide) ?_
  obtain ⟨u5, g6, hf⟩ := Option.bind_eq_some_iff.mp hf
  try dsimp only at hf
  refine ct_call (va_runV (As := [.int 1]) (rest := [.ref (ad 40), .int 1, .ref (ra ad (13 : Fin 20))]) ⟨hx, hb, hml, hown, hts⟩ (C_X2_get l D tys nw hn hnw hj htI htR (res := u5) g6) (cwV 1 hts (gu_V mw_171 mw_72 mw_73 mw_50 mw_65) rfl rfl rfl (by decide +kernel) ⟨Nat.le_of_ble_eq_true rfl, Nat.le_of_ble_eq_true rfl⟩) (ct_preV hn hP hK hN (ci := 2) (k := (20 + ((13 : Fin 20)).val)) rfl (ra_lt (13 : Fin 20)) (cl_row (13 : Fin 20))) rfl rfl hl.1 rfl (lv_room (Nat.le_of_ble_eq_true rfl)) dX3_collect_32 ⟨Nat.zero_le _, Nat.zero_le _⟩) hS (fun H locs hP hS => ?_)
  refine lv_iconst (v := 1) hx hb dX3_collect_35 (by decide) ?_
  obtain ⟨u7, g8, hf⟩ := Option.bind_eq_some_iff.mp hf
  try dsimp only at hf
  refine ct_call (va_runV (As := [.int u5, .int 1]) (rest := [.int 1, .ref (ra ad (13 : Fin 20))]) ⟨hx, hb, hml, hown, hts⟩ (C_X0_minus l D tys nw hn hnw hj htI htR (res := u7) g8) (cwV 2 hts (gu_V mw_172 mw_92 mw_93 mw_18 mw_28) rfl rfl rfl (by decide +kernel) ⟨Nat.le_of_ble_eq_true rfl, Nat.le_of_ble_eq_true rfl⟩) (ct_preV hn hP hK hN (ci := 0) (k := 40) rfl (by decide) rfl) rfl rfl hl.1 rfl (lv_room (Nat.le_of_ble_eq_true rfl)) dX3_collect_36 ⟨Nat.zero_le _, Nat.zero_le _⟩) hS (fun H locs hP hS => ?_)
  obtain ⟨u9, g10, hf⟩ := Option.bind_eq_some_iff.mp hf
  try dsimp only at hf
  refine ct_call (va_runV (As := [.int 1, .int u7]) (rest := []) ⟨hx, hb, hml, hown, hts⟩ (C_X2_set l D tys nw hn hnw hj htI htR (res := u9) g10) (cwV 2 hts (gu_V mw_173 mw_77 mw_78 mw_50 mw_75) rfl rfl rfl (by decide +kernel) ⟨Nat.le_of_ble_eq_true rfl, Nat.le_of_ble_eq_true rfl⟩) (ct_preV hn hP hK hN (ci := 2) (k := (20 + ((13 : Fin 20)).val)) rfl (ra_lt (13 : Fin 20)) (cl_row (13 : Fin 20))) rfl rfl hl.1 rfl (lv_room (Nat.le_of_ble_eq_true rfl)) dX3_collect_39 ⟨Nat.zero_le _, Nat.zero_le _⟩) hS (fun H locs hP hS => ?_)
  refine lv_aload_n hx hb dX3_collect_42 rfl (lv_at hl 1 rfl) ?_
  refine lv_aload_n hx hb dX3_collect_43 rfl (lv_at hl 0 rfl) ?_
  refine va_get (ci := 3) (v := .ref (ra ad (12 : Fin 20))) (C := RX3) (T := TX3) (N := 8) hx hb hts (fun w h => BW_in (in_wsX30 w h)) hown hK hP 42 cc_spl rfl 5 (by decide) (hts (.fieldLink RX3 34 "NumberFieldFactors$Splitter" "rest" "LNumberFieldFactors$Row;") (BW_in mw_148)) (fun _ h9 => h9) rfl dX3_collect_44 ?_
  refine lv_aload_n hx hb dX3_collect_47 rfl (lv_at hl 0 rfl) ?_
  refine va_get (ci := 3) (v := .ref (ra ad (13 : Fin 20))) (C := RX3) (T := TX3) (N := 8) hx hb hts (fun w h => BW_in (in_wsX30 w h)) hown hK hP 42 cc_spl rfl 6 (by decide) (hts (.fieldLink RX3 37 "NumberFieldFactors$Splitter" "power" "LNumberFieldFactors$Row;") (BW_in mw_149)) (fun _ h9 => h9) rfl dX3_collect_48 ?_
  refine lv_aload_n hx hb dX3_collect_51 rfl (lv_at hl 0 rfl) ?_
  refine va_get (ci := 3) (v := .ref (ra ad (14 : Fin 20))) (C := RX3) (T := TX3) (N := 8) hx hb hts (fun w h => BW_in (in_wsX30 w h)) hown hK hP 42 cc_spl rfl 7 (by decide) (hts (.fieldLink RX3 40 "NumberFieldFactors$Splitter" "shared" "LNumberFieldFactors$Row;") (BW_in mw_150)) (fun _ h9 => h9) rfl dX3_collect_52 ?_
  obtain ⟨u11, g12, hf⟩ := Option.bind_eq_some_iff.mp hf
  try dsimp only at hf
  refine ct_call (va_runV (As := [.ref (ra ad (12 : Fin 20)), .ref (ra ad (13 : Fin 20)), .ref (ra ad (14 : Fin 20))]) (rest := []) ⟨hx, hb, hml, hown, hts⟩ (C_X1_findCommon l D tys nw hn hnw hj htI htR (res := u11) g12) (cwV 3 hts (gu_V mw_174 mw_106 mw_107 mw_100 mw_104) rfl rfl rfl (by decide +kernel) ⟨Nat.le_of_ble_eq_true rfl, Nat.le_of_ble_eq_true rfl⟩) (ct_preV hn hP hK hN (ci := 1) (k := 41) rfl (by decide) rfl) rfl rfl hl.1 rfl (lv_room (Nat.le_of_ble_eq_true rfl)) dX3_collect_55 ⟨Nat.zero_le _, Nat.zero_le _⟩) hS (fun H locs hP hS => ?_)
  refine lv_aload_n hx hb dX3_collect_58 rfl (lv_at hl 0 rfl) ?_
  refine va_get (ci := 3) (v := .ref (ra ad (14 : Fin 20))) (C := RX3) (T := TX3) (N := 8) hx hb hts (fun w h => BW_in (in_wsX30 w h)) hown hK hP 42 cc_spl rfl 7 (by decide) (hts (.fieldLink RX3 40 "NumberFieldFactors$Splitter" "shared" "LNumberFieldFactors$Row;") (BW_in mw_150)) (fun _ h9 => h9) rfl dX3_collect_59 ?_
  obtain ⟨u13, g14, hf⟩ := Option.bind_eq_some_iff.mp hf
  try dsimp only at hf
  refine ct_call (va_runV (As := []) (rest := []) ⟨hx, hb, hml, hown, hts⟩ (C_X2_degree l D tys nw hn hnw hj htI htR (res := u13) g14) (cwV 0 hts (gu_V mw_159 mw_68 mw_69 mw_50 mw_64) rfl rfl rfl (by decide +kernel) ⟨Nat.le_of_ble_eq_true rfl, Nat.le_of_ble_eq_true rfl⟩) (ct_preV hn hP hK hN (ci := 2) (k := (20 + ((14 : Fin 20)).val)) rfl (ra_lt (14 : Fin 20)) (cl_row (14 : Fin 20))) rfl rfl hl.1 rfl (lv_room (Nat.le_of_ble_eq_true rfl)) dX3_collect_62 ⟨Nat.zero_le _, Nat.zero_le _⟩) hS (fun H locs hP hS => ?_)
  refine lv_if_le (tgt := 99) hx hb dX3_collect_65 (by decide) (fun c15 => ?_) (fun c15 => ?_)
  · rw [if_pos c15] at hf
    obtain rfl := Option.some.inj hf
    exact W.vret hx hb hr (fun t ht hW => ⟨rfl, by rw [ht]; exact hP, hS.F ht⟩) hS.2.2 dX3_collect_99
  · rw [if_neg c15] at hf
    refine lv_aload_n hx hb dX3_collect_68 rfl (lv_at hl 0 rfl) ?_
    refine lv_aload_n hx hb dX3_collect_69 rfl (lv_at hl 0 rfl) ?_
    refine va_get (ci := 3) (v := .ref (ra ad (14 : Fin 20))) (C := RX3) (T := TX3) (N := 8) hx hb hts (fun w h => BW_in (in_wsX30 w h)) hown hK hP 42 cc_spl rfl 7 (by decide) (hts (.fieldLink RX3 40 "NumberFieldFactors$Splitter" "shared" "LNumberFieldFactors$Row;") (BW_in mw_150)) (fun _ h9 => h9) rfl dX3_collect_70 ?_
    obtain ⟨u16, g17, hf⟩ := Option.bind_eq_some_iff.mp hf
    try dsimp only at hf
    refine ct_call (va_runV (As := [.ref (ra ad (14 : Fin 20))]) (rest := []) ⟨hx, hb, hml, hown, hts⟩ (C_X3_add l D tys nw hn hnw hj htI htR (res := u16) g17) (cwV 1 hts (gu_V mw_175 mw_176 mw_177 mw_158 mw_165) rfl rfl rfl (by decide +kernel) ⟨Nat.le_of_ble_eq_true rfl, Nat.le_of_ble_eq_true rfl⟩) (ct_preV hn hP hK hN (ci := 3) (k := 42) rfl (by decide) rfl) rfl rfl hl.1 rfl (lv_room (Nat.le_of_ble_eq_true rfl)) dX3_collect_73 ⟨Nat.zero_le _, Nat.zero_le _⟩) hS (fun H locs hP hS => ?_)
    refine lv_aload_n hx hb dX3_collect_76 rfl (lv_at hl 1 rfl) ?_
    refine lv_aload_n hx hb dX3_collect_77 rfl (lv_at hl 0 rfl) ?_
    refine va_get (ci := 3) (v := .ref (ra ad (12 : Fin 20))) (C := RX3) (T := TX3) (N := 8) hx hb hts (fun w h => BW_in (in_wsX30 w h)) hown hK hP 42 cc_spl rfl 5 (by decide) (hts (.fieldLink RX3 34 "NumberFieldFactors$Splitter" "rest" "LNumberFieldFactors$Row;") (BW_in mw_148)) (fun _ h9 => h9) rfl dX3_collect_78 ?_
    refine lv_aload_n hx hb dX3_collect_81 rfl (lv_at hl 0 rfl) ?_
    refine va_get (ci := 3) (v := .ref (ra ad (14 : Fin 20))) (C := RX3) (T := TX3) (N := 8) hx hb hts (fun w h => BW_in (in_wsX30 w h)) hown hK hP 42 cc_spl rfl 7 (by decide) (hts (.fieldLink RX3 40 "NumberFieldFactors$Splitter" "shared" "LNumberFieldFactors$Row;") (BW_in mw_150)) (fun _ h9 => h9) rfl dX3_collect_82 ?_
    obtain ⟨u18, g19, hf⟩ := Option.bind_eq_some_iff.mp hf
    try dsimp only at hf
    refine ct_call (va_runV (As := [.ref (ra ad (12 : Fin 20)), .ref (ra ad (14 : Fin 20))]) (rest := []) ⟨hx, hb, hml, hown, hts⟩ (C_X1_divide l D tys nw hn hnw hj htI htR (res := u18) g19) (cwV 2 hts (gu_V mw_161 mw_102 mw_103 mw_100 mw_94) rfl rfl rfl (by decide +kernel) ⟨Nat.le_of_ble_eq_true rfl, Nat.le_of_ble_eq_true rfl⟩) (ct_preV hn hP hK hN (ci := 1) (k := 41) rfl (by decide) rfl) rfl rfl hl.1 rfl (lv_room (Nat.le_of_ble_eq_true rfl)) dX3_collect_85 ⟨Nat.zero_le _, Nat.zero_le _⟩) hS (fun H locs hP hS => ?_)
    refine lv_aload_n hx hb dX3_collect_88 rfl (lv_at hl 0 rfl) ?_
    refine va_get (ci := 3) (v := .ref (ra ad (12 : Fin 20))) (C := RX3) (T := TX3) (N := 8) hx hb hts (fun w h => BW_in (in_wsX30 w h)) hown hK hP 42 cc_spl rfl 5 (by decide) (hts (.fieldLink RX3 34 "NumberFieldFactors$Splitter" "rest" "LNumberFieldFactors$Row;") (BW_in mw_148)) (fun _ h9 => h9) rfl dX3_collect_89 ?_
    refine lv_aload_n hx hb dX3_collect_92 rfl (lv_at hl 1 rfl) ?_
    refine va_getN (ci := 1) (v := .ref (ra ad (2 : Fin 20))) (C := RX1) (T := TX1) (N := 11) (host := "NumberFieldFactors") hx hb hts (fun w h => BW_in (in_wsX10 w h)) hown hK hP 41 cc_ring rfl 2 (by decide) (va_Nw.use rfl (hN (.fieldLinkNest RX3 85 "NumberFieldFactors$Ring" "quotient" "LNumberFieldFactors$Row;" "NumberFieldFactors") (hnw _ (by decide +kernel)))) (fun _ h9 => h9) rfl dX3_collect_93 ?_
    obtain ⟨u20, g21, hf⟩ := Option.bind_eq_some_iff.mp hf
    try dsimp only at hf
    refine ct_call (va_runV (As := [.ref (ra ad (2 : Fin 20))]) (rest := []) ⟨hx, hb, hml, hown, hts⟩ (C_X2_copy l D tys nw hn hnw hj htI htR (res := u20) g21) (cwV 1 hts (gu_V mw_160 mw_87 mw_88 mw_50 mw_81) rfl rfl rfl (by decide +kernel) ⟨Nat.le_of_ble_eq_true rfl, Nat.le_of_ble_eq_true rfl⟩) (ct_preV hn hP hK hN (ci := 2) (k := (20 + ((12 : Fin 20)).val)) rfl (ra_lt (12 : Fin 20)) (cl_row (12 : Fin 20))) rfl rfl hl.1 rfl (lv_room (Nat.le_of_ble_eq_true rfl)) dX3_collect_96 ⟨Nat.zero_le _, Nat.zero_le _⟩) hS (fun H locs hP hS => ?_)
    obtain rfl := Option.some.inj hf
    exact W.vret hx hb hr (fun t ht hW => ⟨rfl, by rw [ht]; exact hP, hS.F ht⟩) hS.2.2 dX3_collect_99
def f_X3_separate_l68 (k68 : Int32 → Int32 → (Fin 20 → Nat → Int32) → (Nat → Int32) → Option ((Fin 20 → Nat → Int32) × (Nat → Int32))) (fu : Nat) (E : Nat → Int32) (P : Nat → Fin 20) (x2 : Int32) (x3 : Int32) (x4 : Int32) (x5 : Int32) (x6 : Int64) (x8 : Int32) (x10 : Int32) (x11 : Int32) : Nat → Int32 → Int32 → (Fin 20 → Nat → Int32) → (Nat → Int32) → Option ((Fin 20 → Nat → Int32) × (Nat → Int32))
  | 0, _, _, _, _ => none
  | n + 1, x9, x12, M, N =>
    if x11 ≤ x12 then
      k68 x9 x12 M N
    else
      (f_X3_part P x12).bind (fun u10 =>
      (f_X2_degree fu M u10).bind (fun u12 =>
      ((
        if u12 ≤ x3 then
          some (x9, M, N)
        else
          (f_X3_part P x12).bind (fun u16 =>
          (f_X1_raiseLinear fu M E x8 x6 u16 (13 : Fin 20)).bind (fun u18 =>
          (f_X2_get u18 (13 : Fin 20) 0).bind (fun u20 =>
          (f_X0_minus u20 1).bind (fun u22 =>
          (f_X2_set u18 (13 : Fin 20) 0 u22).bind (fun u24 =>
          (f_X3_part P x12).bind (fun u26 =>
          (f_X1_findCommon fu u24 E u26 (13 : Fin 20) (14 : Fin 20)).bind (fun u28 =>
          (f_X2_degree fu u28 (14 : Fin 20)).bind (fun u30 =>
          ((
            if u30 ≤ 0 then
              some (u28, N)
            else
              (f_X2_degree fu u28 (14 : Fin 20)).bind (fun u34 =>
              (f_X3_part P x12).bind (fun u36 =>
              (f_X2_degree fu u28 u36).bind (fun u38 =>
              ((
                if u38 ≤ u34 then
                  some (u28, N)
                else
                  (f_X3_part P x12).bind (fun u42 =>
                  (f_X1_divide fu u28 E u42 (14 : Fin 20)).bind (fun u44 =>
                  (f_X3_part P x12).bind (fun u46 =>
                  (f_X2_copy fu u44 u46 (2 : Fin 20)).bind (fun u48 =>
                  (f_X3_add fu u48 P N (14 : Fin 20)).bind (fun u50 =>
                  some (u50.1, u50.2)))))) : Option ((Fin 20 → Nat → Int32) × (Nat → Int32)))).bind (fun w40 =>
              some (w40.1, w40.2))))) : Option ((Fin 20 → Nat → Int32) × (Nat → Int32)))).bind (fun w32 =>
          some (1, w32.1, w32.2)))))))))) : Option (Int32 × (Fin 20 → Nat → Int32) × (Nat → Int32)))).bind (fun w14 =>
      f_X3_separate_l68 k68 fu E P x2 x3 x4 x5 x6 x8 x10 x11 n w14.1 (x12 + 1) w14.2.1 w14.2.2)))
def f_X3_separate_l44 (k44 : Int32 → Int32 → Int32 → (Fin 20 → Nat → Int32) → (Nat → Int32) → Option ((Fin 20 → Nat → Int32) × (Nat → Int32))) (fu : Nat) (E : Nat → Int32) (P : Nat → Fin 20) (x2 : Int32) (x3 : Int32) (x4 : Int32) (x5 : Int32) (x6 : Int64) : Nat → Int32 → Int32 → Int32 → (Fin 20 → Nat → Int32) → (Nat → Int32) → Option ((Fin 20 → Nat → Int32) × (Nat → Int32))
  | 0, _, _, _, _, _ => none
  | n + 1, x8, x9, x10, M, N =>
    if x4 ≤ x10 then
      k44 x8 x9 x10 M N
    else
      if x9 = 0 then
        k44 x8 x9 x10 M N
      else
        nm (N 0) (fun v8 =>
        f_X3_separate_l68 (fun y52 y53 M54 N55 =>
          nm (x8 + x5) (fun v56 =>
          ((
            if v56 < x4 then
              some v56
            else
              some (v56 - x4) : Option (Int32))).bind (fun w57 =>
          f_X3_separate_l44 k44 fu E P x2 x3 x4 x5 x6 n w57 y52 (x10 + 1) M54 N55))) fu E P x2 x3 x4 x5 x6 x8 x10 v8 fu 0 x2 M N)
def f_X3_separate (fu : Nat) (M : Fin 20 → Nat → Int32) (E : Nat → Int32) (P : Nat → Fin 20) (N : Nat → Int32) (p1 : Int32) (p2 : Int32) : Option ((Fin 20 → Nat → Int32) × (Nat → Int32)) :=
  nm (E 1) (fun v1 =>
  nm ((v1 * 382) / 1000) (fun v2 =>
  (f_X3_sizeToThe E p2).bind (fun u3 =>
  nm ((u3 - 1) / 2) (fun v5 =>
  f_X3_separate_l44 (fun y59 y60 y61 M62 N63 =>
    some (M62, N63)) fu E P p1 p2 v1 v2 v5 fu v2 1 0 M N))))
set_option maxHeartbeats 4000000 in
set_option maxRecDepth 100000 in
theorem C_X3_separate (l : Launch) (D : va_G) (tys : List (ClassId × FieldType)) (nw : List Cond) (hn : nw.all nw_kind = true) (hnw : ∀ w ∈ nw0, w ∈ nw) {ad : Nat → Nat} (hj : ww_inj 46 ad) {cI : ClassId} {cR : ClassId} (htI : tys[0]? = some (cI, .int)) (htR : tys[1]? = some (cR, .object RX2)) {fu : Nat} {M : Fin 20 → Nat → Int32} {E : Nat → Int32} {P : Nat → Fin 20} {C : Nat → Int32} {N : Nat → Int32} {p1 : Int32} {p2 : Int32} {res : (Fin 20 → Nat → Int32) × (Nat → Int32)} (hf : f_X3_separate fu M E P N p1 p2 = some res) :
    Met l yX3_separate usX3_separate ({ frames := 4, cells := 0, slots := 0, locals := 111 }) (va_Pc [.ref (ad 42), .ref (ad 41), .int p1, .int p2] (ws_B D tys nw (ww 46 ad (cellC cI cR ad M E P C N)))) (ct_Q D (ww 46 ad (cellC cI cR ad res.1 E P C res.2)) (ww_A 46 ad) (none)) 0 0 (ww_A 46 ad) := by
  refine Met.ofW (cc := cX3_separate) (maxL := 13) (ret := none) (by decide) rfl ?_
  intro p e s m args below meth c s₁ B hml hv
  obtain ⟨rfl, hP, hK, hN⟩ := hv
  have hx := B.exec
  have hb := B.bytes
  have hr := B.returns
  have hts := atoms_spec (ws := usX3_separate) B.pre
  have hown : s.vm.findClass RX3 = some m.cls := findClass_of_methodNamed B.named
  have hlocks := B.notSynchronized
  have hS : va_S (ww_A 46 ad) s.heap s.heap [] := va_S.rf
  have hl := lv_entry ([.ref (ad 42), .ref (ad 41), .int p1, .int p2]) (n := 13) (Nat.le_of_ble_eq_true rfl)
  rw [lg_entry_eq]
  generalize (lg_sl ([.ref (ad 42), .ref (ad 41), .int p1, .int p2]) ++ List.replicate (13 - (lg_sl ([.ref (ad 42), .ref (ad 41), .int p1, .int p2])).length) Slot.unset).toArray = ls at hl ⊢
  have hl : lv_has ls 13 [(0, .ref (ad 42)), (1, .ref (ad 41)), (2, .int p1), (3, .int p2)] := hl
  have L68 : ∀ (x2 : Int32) (x3 : Int32) (x4 : Int32) (x5 : Int32) (x6 : Int64) (x8 : Int32) (x10 : Int32) (x11 : Int32) (k68 : Int32 → Int32 → (Fin 20 → Nat → Int32) → (Nat → Int32) → Option ((Fin 20 → Nat → Int32) × (Nat → Int32))), (∀ (x9 : Int32) (x12 : Int32) (M : Fin 20 → Nat → Int32) (N : Nat → Int32) (H : Heap) (locs : List Loc) (ls : Array Slot), va_P D vwCl (ww 46 ad (cellC cI cR ad M E P C N)) H → va_S (ww_A 46 ad) s.heap H locs → lv_has ls 13 [(0, .ref (ad 42)), (1, .ref (ad 41)), (2, .int x2), (3, .int x3), (4, .int x4), (5, .int x5), (6, .long x6), (8, .int x8), (9, .int x9), (10, .int x10), (11, .int x11), (12, .int x12)] →  k68 x9 x12 M N = some res → W p l e (headSpec usX3_separate { frames := 4, cells := 0, slots := 0, locals := 111 }).room s m [.ref (ad 42), .ref (ad 41), .int p1, .int p2].toArray below meth c H locs 0 0 (MQ below (ct_Q D (ww 46 ad (cellC cI cR ad res.1 E P C res.2)) (ww_A 46 ad) (none)) [.ref (ad 42), .ref (ad 41), .int p1, .int p2].toArray s 0 0 (ww_A 46 ad)) (F0 m 221 ls [])) → ∀ (n : Nat) (x9 : Int32) (x12 : Int32) (M : Fin 20 → Nat → Int32) (N : Nat → Int32) (H : Heap) (locs : List Loc) (ls : Array Slot), va_P D vwCl (ww 46 ad (cellC cI cR ad M E P C N)) H → va_S (ww_A 46 ad) s.heap H locs → lv_has ls 13 [(0, .ref (ad 42)), (1, .ref (ad 41)), (2, .int x2), (3, .int x3), (4, .int x4), (5, .int x5), (6, .long x6), (8, .int x8), (9, .int x9), (10, .int x10), (11, .int x11), (12, .int x12)] →  f_X3_separate_l68 k68 fu E P x2 x3 x4 x5 x6 x8 x10 x11 n x9 x12 M N = some res → W p l e (headSpec usX3_separate { frames := 4, cells := 0, slots := 0, locals := 111 }).room s m [.ref (ad 42), .ref (ad 41), .int p1, .int p2].toArray below meth c H locs 0 0 (MQ below (ct_Q D (ww 46 ad (cellC cI cR ad res.1 E P C res.2)) (ww_A 46 ad) (none)) [.ref (ad 42), .ref (ad 41), .int p1, .int p2].toArray s 0 0 (ww_A 46 ad)) (F0 m 68 ls []) := by
    intro x2 x3 x4 x5 x6 x8 x10 x11 k68 hk_68 n
    induction n with
    | zero => intro x9 x12 M N H locs ls hP hS hl hf; rw [f_X3_separate_l68] at hf; cases hf
    | succ n ih =>
      intro x9 x12 M N H locs ls hP hS hl hf
      rw [f_X3_separate_l68] at hf
      refine lv_iload hx hb dX3_separate_68 (lv_at hl 11 rfl) ?_
      refine lv_iload hx hb dX3_separate_70 (lv_at hl 10 rfl) ?_
      refine lv_icmp_ge (tgt := 221) hx hb dX3_separate_72 (by decide) (fun c9 => ?_) (fun c9 => ?_)
      · rw [if_pos c9] at hf
        exact hk_68 x9 x12 M N _ _ _ hP hS (lv_sub hl [0, 1, 2, 3, 4, 5, 6, 7, 8, 9, 10, 11] rfl) hf
      · rw [if_neg c9] at hf
        refine lv_aload_n hx hb dX3_separate_75 rfl (lv_at hl 0 rfl) ?_
        refine lv_iload hx hb dX3_separate_76 (lv_at hl 11 rfl) ?_
        obtain ⟨u10, g11, hf⟩ := Option.bind_eq_some_iff.mp hf
        try dsimp only at hf
        refine ct_call (va_runV (As := [.int x12]) (rest := []) ⟨hx, hb, hml, hown, hts⟩ (C_X3_part l D tys nw hn hnw hj htI htR (res := u10) g11) (cwV 1 hts (gu_V mw_155 mw_156 mw_157 mw_158 mw_152) rfl rfl rfl (by decide +kernel) ⟨Nat.le_of_ble_eq_true rfl, Nat.le_of_ble_eq_true rfl⟩) (ct_preV hn hP hK hN (ci := 3) (k := 42) rfl (by decide) rfl) rfl rfl hl.1 rfl (lv_room (Nat.le_of_ble_eq_true rfl)) dX3_separate_78 ⟨Nat.zero_le _, Nat.zero_le _⟩) hS (fun H locs hP hS => ?_)
        obtain ⟨u12, g13, hf⟩ := Option.bind_eq_some_iff.mp hf
        try dsimp only at hf
        refine ct_call (va_runV (As := []) (rest := []) ⟨hx, hb, hml, hown, hts⟩ (C_X2_degree l D tys nw hn hnw hj htI htR (res := u12) g13) (cwV 0 hts (gu_V mw_159 mw_68 mw_69 mw_50 mw_64) rfl rfl rfl (by decide +kernel) ⟨Nat.le_of_ble_eq_true rfl, Nat.le_of_ble_eq_true rfl⟩) (ct_preV hn hP hK hN (ci := 2) (k := (20 + (u10).val)) rfl (ra_lt u10) (cl_row u10)) rfl rfl hl.1 rfl (lv_room (Nat.le_of_ble_eq_true rfl)) dX3_separate_81 ⟨Nat.zero_le _, Nat.zero_le _⟩) hS (fun H locs hP hS => ?_)
        refine lv_iload_n hx hb dX3_separate_84 rfl (lv_at hl 3 rfl) ?_
        obtain ⟨w14, gw14, hf⟩ := Option.bind_eq_some_iff.mp hf
        try dsimp only at hf
        have hJ215_w14 : ∀ (H : Heap) (locs : List Loc) (ls : Array Slot), va_P D vwCl (ww 46 ad (cellC cI cR ad w14.2.1 E P C w14.2.2)) H → va_S (ww_A 46 ad) s.heap H locs → lv_has ls 13 [(0, .ref (ad 42)), (1, .ref (ad 41)), (2, .int x2), (3, .int x3), (4, .int x4), (5, .int x5), (6, .long x6), (8, .int x8), (9, .int w14.1), (10, .int x10), (11, .int x11), (12, .int x12)] → W p l e (headSpec usX3_separate { frames := 4, cells := 0, slots := 0, locals := 111 }).room s m [.ref (ad 42), .ref (ad 41), .int p1, .int p2].toArray below meth c H locs 0 0 (MQ below (ct_Q D (ww 46 ad (cellC cI cR ad res.1 E P C res.2)) (ww_A 46 ad) (none)) [.ref (ad 42), .ref (ad 41), .int p1, .int p2].toArray s 0 0 (ww_A 46 ad)) (F0 m 215 ls []) := by
          intro H locs ls hP hS hl
          refine lv_iinc (v := x12 + 1) (lv' := [(12, .int (x12 + 1)), (0, .ref (ad 42)), (1, .ref (ad 41)), (2, .int x2), (3, .int x3), (4, .int x4), (5, .int x5), (6, .long x6), (8, .int x8), (9, .int w14.1), (10, .int x10), (11, .int x11)]) hx hb dX3_separate_215 hl (k := 11) rfl rfl (by decide) rfl (fun ls hl => ?_)
          refine lv_goto (tgt := 68) hx hb dX3_separate_218 (by decide) ?_
          exact ih w14.1 (x12 + 1) w14.2.1 w14.2.2 _ _ _ hP hS (lv_sub hl [1, 2, 3, 4, 5, 6, 7, 8, 9, 10, 11, 0] rfl) hf
        refine lv_icmp_le (tgt := 215) hx hb dX3_separate_85 (by decide) (fun c15 => ?_) (fun c15 => ?_)
        · rw [if_pos c15] at gw14
          obtain rfl := Option.some.inj gw14
          exact hJ215_w14 _ _ _ hP hS (lv_sub hl [0, 1, 2, 3, 4, 5, 6, 7, 8, 9, 10, 11] rfl)
        · rw [if_neg c15] at gw14
          refine lv_iconst (v := 1) hx hb dX3_separate_88 (by decide) ?_
          refine lv_istore (lv' := [(9, .int 1), (0, .ref (ad 42)), (1, .ref (ad 41)), (2, .int x2), (3, .int x3), (4, .int x4), (5, .int x5), (6, .long x6), (8, .int x8), (10, .int x10), (11, .int x11), (12, .int x12)]) hx hb dX3_separate_89 hl (by decide) rfl (fun ls hl => ?_)
          refine lv_aload_n hx hb dX3_separate_91 rfl (lv_at hl 2 rfl) ?_
          refine lv_iload hx hb dX3_separate_92 (lv_at hl 8 rfl) ?_
          refine lv_lload hx hb dX3_separate_94 (lv_at hl 7 rfl) ?_
          refine lv_aload_n hx hb dX3_separate_96 rfl (lv_at hl 1 rfl) ?_
          refine lv_iload hx hb dX3_separate_97 (lv_at hl 11 rfl) ?_
          obtain ⟨u16, g17, gw14⟩ := Option.bind_eq_some_iff.mp gw14
          try dsimp only at gw14
          refine ct_call (va_runV (As := [.int x12]) (rest := [.long x6, .int x8, .ref (ad 41)]) ⟨hx, hb, hml, hown, hts⟩ (C_X3_part l D tys nw hn hnw hj htI htR (res := u16) g17) (cwV 1 hts (gu_V mw_155 mw_156 mw_157 mw_158 mw_152) rfl rfl rfl (by decide +kernel) ⟨Nat.le_of_ble_eq_true rfl, Nat.le_of_ble_eq_true rfl⟩) (ct_preV hn hP hK hN (ci := 3) (k := 42) rfl (by decide) rfl) rfl rfl hl.1 rfl (lv_room (Nat.le_of_ble_eq_true rfl)) dX3_separate_99 ⟨Nat.zero_le _, Nat.zero_le _⟩) hS (fun H locs hP hS => ?_)
          refine lv_aload_n hx hb dX3_separate_102 rfl (lv_at hl 1 rfl) ?_
          refine va_get (ci := 3) (v := .ref (ra ad (13 : Fin 20))) (C := RX3) (T := TX3) (N := 8) hx hb hts (fun w h => BW_in (in_wsX30 w h)) hown hK hP 42 cc_spl rfl 6 (by decide) (hts (.fieldLink RX3 37 "NumberFieldFactors$Splitter" "power" "LNumberFieldFactors$Row;") (BW_in mw_149)) (fun _ h9 => h9) rfl dX3_separate_103 ?_
          obtain ⟨u18, g19, gw14⟩ := Option.bind_eq_some_iff.mp gw14
          try dsimp only at gw14
          refine ct_call (va_runV (As := [.int x8, .long x6, .ref (ra ad u16), .ref (ra ad (13 : Fin 20))]) (rest := []) ⟨hx, hb, hml, hown, hts⟩ (C_X1_raiseLinear l D tys nw hn hnw hj htI htR (res := u18) g19) (cwV 4 hts (gu_V mw_168 mw_169 mw_170 mw_100 mw_121) rfl rfl rfl (by decide +kernel) ⟨Nat.le_of_ble_eq_true rfl, Nat.le_of_ble_eq_true rfl⟩) (ct_preV hn hP hK hN (ci := 1) (k := 41) rfl (by decide) rfl) rfl rfl hl.1 rfl (lv_room (Nat.le_of_ble_eq_true rfl)) dX3_separate_106 ⟨Nat.zero_le _, Nat.zero_le _⟩) hS (fun H locs hP hS => ?_)
          refine lv_aload_n hx hb dX3_separate_109 rfl (lv_at hl 1 rfl) ?_
          refine va_get (ci := 3) (v := .ref (ra ad (13 : Fin 20))) (C := RX3) (T := TX3) (N := 8) hx hb hts (fun w h => BW_in (in_wsX30 w h)) hown hK hP 42 cc_spl rfl 6 (by decide) (hts (.fieldLink RX3 37 "NumberFieldFactors$Splitter" "power" "LNumberFieldFactors$Row;") (BW_in mw_149)) (fun _ h9 => h9) rfl dX3_separate_110 ?_
          refine lv_iconst (v := 0) hx hb dX3_separate_113 (by decide) ?_
          refine lv_aload_n hx hb dX3_separate_114 rfl (lv_at hl 2 rfl) ?_
          refine va_getN (ci := 1) (v := .ref (ad 40)) (C := RX1) (T := TX1) (N := 11) (host := "NumberFieldFactors") hx hb hts (fun w h => BW_in (in_wsX10 w h)) hown hK hP 41 cc_ring rfl 0 (by decide) (va_Nw.use rfl (hN (.fieldLinkNest RX3 91 "NumberFieldFactors$Ring" "extension" "LNumberFieldFactors$Extension;" "NumberFieldFactors") (hnw _ (by decide +kernel)))) (fun _ h9 => h9) rfl dX3_separate_115 ?_
          refine lv_aload_n hx hb dX3_separate_118 rfl (lv_at hl 1 rfl) ?_
          refine va_get (ci := 3) (v := .ref (ra ad (13 : Fin 20))) (C := RX3) (T := TX3) (N := 8) hx hb hts (fun w h => BW_in (in_wsX30 w h)) hown hK hP 42 cc_spl rfl 6 (by decide) (hts (.fieldLink RX3 37 "NumberFieldFactors$Splitter" "power" "LNumberFieldFactors$Row;") (BW_in mw_149)) (fun _ h9 => h9) rfl dX3_separate_119 ?_
          refine lv_iconst (v := 0) hx hb dX3_separate_122 (by decide) ?_
          obtain ⟨u20, g21, gw14⟩ := Option.bind_eq_some_iff.mp gw14
          try dsimp only at gw14
          refine ct_call (va_runV (As := [.int 0]) (rest := [.ref (ad 40), .int 0, .ref (ra ad (13 : Fin 20))]) ⟨hx, hb, hml, hown, hts⟩ (C_X2_get l D tys nw hn hnw hj htI htR (res := u20) g21) (cwV 1 hts (gu_V mw_171 mw_72 mw_73 mw_50 mw_65) rfl rfl rfl (by decide +kernel) ⟨Nat.le_of_ble_eq_true rfl, Nat.le_of_ble_eq_true rfl⟩) (ct_preV hn hP hK hN (ci := 2) (k := (20 + ((13 : Fin 20)).val)) rfl (ra_lt (13 : Fin 20)) (cl_row (13 : Fin 20))) rfl rfl hl.1 rfl (lv_room (Nat.le_of_ble_eq_true rfl)) dX3_separate_123 ⟨Nat.zero_le _, Nat.zero_le _⟩) hS (fun H locs hP hS => ?_)
          refine lv_iconst (v := 1) hx hb dX3_separate_126 (by decide) ?_
          obtain ⟨u22, g23, gw14⟩ := Option.bind_eq_some_iff.mp gw14
          try dsimp only at gw14
          refine ct_call (va_runV (As := [.int u20, .int 1]) (rest := [.int 0, .ref (ra ad (13 : Fin 20))]) ⟨hx, hb, hml, hown, hts⟩ (C_X0_minus l D tys nw hn hnw hj htI htR (res := u22) g23) (cwV 2 hts (gu_V mw_172 mw_92 mw_93 mw_18 mw_28) rfl rfl rfl (by decide +kernel) ⟨Nat.le_of_ble_eq_true rfl, Nat.le_of_ble_eq_true rfl⟩) (ct_preV hn hP hK hN (ci := 0) (k := 40) rfl (by decide) rfl) rfl rfl hl.1 rfl (lv_room (Nat.le_of_ble_eq_true rfl)) dX3_separate_127 ⟨Nat.zero_le _, Nat.zero_le _⟩) hS (fun H locs hP hS => ?_)
          obtain ⟨u24, g25, gw14⟩ := Option.bind_eq_some_iff.mp gw14
          try dsimp only at gw14
          refine ct_call (va_runV (As := [.int 0, .int u22]) (rest := []) ⟨hx, hb, hml, hown, hts⟩ (C_X2_set l D tys nw hn hnw hj htI htR (res := u24) g25) (cwV 2 hts (gu_V mw_173 mw_77 mw_78 mw_50 mw_75) rfl rfl rfl (by decide +kernel) ⟨Nat.le_of_ble_eq_true rfl, Nat.le_of_ble_eq_true rfl⟩) (ct_preV hn hP hK hN (ci := 2) (k := (20 + ((13 : Fin 20)).val)) rfl (ra_lt (13 : Fin 20)) (cl_row (13 : Fin 20))) rfl rfl hl.1 rfl (lv_room (Nat.le_of_ble_eq_true rfl)) dX3_separate_130 ⟨Nat.zero_le _, Nat.zero_le _⟩) hS (fun H locs hP hS => ?_)
          refine lv_aload_n hx hb dX3_separate_133 rfl (lv_at hl 2 rfl) ?_
          refine lv_aload_n hx hb dX3_separate_134 rfl (lv_at hl 1 rfl) ?_
          refine lv_iload hx hb dX3_separate_135 (lv_at hl 11 rfl) ?_
          obtain ⟨u26, g27, gw14⟩ := Option.bind_eq_some_iff.mp gw14
          try dsimp only at gw14
          refine ct_call (va_runV (As := [.int x12]) (rest := [.ref (ad 41)]) ⟨hx, hb, hml, hown, hts⟩ (C_X3_part l D tys nw hn hnw hj htI htR (res := u26) g27) (cwV 1 hts (gu_V mw_155 mw_156 mw_157 mw_158 mw_152) rfl rfl rfl (by decide +kernel) ⟨Nat.le_of_ble_eq_true rfl, Nat.le_of_ble_eq_true rfl⟩) (ct_preV hn hP hK hN (ci := 3) (k := 42) rfl (by decide) rfl) rfl rfl hl.1 rfl (lv_room (Nat.le_of_ble_eq_true rfl)) dX3_separate_137 ⟨Nat.zero_le _, Nat.zero_le _⟩) hS (fun H locs hP hS => ?_)
          refine lv_aload_n hx hb dX3_separate_140 rfl (lv_at hl 1 rfl) ?_
          refine va_get (ci := 3) (v := .ref (ra ad (13 : Fin 20))) (C := RX3) (T := TX3) (N := 8) hx hb hts (fun w h => BW_in (in_wsX30 w h)) hown hK hP 42 cc_spl rfl 6 (by decide) (hts (.fieldLink RX3 37 "NumberFieldFactors$Splitter" "power" "LNumberFieldFactors$Row;") (BW_in mw_149)) (fun _ h9 => h9) rfl dX3_separate_141 ?_
          refine lv_aload_n hx hb dX3_separate_144 rfl (lv_at hl 1 rfl) ?_
          refine va_get (ci := 3) (v := .ref (ra ad (14 : Fin 20))) (C := RX3) (T := TX3) (N := 8) hx hb hts (fun w h => BW_in (in_wsX30 w h)) hown hK hP 42 cc_spl rfl 7 (by decide) (hts (.fieldLink RX3 40 "NumberFieldFactors$Splitter" "shared" "LNumberFieldFactors$Row;") (BW_in mw_150)) (fun _ h9 => h9) rfl dX3_separate_145 ?_
          obtain ⟨u28, g29, gw14⟩ := Option.bind_eq_some_iff.mp gw14
          try dsimp only at gw14
          refine ct_call (va_runV (As := [.ref (ra ad u26), .ref (ra ad (13 : Fin 20)), .ref (ra ad (14 : Fin 20))]) (rest := []) ⟨hx, hb, hml, hown, hts⟩ (C_X1_findCommon l D tys nw hn hnw hj htI htR (res := u28) g29) (cwV 3 hts (gu_V mw_174 mw_106 mw_107 mw_100 mw_104) rfl rfl rfl (by decide +kernel) ⟨Nat.le_of_ble_eq_true rfl, Nat.le_of_ble_eq_true rfl⟩) (ct_preV hn hP hK hN (ci := 1) (k := 41) rfl (by decide) rfl) rfl rfl hl.1 rfl (lv_room (Nat.le_of_ble_eq_true rfl)) dX3_separate_148 ⟨Nat.zero_le _, Nat.zero_le _⟩) hS (fun H locs hP hS => ?_)
          refine lv_aload_n hx hb dX3_separate_151 rfl (lv_at hl 1 rfl) ?_
          refine va_get (ci := 3) (v := .ref (ra ad (14 : Fin 20))) (C := RX3) (T := TX3) (N := 8) hx hb hts (fun w h => BW_in (in_wsX30 w h)) hown hK hP 42 cc_spl rfl 7 (by decide) (hts (.fieldLink RX3 40 "NumberFieldFactors$Splitter" "shared" "LNumberFieldFactors$Row;") (BW_in mw_150)) (fun _ h9 => h9) rfl dX3_separate_152 ?_
          obtain ⟨u30, g31, gw14⟩ := Option.bind_eq_some_iff.mp gw14
          try dsimp only at gw14
          refine ct_call (va_runV (As := []) (rest := []) ⟨hx, hb, hml, hown, hts⟩ (C_X2_degree l D tys nw hn hnw hj htI htR (res := u30) g31) (cwV 0 hts (gu_V mw_159 mw_68 mw_69 mw_50 mw_64) rfl rfl rfl (by decide +kernel) ⟨Nat.le_of_ble_eq_true rfl, Nat.le_of_ble_eq_true rfl⟩) (ct_preV hn hP hK hN (ci := 2) (k := (20 + ((14 : Fin 20)).val)) rfl (ra_lt (14 : Fin 20)) (cl_row (14 : Fin 20))) rfl rfl hl.1 rfl (lv_room (Nat.le_of_ble_eq_true rfl)) dX3_separate_155 ⟨Nat.zero_le _, Nat.zero_le _⟩) hS (fun H locs hP hS => ?_)
          obtain ⟨w32, gw32, gw14⟩ := Option.bind_eq_some_iff.mp gw14
          try dsimp only at gw14
          have hJ215_w32 : ∀ (H : Heap) (locs : List Loc) (ls : Array Slot), va_P D vwCl (ww 46 ad (cellC cI cR ad w32.1 E P C w32.2)) H → va_S (ww_A 46 ad) s.heap H locs → lv_has ls 13 [(0, .ref (ad 42)), (1, .ref (ad 41)), (2, .int x2), (3, .int x3), (4, .int x4), (5, .int x5), (6, .long x6), (8, .int x8), (9, .int 1), (10, .int x10), (11, .int x11), (12, .int x12)] → W p l e (headSpec usX3_separate { frames := 4, cells := 0, slots := 0, locals := 111 }).room s m [.ref (ad 42), .ref (ad 41), .int p1, .int p2].toArray below meth c H locs 0 0 (MQ below (ct_Q D (ww 46 ad (cellC cI cR ad res.1 E P C res.2)) (ww_A 46 ad) (none)) [.ref (ad 42), .ref (ad 41), .int p1, .int p2].toArray s 0 0 (ww_A 46 ad)) (F0 m 215 ls []) := by
            intro H locs ls hP hS hl
            obtain rfl := Option.some.inj gw14
            exact hJ215_w14 _ _ _ hP hS (lv_sub hl [0, 1, 2, 3, 4, 5, 6, 7, 8, 9, 10, 11] rfl)
          refine lv_if_le (tgt := 215) hx hb dX3_separate_158 (by decide) (fun c33 => ?_) (fun c33 => ?_)
          · rw [if_pos c33] at gw32
            obtain rfl := Option.some.inj gw32
            exact hJ215_w32 _ _ _ hP hS (lv_sub hl [1, 2, 3, 4, 5, 6, 7, 8, 0, 9, 10, 11] rfl)
          · rw [if_neg c33] at gw32
            refine lv_aload_n hx hb dX3_separate_161 rfl (lv_at hl 1 rfl) ?_
            refine va_get (ci := 3) (v := .ref (ra ad (14 : Fin 20))) (C := RX3) (T := TX3) (N := 8) hx hb hts (fun w h => BW_in (in_wsX30 w h)) hown hK hP 42 cc_spl rfl 7 (by decide) (hts (.fieldLink RX3 40 "NumberFieldFactors$Splitter" "shared" "LNumberFieldFactors$Row;") (BW_in mw_150)) (fun _ h9 => h9) rfl dX3_separate_162 ?_
            obtain ⟨u34, g35, gw32⟩ := Option.bind_eq_some_iff.mp gw32
            try dsimp only at gw32
            refine ct_call (va_runV (As := []) (rest := []) ⟨hx, hb, hml, hown, hts⟩ (C_X2_degree l D tys nw hn hnw hj htI htR (res := u34) g35) (cwV 0 hts (gu_V mw_159 mw_68 mw_69 mw_50 mw_64) rfl rfl rfl (by decide +kernel) ⟨Nat.le_of_ble_eq_true rfl, Nat.le_of_ble_eq_true rfl⟩) (ct_preV hn hP hK hN (ci := 2) (k := (20 + ((14 : Fin 20)).val)) rfl (ra_lt (14 : Fin 20)) (cl_row (14 : Fin 20))) rfl rfl hl.1 rfl (lv_room (Nat.le_of_ble_eq_true rfl)) dX3_separate_165 ⟨Nat.zero_le _, Nat.zero_le _⟩) hS (fun H locs hP hS => ?_)
            refine lv_aload_n hx hb dX3_separate_168 rfl (lv_at hl 1 rfl) ?_
            refine lv_iload hx hb dX3_separate_169 (lv_at hl 11 rfl) ?_
            obtain ⟨u36, g37, gw32⟩ := Option.bind_eq_some_iff.mp gw32
            try dsimp only at gw32
            refine ct_call (va_runV (As := [.int x12]) (rest := [.int u34]) ⟨hx, hb, hml, hown, hts⟩ (C_X3_part l D tys nw hn hnw hj htI htR (res := u36) g37) (cwV 1 hts (gu_V mw_155 mw_156 mw_157 mw_158 mw_152) rfl rfl rfl (by decide +kernel) ⟨Nat.le_of_ble_eq_true rfl, Nat.le_of_ble_eq_true rfl⟩) (ct_preV hn hP hK hN (ci := 3) (k := 42) rfl (by decide) rfl) rfl rfl hl.1 rfl (lv_room (Nat.le_of_ble_eq_true rfl)) dX3_separate_171 ⟨Nat.zero_le _, Nat.zero_le _⟩) hS (fun H locs hP hS => ?_)
            obtain ⟨u38, g39, gw32⟩ := Option.bind_eq_some_iff.mp gw32
            try dsimp only at gw32
            refine ct_call (va_runV (As := []) (rest := [.int u34]) ⟨hx, hb, hml, hown, hts⟩ (C_X2_degree l D tys nw hn hnw hj htI htR (res := u38) g39) (cwV 0 hts (gu_V mw_159 mw_68 mw_69 mw_50 mw_64) rfl rfl rfl (by decide +kernel) ⟨Nat.le_of_ble_eq_true rfl, Nat.le_of_ble_eq_true rfl⟩) (ct_preV hn hP hK hN (ci := 2) (k := (20 + (u36).val)) rfl (ra_lt u36) (cl_row u36)) rfl rfl hl.1 rfl (lv_room (Nat.le_of_ble_eq_true rfl)) dX3_separate_174 ⟨Nat.zero_le _, Nat.zero_le _⟩) hS (fun H locs hP hS => ?_)
            obtain ⟨w40, gw40, gw32⟩ := Option.bind_eq_some_iff.mp gw32
            try dsimp only at gw32
            have hJ215_w40 : ∀ (H : Heap) (locs : List Loc) (ls : Array Slot), va_P D vwCl (ww 46 ad (cellC cI cR ad w40.1 E P C w40.2)) H → va_S (ww_A 46 ad) s.heap H locs → lv_has ls 13 [(0, .ref (ad 42)), (1, .ref (ad 41)), (2, .int x2), (3, .int x3), (4, .int x4), (5, .int x5), (6, .long x6), (8, .int x8), (9, .int 1), (10, .int x10), (11, .int x11), (12, .int x12)] → W p l e (headSpec usX3_separate { frames := 4, cells := 0, slots := 0, locals := 111 }).room s m [.ref (ad 42), .ref (ad 41), .int p1, .int p2].toArray below meth c H locs 0 0 (MQ below (ct_Q D (ww 46 ad (cellC cI cR ad res.1 E P C res.2)) (ww_A 46 ad) (none)) [.ref (ad 42), .ref (ad 41), .int p1, .int p2].toArray s 0 0 (ww_A 46 ad)) (F0 m 215 ls []) := by
              intro H locs ls hP hS hl
              obtain rfl := Option.some.inj gw32
              exact hJ215_w32 _ _ _ hP hS (lv_sub hl [0, 1, 2, 3, 4, 5, 6, 7, 8, 9, 10, 11] rfl)
            refine lv_icmp_ge (tgt := 215) hx hb dX3_separate_177 (by decide) (fun c41 => ?_) (fun c41 => ?_)
            · rw [if_pos c41] at gw40
              obtain rfl := Option.some.inj gw40
              exact hJ215_w40 _ _ _ hP hS (lv_sub hl [1, 2, 3, 4, 5, 6, 7, 8, 0, 9, 10, 11] rfl)
            · rw [if_neg c41] at gw40
              refine lv_aload_n hx hb dX3_separate_180 rfl (lv_at hl 2 rfl) ?_
              refine lv_aload_n hx hb dX3_separate_181 rfl (lv_at hl 1 rfl) ?_
              refine lv_iload hx hb dX3_separate_182 (lv_at hl 11 rfl) ?_
              obtain ⟨u42, g43, gw40⟩ := Option.bind_eq_some_iff.mp gw40
              try dsimp only at gw40
              refine ct_call (va_runV (As := [.int x12]) (rest := [.ref (ad 41)]) ⟨hx, hb, hml, hown, hts⟩ (C_X3_part l D tys nw hn hnw hj htI htR (res := u42) g43) (cwV 1 hts (gu_V mw_155 mw_156 mw_157 mw_158 mw_152) rfl rfl rfl (by decide +kernel) ⟨Nat.le_of_ble_eq_true rfl, Nat.le_of_ble_eq_true rfl⟩) (ct_preV hn hP hK hN (ci := 3) (k := 42) rfl (by decide) rfl) rfl rfl hl.1 rfl (lv_room (Nat.le_of_ble_eq_true rfl)) dX3_separate_184 ⟨Nat.zero_le _, Nat.zero_le _⟩) hS (fun H locs hP hS => ?_)
              refine lv_aload_n hx hb dX3_separate_187 rfl (lv_at hl 1 rfl) ?_
              refine va_get (ci := 3) (v := .ref (ra ad (14 : Fin 20))) (C := RX3) (T := TX3) (N := 8) hx hb hts (fun w h => BW_in (in_wsX30 w h)) hown hK hP 42 cc_spl rfl 7 (by decide) (hts (.fieldLink RX3 40 "NumberFieldFactors$Splitter" "shared" "LNumberFieldFactors$Row;") (BW_in mw_150)) (fun _ h9 => h9) rfl dX3_separate_188 ?_
              obtain ⟨u44, g45, gw40⟩ := Option.bind_eq_some_iff.mp gw40
              try dsimp only at gw40
              refine ct_call (va_runV (As := [.ref (ra ad u42), .ref (ra ad (14 : Fin 20))]) (rest := []) ⟨hx, hb, hml, hown, hts⟩ (C_X1_divide l D tys nw hn hnw hj htI htR (res := u44) g45) (cwV 2 hts (gu_V mw_161 mw_102 mw_103 mw_100 mw_94) rfl rfl rfl (by decide +kernel) ⟨Nat.le_of_ble_eq_true rfl, Nat.le_of_ble_eq_true rfl⟩) (ct_preV hn hP hK hN (ci := 1) (k := 41) rfl (by decide) rfl) rfl rfl hl.1 rfl (lv_room (Nat.le_of_ble_eq_true rfl)) dX3_separate_191 ⟨Nat.zero_le _, Nat.zero_le _⟩) hS (fun H locs hP hS => ?_)
              refine lv_aload_n hx hb dX3_separate_194 rfl (lv_at hl 1 rfl) ?_
              refine lv_iload hx hb dX3_separate_195 (lv_at hl 11 rfl) ?_
              obtain ⟨u46, g47, gw40⟩ := Option.bind_eq_some_iff.mp gw40
              try dsimp only at gw40
              refine ct_call (va_runV (As := [.int x12]) (rest := []) ⟨hx, hb, hml, hown, hts⟩ (C_X3_part l D tys nw hn hnw hj htI htR (res := u46) g47) (cwV 1 hts (gu_V mw_155 mw_156 mw_157 mw_158 mw_152) rfl rfl rfl (by decide +kernel) ⟨Nat.le_of_ble_eq_true rfl, Nat.le_of_ble_eq_true rfl⟩) (ct_preV hn hP hK hN (ci := 3) (k := 42) rfl (by decide) rfl) rfl rfl hl.1 rfl (lv_room (Nat.le_of_ble_eq_true rfl)) dX3_separate_197 ⟨Nat.zero_le _, Nat.zero_le _⟩) hS (fun H locs hP hS => ?_)
              refine lv_aload_n hx hb dX3_separate_200 rfl (lv_at hl 2 rfl) ?_
              refine va_getN (ci := 1) (v := .ref (ra ad (2 : Fin 20))) (C := RX1) (T := TX1) (N := 11) (host := "NumberFieldFactors") hx hb hts (fun w h => BW_in (in_wsX10 w h)) hown hK hP 41 cc_ring rfl 2 (by decide) (va_Nw.use rfl (hN (.fieldLinkNest RX3 85 "NumberFieldFactors$Ring" "quotient" "LNumberFieldFactors$Row;" "NumberFieldFactors") (hnw _ (by decide +kernel)))) (fun _ h9 => h9) rfl dX3_separate_201 ?_
              obtain ⟨u48, g49, gw40⟩ := Option.bind_eq_some_iff.mp gw40
              try dsimp only at gw40
              refine ct_call (va_runV (As := [.ref (ra ad (2 : Fin 20))]) (rest := []) ⟨hx, hb, hml, hown, hts⟩ (C_X2_copy l D tys nw hn hnw hj htI htR (res := u48) g49) (cwV 1 hts (gu_V mw_160 mw_87 mw_88 mw_50 mw_81) rfl rfl rfl (by decide +kernel) ⟨Nat.le_of_ble_eq_true rfl, Nat.le_of_ble_eq_true rfl⟩) (ct_preV hn hP hK hN (ci := 2) (k := (20 + (u46).val)) rfl (ra_lt u46) (cl_row u46)) rfl rfl hl.1 rfl (lv_room (Nat.le_of_ble_eq_true rfl)) dX3_separate_204 ⟨Nat.zero_le _, Nat.zero_le _⟩) hS (fun H locs hP hS => ?_)
              refine lv_aload_n hx hb dX3_separate_207 rfl (lv_at hl 1 rfl) ?_
              refine lv_aload_n hx hb dX3_separate_208 rfl (lv_at hl 1 rfl) ?_
              refine va_get (ci := 3) (v := .ref (ra ad (14 : Fin 20))) (C := RX3) (T := TX3) (N := 8) hx hb hts (fun w h => BW_in (in_wsX30 w h)) hown hK hP 42 cc_spl rfl 7 (by decide) (hts (.fieldLink RX3 40 "NumberFieldFactors$Splitter" "shared" "LNumberFieldFactors$Row;") (BW_in mw_150)) (fun _ h9 => h9) rfl dX3_separate_209 ?_
              obtain ⟨u50, g51, gw40⟩ := Option.bind_eq_some_iff.mp gw40
              try dsimp only at gw40
              refine ct_call (va_runV (As := [.ref (ra ad (14 : Fin 20))]) (rest := []) ⟨hx, hb, hml, hown, hts⟩ (C_X3_add l D tys nw hn hnw hj htI htR (res := u50) g51) (cwV 1 hts (gu_V mw_175 mw_176 mw_177 mw_158 mw_165) rfl rfl rfl (by decide +kernel) ⟨Nat.le_of_ble_eq_true rfl, Nat.le_of_ble_eq_true rfl⟩) (ct_preV hn hP hK hN (ci := 3) (k := 42) rfl (by decide) rfl) rfl rfl hl.1 rfl (lv_room (Nat.le_of_ble_eq_true rfl)) dX3_separate_212 ⟨Nat.zero_le _, Nat.zero_le _⟩) hS (fun H locs hP hS => ?_)
              obtain rfl := Option.some.inj gw40
              exact hJ215_w40 _ _ _ hP hS (lv_sub hl [1, 2, 3, 4, 5, 6, 7, 8, 0, 9, 10, 11] rfl)
  have L44 : ∀ (x2 : Int32) (x3 : Int32) (x4 : Int32) (x5 : Int32) (x6 : Int64) (k44 : Int32 → Int32 → Int32 → (Fin 20 → Nat → Int32) → (Nat → Int32) → Option ((Fin 20 → Nat → Int32) × (Nat → Int32))), (∀ (x8 : Int32) (x9 : Int32) (x10 : Int32) (M : Fin 20 → Nat → Int32) (N : Nat → Int32) (H : Heap) (locs : List Loc) (ls : Array Slot), va_P D vwCl (ww 46 ad (cellC cI cR ad M E P C N)) H → va_S (ww_A 46 ad) s.heap H locs → lv_has ls 13 [(0, .ref (ad 42)), (1, .ref (ad 41)), (2, .int x2), (3, .int x3), (4, .int x4), (5, .int x5), (6, .long x6), (8, .int x8), (9, .int x9), (10, .int x10)] →  k44 x8 x9 x10 M N = some res → W p l e (headSpec usX3_separate { frames := 4, cells := 0, slots := 0, locals := 111 }).room s m [.ref (ad 42), .ref (ad 41), .int p1, .int p2].toArray below meth c H locs 0 0 (MQ below (ct_Q D (ww 46 ad (cellC cI cR ad res.1 E P C res.2)) (ww_A 46 ad) (none)) [.ref (ad 42), .ref (ad 41), .int p1, .int p2].toArray s 0 0 (ww_A 46 ad)) (F0 m 253 ls [])) → ∀ (n : Nat) (x8 : Int32) (x9 : Int32) (x10 : Int32) (M : Fin 20 → Nat → Int32) (N : Nat → Int32) (H : Heap) (locs : List Loc) (ls : Array Slot), va_P D vwCl (ww 46 ad (cellC cI cR ad M E P C N)) H → va_S (ww_A 46 ad) s.heap H locs → lv_has ls 13 [(0, .ref (ad 42)), (1, .ref (ad 41)), (2, .int x2), (3, .int x3), (4, .int x4), (5, .int x5), (6, .long x6), (8, .int x8), (9, .int x9), (10, .int x10)] →  f_X3_separate_l44 k44 fu E P x2 x3 x4 x5 x6 n x8 x9 x10 M N = some res → W p l e (headSpec usX3_separate { frames := 4, cells := 0, slots := 0, locals := 111 }).room s m [.ref (ad 42), .ref (ad 41), .int p1, .int p2].toArray below meth c H locs 0 0 (MQ below (ct_Q D (ww 46 ad (cellC cI cR ad res.1 E P C res.2)) (ww_A 46 ad) (none)) [.ref (ad 42), .ref (ad 41), .int p1, .int p2].toArray s 0 0 (ww_A 46 ad)) (F0 m 44 ls []) := by
    intro x2 x3 x4 x5 x6 k44 hk_44 n
    induction n with
    | zero => intro x8 x9 x10 M N H locs ls hP hS hl hf; rw [f_X3_separate_l44] at hf; cases hf
    | succ n ih =>
      intro x8 x9 x10 M N H locs ls hP hS hl hf
      rw [f_X3_separate_l44] at hf
      refine lv_iload hx hb dX3_separate_44 (lv_at hl 9 rfl) ?_
      refine lv_iload hx hb dX3_separate_46 (lv_at hl 4 rfl) ?_
      refine lv_icmp_ge (tgt := 253) hx hb dX3_separate_48 (by decide) (fun c6 => ?_) (fun c6 => ?_)
      · rw [if_pos c6] at hf
        exact hk_44 x8 x9 x10 M N _ _ _ hP hS (lv_sub hl [0, 1, 2, 3, 4, 5, 6, 7, 8, 9] rfl) hf
      · rw [if_neg c6] at hf
        refine lv_iload hx hb dX3_separate_51 (lv_at hl 8 rfl) ?_
        refine lv_if_eq (tgt := 253) hx hb dX3_separate_53 (by decide) (fun c7 => ?_) (fun c7 => ?_)
        · rw [if_pos c7] at hf
          exact hk_44 x8 x9 x10 M N _ _ _ hP hS (lv_sub hl [0, 1, 2, 3, 4, 5, 6, 7, 8, 9] rfl) hf
        · rw [if_neg c7] at hf
          refine lv_iconst (v := 0) hx hb dX3_separate_56 (by decide) ?_
          refine lv_istore (lv' := [(9, .int 0), (0, .ref (ad 42)), (1, .ref (ad 41)), (2, .int x2), (3, .int x3), (4, .int x4), (5, .int x5), (6, .long x6), (8, .int x8), (10, .int x10)]) hx hb dX3_separate_57 hl (by decide) rfl (fun ls hl => ?_)
          refine lv_aload_n hx hb dX3_separate_59 rfl (lv_at hl 1 rfl) ?_
          refine va_get (ci := 3) (v := .int (N 0)) (C := RX3) (T := TX3) (N := 8) hx hb hts (fun w h => BW_in (in_wsX30 w h)) hown hK hP 42 cc_spl rfl 2 (by decide) (hts (.fieldLink RX3 21 "NumberFieldFactors$Splitter" "count" "I") (BW_in mw_145)) (fun _ h9 => h9) rfl dX3_separate_60 ?_
          obtain ⟨v8, ev8, hf⟩ := nm_elim hf
          try dsimp only at hf
          refine tp_I ev8 ?_
          refine lv_istore (lv' := [(11, .int v8), (9, .int 0), (0, .ref (ad 42)), (1, .ref (ad 41)), (2, .int x2), (3, .int x3), (4, .int x4), (5, .int x5), (6, .long x6), (8, .int x8), (10, .int x10)]) hx hb dX3_separate_63 hl (by decide) rfl (fun ls hl => ?_)
          refine lv_iload_n hx hb dX3_separate_65 rfl (lv_at hl 4 rfl) ?_
          refine lv_istore (lv' := [(12, .int x2), (11, .int v8), (9, .int 0), (0, .ref (ad 42)), (1, .ref (ad 41)), (2, .int x2), (3, .int x3), (4, .int x4), (5, .int x5), (6, .long x6), (8, .int x8), (10, .int x10)]) hx hb dX3_separate_66 hl (by decide) rfl (fun ls hl => ?_)
          refine L68 x2 x3 x4 x5 x6 x8 x10 v8 _ (fun y52 y53 M54 N55 H locs ls hP hS hl hf => ?_) fu 0 x2 M N _ _ _ hP hS (lv_sub hl [3, 4, 5, 6, 7, 8, 9, 10, 2, 11, 1, 0] rfl) hf
          try dsimp only at hf
          refine lv_iload hx hb dX3_separate_221 (lv_at hl 7 rfl) ?_
          refine lv_iload hx hb dX3_separate_223 (lv_at hl 5 rfl) ?_
          refine lv_iadd hx hb dX3_separate_225 ?_
          obtain ⟨v56, ev56, hf⟩ := nm_elim hf
          try dsimp only at hf
          refine tp_I ev56 ?_
          refine lv_istore (lv' := [(8, .int v56), (0, .ref (ad 42)), (1, .ref (ad 41)), (2, .int x2), (3, .int x3), (4, .int x4), (5, .int x5), (6, .long x6), (9, .int y52), (10, .int x10), (11, .int v8), (12, .int y53)]) hx hb dX3_separate_226 hl (by decide) rfl (fun ls hl => ?_)
          refine lv_iload hx hb dX3_separate_228 (lv_at hl 0 rfl) ?_
          refine lv_iload hx hb dX3_separate_230 (lv_at hl 5 rfl) ?_
          obtain ⟨w57, gw57, hf⟩ := Option.bind_eq_some_iff.mp hf
          try dsimp only at hf
          have hJ245_w57 : ∀ (H : Heap) (locs : List Loc) (ls : Array Slot), va_P D vwCl (ww 46 ad (cellC cI cR ad M54 E P C N55)) H → va_S (ww_A 46 ad) s.heap H locs → lv_has ls 13 [(0, .ref (ad 42)), (1, .ref (ad 41)), (2, .int x2), (3, .int x3), (4, .int x4), (5, .int x5), (6, .long x6), (8, .int v56), (9, .int y52), (10, .int x10), (11, .int v8), (12, .int y53)] → W p l e (headSpec usX3_separate { frames := 4, cells := 0, slots := 0, locals := 111 }).room s m [.ref (ad 42), .ref (ad 41), .int p1, .int p2].toArray below meth c H locs 0 0 (MQ below (ct_Q D (ww 46 ad (cellC cI cR ad res.1 E P C res.2)) (ww_A 46 ad) (none)) [.ref (ad 42), .ref (ad 41), .int p1, .int p2].toArray s 0 0 (ww_A 46 ad)) (F0 m 245 ls [.int w57]) := by
            intro H locs ls hP hS hl
            refine lv_istore (lv' := [(8, .int w57), (0, .ref (ad 42)), (1, .ref (ad 41)), (2, .int x2), (3, .int x3), (4, .int x4), (5, .int x5), (6, .long x6), (9, .int y52), (10, .int x10), (11, .int v8), (12, .int y53)]) hx hb dX3_separate_245 hl (by decide) rfl (fun ls hl => ?_)
            refine lv_iinc (v := x10 + 1) (lv' := [(10, .int (x10 + 1)), (8, .int w57), (0, .ref (ad 42)), (1, .ref (ad 41)), (2, .int x2), (3, .int x3), (4, .int x4), (5, .int x5), (6, .long x6), (9, .int y52), (11, .int v8), (12, .int y53)]) hx hb dX3_separate_247 hl (k := 9) rfl rfl (by decide) rfl (fun ls hl => ?_)
            refine lv_goto (tgt := 44) hx hb dX3_separate_250 (by decide) ?_
            exact ih w57 y52 (x10 + 1) M54 N55 _ _ _ hP hS (lv_sub hl [2, 3, 4, 5, 6, 7, 8, 1, 9, 0] rfl) hf
          refine lv_icmp_lt (tgt := 243) hx hb dX3_separate_232 (by decide) (fun c58 => ?_) (fun c58 => ?_)
          · rw [if_pos c58] at gw57
            refine lv_iload hx hb dX3_separate_243 (lv_at hl 0 rfl) ?_
            obtain rfl := Option.some.inj gw57
            exact hJ245_w57 _ _ _ hP hS (lv_sub hl [1, 2, 3, 4, 5, 6, 7, 0, 8, 9, 10, 11] rfl)
          · rw [if_neg c58] at gw57
            refine lv_iload hx hb dX3_separate_235 (lv_at hl 0 rfl) ?_
            refine lv_iload hx hb dX3_separate_237 (lv_at hl 5 rfl) ?_
            refine lv_isub hx hb dX3_separate_239 ?_
            refine lv_goto (tgt := 245) hx hb dX3_separate_240 (by decide) ?_
            obtain rfl := Option.some.inj gw57
            exact hJ245_w57 _ _ _ hP hS (lv_sub hl [1, 2, 3, 4, 5, 6, 7, 0, 8, 9, 10, 11] rfl)
  unfold f_X3_separate at hf
  refine lv_aload_n hx hb dX3_separate_0 rfl (lv_at hl 1 rfl) ?_
  refine va_getN (ci := 1) (v := .ref (ad 40)) (C := RX1) (T := TX1) (N := 11) (host := "NumberFieldFactors") hx hb hts (fun w h => BW_in (in_wsX10 w h)) hown hK hP 41 cc_ring rfl 0 (by decide) (va_Nw.use rfl (hN (.fieldLinkNest RX3 91 "NumberFieldFactors$Ring" "extension" "LNumberFieldFactors$Extension;" "NumberFieldFactors") (hnw _ (by decide +kernel)))) (fun _ h9 => h9) rfl dX3_separate_1 ?_
  refine va_getN (ci := 0) (v := .int (E 1)) (C := RX0) (T := TX0) (N := 8) (host := "NumberFieldFactors") hx hb hts (fun w h => BW_in (in_wsX00 w h)) hown hK hP 40 cc_ext rfl 1 (by decide) (va_Nw.use rfl (hN (.fieldLinkNest RX3 95 "NumberFieldFactors$Extension" "size" "I" "NumberFieldFactors") (hnw _ (by decide +kernel)))) (fun _ h9 => h9) rfl dX3_separate_4 ?_
  obtain ⟨v1, ev1, hf⟩ := nm_elim hf
  try dsimp only at hf
  refine tp_I ev1 ?_
  refine lv_istore (lv' := [(4, .int v1), (0, .ref (ad 42)), (1, .ref (ad 41)), (2, .int p1), (3, .int p2)]) hx hb dX3_separate_7 hl (by decide) rfl (fun ls hl => ?_)
  refine lv_iload hx hb dX3_separate_9 (lv_at hl 0 rfl) ?_
  refine lv_sipush (v := 382) hx hb dX3_separate_11 (by decide) ?_
  refine lv_imul hx hb dX3_separate_14 ?_
  refine lv_sipush (v := 1000) hx hb dX3_separate_15 (by decide) ?_
  refine lv_idiv hx hb dX3_separate_18 (by decide) ?_
  obtain ⟨v2, ev2, hf⟩ := nm_elim hf
  try dsimp only at hf
  refine tp_I ev2 ?_
  refine lv_istore (lv' := [(5, .int v2), (4, .int v1), (0, .ref (ad 42)), (1, .ref (ad 41)), (2, .int p1), (3, .int p2)]) hx hb dX3_separate_19 hl (by decide) rfl (fun ls hl => ?_)
  refine lv_aload_n hx hb dX3_separate_21 rfl (lv_at hl 3 rfl) ?_
  refine lv_iload_n hx hb dX3_separate_22 rfl (lv_at hl 5 rfl) ?_
  obtain ⟨u3, g4, hf⟩ := Option.bind_eq_some_iff.mp hf
  try dsimp only at hf
  refine ct_call (va_runS (As := [.ref (ad 41), .int p2]) (rest := []) ⟨hx, hb, hml, hown, hts⟩ (C_X3_sizeToThe l D tys nw hn hnw hj htI htR (res := u3) g4) (cwS 2 hts (gu_S mw_166 mw_167 mw_158 mw_164) rfl rfl rfl (by decide +kernel) ⟨Nat.le_of_ble_eq_true rfl, Nat.le_of_ble_eq_true rfl⟩) (ct_preS hn hP hK hN) rfl rfl hl.1 rfl (lv_room (Nat.le_of_ble_eq_true rfl)) dX3_separate_23 ⟨Nat.zero_le _, Nat.zero_le _⟩) hS (fun H locs hP hS => ?_)
  refine lv_lconst (v := 1) hx hb dX3_separate_26 (by decide) ?_
  refine lv_lsub hx hb dX3_separate_27 ?_
  refine lv_ldc2 (v := 2) hx hb hown (hts (.constantLong RX3 124 (2)) (BW_in mw_179)) dX3_separate_28 ?_
  refine lv_ldiv hx hb dX3_separate_31 (by decide) ?_
  obtain ⟨v5, ev5, hf⟩ := nm_elim hf
  try dsimp only at hf
  refine tp_J ev5 ?_
  refine lv_lstore (lv' := [(6, .long v5), (5, .int v2), (4, .int v1), (0, .ref (ad 42)), (1, .ref (ad 41)), (2, .int p1), (3, .int p2)]) hx hb dX3_separate_32 hl (by decide) rfl (fun ls hl => ?_)
  refine lv_iload hx hb dX3_separate_34 (lv_at hl 1 rfl) ?_
  refine lv_istore (lv' := [(8, .int v2), (6, .long v5), (5, .int v2), (4, .int v1), (0, .ref (ad 42)), (1, .ref (ad 41)), (2, .int p1), (3, .int p2)]) hx hb dX3_separate_36 hl (by decide) rfl (fun ls hl => ?_)
  refine lv_iconst (v := 1) hx hb dX3_separate_38 (by decide) ?_
  refine lv_istore (lv' := [(9, .int 1), (8, .int v2), (6, .long v5), (5, .int v2), (4, .int v1), (0, .ref (ad 42)), (1, .ref (ad 41)), (2, .int p1), (3, .int p2)]) hx hb dX3_separate_39 hl (by decide) rfl (fun ls hl => ?_)
  refine lv_iconst (v := 0) hx hb dX3_separate_41 (by decide) ?_
  refine lv_istore (lv' := [(10, .int 0), (9, .int 1), (8, .int v2), (6, .long v5), (5, .int v2), (4, .int v1), (0, .ref (ad 42)), (1, .ref (ad 41)), (2, .int p1), (3, .int p2)]) hx hb dX3_separate_42 hl (by decide) rfl (fun ls hl => ?_)
  refine L44 p1 p2 v1 v2 v5 _ (fun y59 y60 y61 M62 N63 H locs ls hP hS hl hf => ?_) fu v2 1 0 M N _ _ _ hP hS (lv_sub hl [6, 7, 8, 9, 5, 4, 3, 2, 1, 0] rfl) hf
  try dsimp only at hf
  obtain rfl := Option.some.inj hf
  exact W.vret hx hb hr (fun t ht hW => ⟨rfl, by rw [ht]; exact hP, hS.F ht⟩) hS.2.2 dX3_separate_253
def f_X3_sort_l28 (k28 : Int32 → (Nat → Fin 20) → Option ((Nat → Fin 20))) (fu : Nat) (M : Fin 20 → Nat → Int32) (N : Nat → Int32) (x1 : Int32) (x2 : Fin 20) : Nat → Int32 → (Nat → Fin 20) → Option ((Nat → Fin 20))
  | 0, _, _ => none
  | n + 1, x3, P =>
    if x3 ≤ 0 then
      k28 x3 P
    else
      if (x3 - 1) < 0 ∨ 5 ≤ (x3 - 1).toNatClampNeg then none else
      (f_X2_isBefore fu M x2 (P (x3 - 1).toNatClampNeg)).bind (fun u6 =>
      if u6 = 0 then
        k28 x3 P
      else
        if (x3 - 1) < 0 ∨ 5 ≤ (x3 - 1).toNatClampNeg then none else
        if x3 < 0 ∨ 5 ≤ (x3).toNatClampNeg then none else
        f_X3_sort_l28 k28 fu M N x1 x2 n (x3 + (-1)) (va_up P (x3).toNatClampNeg (P (x3 - 1).toNatClampNeg)))
def f_X3_sort_l2 (k2 : Int32 → (Nat → Fin 20) → Option ((Nat → Fin 20))) (fu : Nat) (M : Fin 20 → Nat → Int32) (N : Nat → Int32) : Nat → Int32 → (Nat → Fin 20) → Option ((Nat → Fin 20))
  | 0, _, _ => none
  | n + 1, x1, P =>
    if (N 0) ≤ x1 then
      k2 x1 P
    else
      if 5 ≤ x1 then
        k2 x1 P
      else
        if x1 < 0 ∨ 5 ≤ (x1).toNatClampNeg then none else
        f_X3_sort_l28 (fun y11 P12 =>
          if y11 < 0 ∨ 5 ≤ (y11).toNatClampNeg then none else
          f_X3_sort_l2 k2 fu M N n (x1 + 1) (va_up P12 (y11).toNatClampNeg (P (x1).toNatClampNeg))) fu M N x1 (P (x1).toNatClampNeg) fu x1 P
def f_X3_sort (fu : Nat) (M : Fin 20 → Nat → Int32) (P : Nat → Fin 20) (N : Nat → Int32) : Option ((Nat → Fin 20)) :=
  f_X3_sort_l2 (fun y14 P15 =>
    some P15) fu M N fu 1 P
set_option maxHeartbeats 4000000 in
set_option maxRecDepth 100000 in
theorem C_X3_sort (l : Launch) (D : va_G) (tys : List (ClassId × FieldType)) (nw : List Cond) (hn : nw.all nw_kind = true) (hnw : ∀ w ∈ nw0, w ∈ nw) {ad : Nat → Nat} (hj : ww_inj 46 ad) {cI : ClassId} {cR : ClassId} (htI : tys[0]? = some (cI, .int)) (htR : tys[1]? = some (cR, .object RX2)) {fu : Nat} {M : Fin 20 → Nat → Int32} {E : Nat → Int32} {P : Nat → Fin 20} {C : Nat → Int32} {N : Nat → Int32} {res : (Nat → Fin 20)} (hf : f_X3_sort fu M P N = some res) :
    Met l yX3_sort usX3_sort ({ frames := 2, cells := 0, slots := 0, locals := 45 }) (va_Pc [.ref (ad 42)] (ws_B D tys nw (ww 46 ad (cellC cI cR ad M E P C N)))) (ct_Q D (ww 46 ad (cellC cI cR ad M E res C N)) (ww_A 46 ad) (none)) 0 0 (ww_A 46 ad) := by
  refine Met.ofW (cc := cX3_sort) (maxL := 4) (ret := none) (by decide) rfl ?_
  intro p e s m args below meth c s₁ B hml hv
  obtain ⟨rfl, hP, hK, hN⟩ := hv
  have hx := B.exec
  have hb := B.bytes
  have hr := B.returns
  have hts := atoms_spec (ws := usX3_sort) B.pre
  have hown : s.vm.findClass RX3 = some m.cls := findClass_of_methodNamed B.named
  have hlocks := B.notSynchronized
  have hS : va_S (ww_A 46 ad) s.heap s.heap [] := va_S.rf
  have hl := lv_entry ([.ref (ad 42)]) (n := 4) (Nat.le_of_ble_eq_true rfl)
  rw [lg_entry_eq]
  generalize (lg_sl ([.ref (ad 42)]) ++ List.replicate (4 - (lg_sl ([.ref (ad 42)])).length) Slot.unset).toArray = ls at hl ⊢
  have hl : lv_has ls 4 [(0, .ref (ad 42))] := hl
  have L28 : ∀ (x1 : Int32) (x2 : Fin 20) (k28 : Int32 → (Nat → Fin 20) → Option ((Nat → Fin 20))), (∀ (x3 : Int32) (P : Nat → Fin 20) (H : Heap) (locs : List Loc) (ls : Array Slot), va_P D vwCl (ww 46 ad (cellC cI cR ad M E P C N)) H → va_S (ww_A 46 ad) s.heap H locs → lv_has ls 4 [(0, .ref (ad 42)), (1, .int x1), (2, .ref (ra ad x2)), (3, .int x3)] →  k28 x3 P = some res → W p l e (headSpec usX3_sort { frames := 2, cells := 0, slots := 0, locals := 45 }).room s m [.ref (ad 42)].toArray below meth c H locs 0 0 (MQ below (ct_Q D (ww 46 ad (cellC cI cR ad M E res C N)) (ww_A 46 ad) (none)) [.ref (ad 42)].toArray s 0 0 (ww_A 46 ad)) (F0 m 67 ls [])) → ∀ (n : Nat) (x3 : Int32) (P : Nat → Fin 20) (H : Heap) (locs : List Loc) (ls : Array Slot), va_P D vwCl (ww 46 ad (cellC cI cR ad M E P C N)) H → va_S (ww_A 46 ad) s.heap H locs → lv_has ls 4 [(0, .ref (ad 42)), (1, .int x1), (2, .ref (ra ad x2)), (3, .int x3)] →  f_X3_sort_l28 k28 fu M N x1 x2 n x3 P = some res → W p l e (headSpec usX3_sort { frames := 2, cells := 0, slots := 0, locals := 45 }).room s m [.ref (ad 42)].toArray below meth c H locs 0 0 (MQ below (ct_Q D (ww 46 ad (cellC cI cR ad M E res C N)) (ww_A 46 ad) (none)) [.ref (ad 42)].toArray s 0 0 (ww_A 46 ad)) (F0 m 28 ls []) := by
    intro x1 x2 k28 hk_28 n
    induction n with
    | zero => intro x3 P H locs ls hP hS hl hf; rw [f_X3_sort_l28] at hf; cases hf
    | succ n ih =>
      intro x3 P H locs ls hP hS hl hf
      rw [f_X3_sort_l28] at hf
      refine lv_iload_n hx hb dX3_sort_28 rfl (lv_at hl 3 rfl) ?_
      refine lv_if_le (tgt := 67) hx hb dX3_sort_29 (by decide) (fun c4 => ?_) (fun c4 => ?_)
      · rw [if_pos c4] at hf
        exact hk_28 x3 P _ _ _ hP hS (lv_sub hl [0, 1, 2, 3] rfl) hf
      · rw [if_neg c4] at hf
        refine lv_aload_n hx hb dX3_sort_32 rfl (lv_at hl 2 rfl) ?_
        refine lv_aload_n hx hb dX3_sort_33 rfl (lv_at hl 0 rfl) ?_
        refine va_get (ci := 3) (v := .ref (ad 43)) (C := RX3) (T := TX3) (N := 8) hx hb hts (fun w h => BW_in (in_wsX30 w h)) hown hK hP 42 cc_spl rfl 0 (by decide) (hts (.fieldLink RX3 11 "NumberFieldFactors$Splitter" "parts" "[LNumberFieldFactors$Row;") (BW_in mw_143)) (fun _ h9 => h9) rfl dX3_sort_34 ?_
        refine lv_iload_n hx hb dX3_sort_37 rfl (lv_at hl 3 rfl) ?_
        refine lv_iconst (v := 1) hx hb dX3_sort_38 (by decide) ?_
        refine lv_isub hx hb dX3_sort_39 ?_
        by_cases b5 : (x3 - 1) < 0 ∨ 5 ≤ (x3 - 1).toNatClampNeg
        · rw [if_pos b5] at hf; cases hf
        rw [if_neg b5] at hf
        refine va_aldq hx hb hK hP 43 1 cc_parts htR b5 dX3_sort_40 ?_
        obtain ⟨u6, g7, hf⟩ := Option.bind_eq_some_iff.mp hf
        try dsimp only at hf
        refine ct_call (va_runV (As := [.ref (ra ad (P (x3 - 1).toNatClampNeg))]) (rest := []) ⟨hx, hb, hml, hown, hts⟩ (C_X2_isBefore l D tys nw hn hnw hj htI htR (res := u6) g7) (cwV 1 hts (gu_V mw_182 mw_183 mw_184 mw_50 mw_138) rfl rfl rfl (by decide +kernel) ⟨Nat.le_of_ble_eq_true rfl, Nat.le_of_ble_eq_true rfl⟩) (ct_preV hn hP hK hN (ci := 2) (k := (20 + (x2).val)) rfl (ra_lt x2) (cl_row x2)) rfl rfl hl.1 rfl (lv_room (Nat.le_of_ble_eq_true rfl)) dX3_sort_41 ⟨Nat.zero_le _, Nat.zero_le _⟩) hS (fun H locs hP hS => ?_)
        refine lv_if_eq (tgt := 67) hx hb dX3_sort_44 (by decide) (fun c8 => ?_) (fun c8 => ?_)
        · rw [if_pos c8] at hf
          exact hk_28 x3 P _ _ _ hP hS (lv_sub hl [0, 1, 2, 3] rfl) hf
        · rw [if_neg c8] at hf
          refine lv_aload_n hx hb dX3_sort_47 rfl (lv_at hl 0 rfl) ?_
          refine va_get (ci := 3) (v := .ref (ad 43)) (C := RX3) (T := TX3) (N := 8) hx hb hts (fun w h => BW_in (in_wsX30 w h)) hown hK hP 42 cc_spl rfl 0 (by decide) (hts (.fieldLink RX3 11 "NumberFieldFactors$Splitter" "parts" "[LNumberFieldFactors$Row;") (BW_in mw_143)) (fun _ h9 => h9) rfl dX3_sort_48 ?_
          refine lv_iload_n hx hb dX3_sort_51 rfl (lv_at hl 3 rfl) ?_
          refine lv_aload_n hx hb dX3_sort_52 rfl (lv_at hl 0 rfl) ?_
          refine va_get (ci := 3) (v := .ref (ad 43)) (C := RX3) (T := TX3) (N := 8) hx hb hts (fun w h => BW_in (in_wsX30 w h)) hown hK hP 42 cc_spl rfl 0 (by decide) (hts (.fieldLink RX3 11 "NumberFieldFactors$Splitter" "parts" "[LNumberFieldFactors$Row;") (BW_in mw_143)) (fun _ h9 => h9) rfl dX3_sort_53 ?_
          refine lv_iload_n hx hb dX3_sort_56 rfl (lv_at hl 3 rfl) ?_
          refine lv_iconst (v := 1) hx hb dX3_sort_57 (by decide) ?_
          refine lv_isub hx hb dX3_sort_58 ?_
          by_cases b9 : (x3 - 1) < 0 ∨ 5 ≤ (x3 - 1).toNatClampNeg
          · rw [if_pos b9] at hf; cases hf
          rw [if_neg b9] at hf
          refine va_aldq hx hb hK hP 43 1 cc_parts htR b9 dX3_sort_59 ?_
          by_cases b10 : x3 < 0 ∨ 5 ≤ (x3).toNatClampNeg
          · rw [if_pos b10] at hf; cases hf
          rw [if_neg b10] at hf
          refine va_astq hx hb hK hP (ww_D hj) hS 43 1 (20 + ((P (x3 - 1).toNatClampNeg)).val) 2 cc_parts htR (cc_row (P (x3 - 1).toNatClampNeg)) rfl b10 dX3_sort_60 (fun H locs hP hD hS => ?_)
          have hP := cs_P hP
          refine lv_iinc (v := x3 + (-1)) (lv' := [(3, .int (x3 + (-1))), (0, .ref (ad 42)), (1, .int x1), (2, .ref (ra ad x2))]) hx hb dX3_sort_61 hl (k := 3) rfl rfl (by decide) rfl (fun ls hl => ?_)
          refine lv_goto (tgt := 28) hx hb dX3_sort_64 (by decide) ?_
          exact ih (x3 + (-1)) (va_up P (x3).toNatClampNeg (P (x3 - 1).toNatClampNeg)) _ _ _ hP hS (lv_sub hl [1, 2, 3, 0] rfl) hf
  have L2 : ∀  (k2 : Int32 → (Nat → Fin 20) → Option ((Nat → Fin 20))), (∀ (x1 : Int32) (P : Nat → Fin 20) (H : Heap) (locs : List Loc) (ls : Array Slot), va_P D vwCl (ww 46 ad (cellC cI cR ad M E P C N)) H → va_S (ww_A 46 ad) s.heap H locs → lv_has ls 4 [(0, .ref (ad 42)), (1, .int x1)] →  k2 x1 P = some res → W p l e (headSpec usX3_sort { frames := 2, cells := 0, slots := 0, locals := 45 }).room s m [.ref (ad 42)].toArray below meth c H locs 0 0 (MQ below (ct_Q D (ww 46 ad (cellC cI cR ad M E res C N)) (ww_A 46 ad) (none)) [.ref (ad 42)].toArray s 0 0 (ww_A 46 ad)) (F0 m 80 ls [])) → ∀ (n : Nat) (x1 : Int32) (P : Nat → Fin 20) (H : Heap) (locs : List Loc) (ls : Array Slot), va_P D vwCl (ww 46 ad (cellC cI cR ad M E P C N)) H → va_S (ww_A 46 ad) s.heap H locs → lv_has ls 4 [(0, .ref (ad 42)), (1, .int x1)] →  f_X3_sort_l2 k2 fu M N n x1 P = some res → W p l e (headSpec usX3_sort { frames := 2, cells := 0, slots := 0, locals := 45 }).room s m [.ref (ad 42)].toArray below meth c H locs 0 0 (MQ below (ct_Q D (ww 46 ad (cellC cI cR ad M E res C N)) (ww_A 46 ad) (none)) [.ref (ad 42)].toArray s 0 0 (ww_A 46 ad)) (F0 m 2 ls []) := by
    intro  k2 hk_2 n
    induction n with
    | zero => intro x1 P H locs ls hP hS hl hf; rw [f_X3_sort_l2] at hf; cases hf
    | succ n ih =>
      intro x1 P H locs ls hP hS hl hf
      rw [f_X3_sort_l2] at hf
      refine lv_iload_n hx hb dX3_sort_2 rfl (lv_at hl 1 rfl) ?_
      refine lv_aload_n hx hb dX3_sort_3 rfl (lv_at hl 0 rfl) ?_
      refine va_get (ci := 3) (v := .int (N 0)) (C := RX3) (T := TX3) (N := 8) hx hb hts (fun w h => BW_in (in_wsX30 w h)) hown hK hP 42 cc_spl rfl 2 (by decide) (hts (.fieldLink RX3 21 "NumberFieldFactors$Splitter" "count" "I") (BW_in mw_145)) (fun _ h9 => h9) rfl dX3_sort_4 ?_
      refine lv_icmp_ge (tgt := 80) hx hb dX3_sort_7 (by decide) (fun c1 => ?_) (fun c1 => ?_)
      · rw [if_pos c1] at hf
        exact hk_2 x1 P _ _ _ hP hS (lv_sub hl [0, 1] rfl) hf
      · rw [if_neg c1] at hf
        refine lv_iload_n hx hb dX3_sort_10 rfl (lv_at hl 1 rfl) ?_
        refine lv_aload_n hx hb dX3_sort_11 rfl (lv_at hl 0 rfl) ?_
        refine va_get (ci := 3) (v := .ref (ad 43)) (C := RX3) (T := TX3) (N := 8) hx hb hts (fun w h => BW_in (in_wsX30 w h)) hown hK hP 42 cc_spl rfl 0 (by decide) (hts (.fieldLink RX3 11 "NumberFieldFactors$Splitter" "parts" "[LNumberFieldFactors$Row;") (BW_in mw_143)) (fun _ h9 => h9) rfl dX3_sort_12 ?_
        refine va_alen (v := 5) hx hb hK hP 43 1 cc_parts htR rfl dX3_sort_15 ?_
        refine lv_icmp_ge (tgt := 80) hx hb dX3_sort_16 (by decide) (fun c2 => ?_) (fun c2 => ?_)
        · rw [if_pos c2] at hf
          exact hk_2 x1 P _ _ _ hP hS (lv_sub hl [0, 1] rfl) hf
        · rw [if_neg c2] at hf
          refine lv_aload_n hx hb dX3_sort_19 rfl (lv_at hl 0 rfl) ?_
          refine va_get (ci := 3) (v := .ref (ad 43)) (C := RX3) (T := TX3) (N := 8) hx hb hts (fun w h => BW_in (in_wsX30 w h)) hown hK hP 42 cc_spl rfl 0 (by decide) (hts (.fieldLink RX3 11 "NumberFieldFactors$Splitter" "parts" "[LNumberFieldFactors$Row;") (BW_in mw_143)) (fun _ h9 => h9) rfl dX3_sort_20 ?_
          refine lv_iload_n hx hb dX3_sort_23 rfl (lv_at hl 1 rfl) ?_
          by_cases b3 : x1 < 0 ∨ 5 ≤ (x1).toNatClampNeg
          · rw [if_pos b3] at hf; cases hf
          rw [if_neg b3] at hf
          refine va_aldq hx hb hK hP 43 1 cc_parts htR b3 dX3_sort_24 ?_
          refine lv_astore_n (lv' := [(2, .ref (ra ad (P (x1).toNatClampNeg))), (0, .ref (ad 42)), (1, .int x1)]) hx hb dX3_sort_25 rfl hl (by decide) rfl (fun ls hl => ?_)
          refine lv_iload_n hx hb dX3_sort_26 rfl (lv_at hl 2 rfl) ?_
          refine lv_istore_n (lv' := [(3, .int x1), (2, .ref (ra ad (P (x1).toNatClampNeg))), (0, .ref (ad 42)), (1, .int x1)]) hx hb dX3_sort_27 rfl hl (by decide) rfl (fun ls hl => ?_)
          refine L28 x1 (P (x1).toNatClampNeg) _ (fun y11 P12 H locs ls hP hS hl hf => ?_) fu x1 P _ _ _ hP hS (lv_sub hl [2, 3, 1, 0] rfl) hf
          try dsimp only at hf
          refine lv_aload_n hx hb dX3_sort_67 rfl (lv_at hl 0 rfl) ?_
          refine va_get (ci := 3) (v := .ref (ad 43)) (C := RX3) (T := TX3) (N := 8) hx hb hts (fun w h => BW_in (in_wsX30 w h)) hown hK hP 42 cc_spl rfl 0 (by decide) (hts (.fieldLink RX3 11 "NumberFieldFactors$Splitter" "parts" "[LNumberFieldFactors$Row;") (BW_in mw_143)) (fun _ h9 => h9) rfl dX3_sort_68 ?_
          refine lv_iload_n hx hb dX3_sort_71 rfl (lv_at hl 3 rfl) ?_
          refine lv_aload_n hx hb dX3_sort_72 rfl (lv_at hl 2 rfl) ?_
          by_cases b13 : y11 < 0 ∨ 5 ≤ (y11).toNatClampNeg
          · rw [if_pos b13] at hf; cases hf
          rw [if_neg b13] at hf
          refine va_astq hx hb hK hP (ww_D hj) hS 43 1 (20 + ((P (x1).toNatClampNeg)).val) 2 cc_parts htR (cc_row (P (x1).toNatClampNeg)) rfl b13 dX3_sort_73 (fun H locs hP hD hS => ?_)
          have hP := cs_P hP
          refine lv_iinc (v := x1 + 1) (lv' := [(1, .int (x1 + 1)), (0, .ref (ad 42)), (2, .ref (ra ad (P (x1).toNatClampNeg))), (3, .int y11)]) hx hb dX3_sort_74 hl (k := 1) rfl rfl (by decide) rfl (fun ls hl => ?_)
          refine lv_goto (tgt := 2) hx hb dX3_sort_77 (by decide) ?_
          exact ih (x1 + 1) (va_up P12 (y11).toNatClampNeg (P (x1).toNatClampNeg)) _ _ _ hP hS (lv_sub hl [1, 0] rfl) hf
  unfold f_X3_sort at hf
  refine lv_iconst (v := 1) hx hb dX3_sort_0 (by decide) ?_
  refine lv_istore_n (lv' := [(1, .int 1), (0, .ref (ad 42))]) hx hb dX3_sort_1 rfl hl (by decide) rfl (fun ls hl => ?_)
  refine L2  _ (fun y14 P15 H locs ls hP hS hl hf => ?_) fu 1 P _ _ _ hP hS (lv_sub hl [1, 0] rfl) hf
  try dsimp only at hf
  obtain rfl := Option.some.inj hf
  exact W.vret hx hb hr (fun t ht hW => ⟨rfl, by rw [ht]; exact hP, hS.F ht⟩) hS.2.2 dX3_sort_80
def f_X3_countTimes_l37 (k37 : Int32 → (Fin 20 → Nat → Int32) → (Nat → Int32) → Option ((Fin 20 → Nat → Int32) × (Nat → Int32))) (fu : Nat) (E : Nat → Int32) (P : Nat → Fin 20) (N : Nat → Int32) (x2 : Fin 20) (x3 : Int32) : Nat → Int32 → (Fin 20 → Nat → Int32) → (Nat → Int32) → Option ((Fin 20 → Nat → Int32) × (Nat → Int32))
  | 0, _, _, _ => none
  | n + 1, x4, M, C =>
    if 5 < x4 then
      k37 x4 M C
    else
      (f_X3_part P x3).bind (fun u7 =>
      (f_X1_divide fu M E (12 : Fin 20) u7).bind (fun u9 =>
      (f_X2_degree fu u9 (12 : Fin 20)).bind (fun u11 =>
      if u11 < 0 then
        if x3 < 0 ∨ 5 ≤ (x3).toNatClampNeg then none else
        if x3 < 0 ∨ 5 ≤ (x3).toNatClampNeg then none else
        (f_X2_copy fu u9 (12 : Fin 20) (2 : Fin 20)).bind (fun u16 =>
        f_X3_countTimes_l37 k37 fu E P N x2 x3 n (x4 + 1) u16 (upd C (x3).toNatClampNeg ((C (x3).toNatClampNeg) + 1)))
      else
        k37 x4 u9 C)))
def f_X3_countTimes_l2 (k2 : Int32 → (Fin 20 → Nat → Int32) → (Nat → Int32) → Option ((Fin 20 → Nat → Int32) × (Nat → Int32))) (fu : Nat) (E : Nat → Int32) (P : Nat → Fin 20) (N : Nat → Int32) (x2 : Fin 20) : Nat → Int32 → (Fin 20 → Nat → Int32) → (Nat → Int32) → Option ((Fin 20 → Nat → Int32) × (Nat → Int32))
  | 0, _, _, _ => none
  | n + 1, x3, M, C =>
    if (N 0) ≤ x3 then
      k2 x3 M C
    else
      if 5 ≤ x3 then
        k2 x3 M C
      else
        if x3 < 0 ∨ 5 ≤ (x3).toNatClampNeg then none else
        (f_X2_copy fu M (12 : Fin 20) x2).bind (fun u4 =>
        f_X3_countTimes_l37 (fun y18 M19 C20 =>
          f_X3_countTimes_l2 k2 fu E P N x2 n (x3 + 1) M19 C20) fu E P N x2 x3 fu 0 u4 (upd C (x3).toNatClampNeg 0))
def f_X3_countTimes (fu : Nat) (M : Fin 20 → Nat → Int32) (E : Nat → Int32) (P : Nat → Fin 20) (C : Nat → Int32) (N : Nat → Int32) (p1 : Fin 20) : Option ((Fin 20 → Nat → Int32) × (Nat → Int32)) :=
  f_X3_countTimes_l2 (fun y21 M22 C23 =>
    some (M22, C23)) fu E P N p1 fu 0 M C
set_option maxHeartbeats 4000000 in
set_option maxRecDepth 100000 in
theorem C_X3_countTimes (l : Launch) (D : va_G) (tys : List (ClassId × FieldType)) (nw : List Cond) (hn : nw.all nw_kind = true) (hnw : ∀ w ∈ nw0, w ∈ nw) {ad : Nat → Nat} (hj : ww_inj 46 ad) {cI : ClassId} {cR : ClassId} (htI : tys[0]? = some (cI, .int)) (htR : tys[1]? = some (cR, .object RX2)) {fu : Nat} {M : Fin 20 → Nat → Int32} {E : Nat → Int32} {P : Nat → Fin 20} {C : Nat → Int32} {N : Nat → Int32} {p1 : Fin 20} {res : (Fin 20 → Nat → Int32) × (Nat → Int32)} (hf : f_X3_countTimes fu M E P C N p1 = some res) :
    Met l yX3_countTimes usX3_countTimes ({ frames := 2, cells := 0, slots := 0, locals := 61 }) (va_Pc [.ref (ad 42), .ref (ad 41), .ref (ra ad p1)] (ws_B D tys nw (ww 46 ad (cellC cI cR ad M E P C N)))) (ct_Q D (ww 46 ad (cellC cI cR ad res.1 E P res.2 N)) (ww_A 46 ad) (none)) 0 0 (ww_A 46 ad) := by
  refine Met.ofW (cc := cX3_countTimes) (maxL := 5) (ret := none) (by decide) rfl ?_
  intro p e s m args below meth c s₁ B hml hv
  obtain ⟨rfl, hP, hK, hN⟩ := hv
  have hx := B.exec
  have hb := B.bytes
  have hr := B.returns
  have hts := atoms_spec (ws := usX3_countTimes) B.pre
  have hown : s.vm.findClass RX3 = some m.cls := findClass_of_methodNamed B.named
  have hlocks := B.notSynchronized
  have hS : va_S (ww_A 46 ad) s.heap s.heap [] := va_S.rf
  have hl := lv_entry ([.ref (ad 42), .ref (ad 41), .ref (ra ad p1)]) (n := 5) (Nat.le_of_ble_eq_true rfl)
  rw [lg_entry_eq]
  generalize (lg_sl ([.ref (ad 42), .ref (ad 41), .ref (ra ad p1)]) ++ List.replicate (5 - (lg_sl ([.ref (ad 42), .ref (ad 41), .ref (ra ad p1)])).length) Slot.unset).toArray = ls at hl ⊢
  have hl : lv_has ls 5 [(0, .ref (ad 42)), (1, .ref (ad 41)), (2, .ref (ra ad p1))] := hl
  have L37 : ∀ (x2 : Fin 20) (x3 : Int32) (k37 : Int32 → (Fin 20 → Nat → Int32) → (Nat → Int32) → Option ((Fin 20 → Nat → Int32) × (Nat → Int32))), (∀ (x4 : Int32) (M : Fin 20 → Nat → Int32) (C : Nat → Int32) (H : Heap) (locs : List Loc) (ls : Array Slot), va_P D vwCl (ww 46 ad (cellC cI cR ad M E P C N)) H → va_S (ww_A 46 ad) s.heap H locs → lv_has ls 5 [(0, .ref (ad 42)), (1, .ref (ad 41)), (2, .ref (ra ad x2)), (3, .int x3), (4, .int x4)] →  k37 x4 M C = some res → W p l e (headSpec usX3_countTimes { frames := 2, cells := 0, slots := 0, locals := 61 }).room s m [.ref (ad 42), .ref (ad 41), .ref (ra ad p1)].toArray below meth c H locs 0 0 (MQ below (ct_Q D (ww 46 ad (cellC cI cR ad res.1 E P res.2 N)) (ww_A 46 ad) (none)) [.ref (ad 42), .ref (ad 41), .ref (ra ad p1)].toArray s 0 0 (ww_A 46 ad)) (F0 m 96 ls [])) → ∀ (n : Nat) (x4 : Int32) (M : Fin 20 → Nat → Int32) (C : Nat → Int32) (H : Heap) (locs : List Loc) (ls : Array Slot), va_P D vwCl (ww 46 ad (cellC cI cR ad M E P C N)) H → va_S (ww_A 46 ad) s.heap H locs → lv_has ls 5 [(0, .ref (ad 42)), (1, .ref (ad 41)), (2, .ref (ra ad x2)), (3, .int x3), (4, .int x4)] →  f_X3_countTimes_l37 k37 fu E P N x2 x3 n x4 M C = some res → W p l e (headSpec usX3_countTimes { frames := 2, cells := 0, slots := 0, locals := 61 }).room s m [.ref (ad 42), .ref (ad 41), .ref (ra ad p1)].toArray below meth c H locs 0 0 (MQ below (ct_Q D (ww 46 ad (cellC cI cR ad res.1 E P res.2 N)) (ww_A 46 ad) (none)) [.ref (ad 42), .ref (ad 41), .ref (ra ad p1)].toArray s 0 0 (ww_A 46 ad)) (F0 m 37 ls []) := by
    intro x2 x3 k37 hk_37 n
    induction n with
    | zero => intro x4 M C H locs ls hP hS hl hf; rw [f_X3_countTimes_l37] at hf; cases hf
    | succ n ih =>
      intro x4 M C H locs ls hP hS hl hf
      rw [f_X3_countTimes_l37] at hf
      refine lv_iload hx hb dX3_countTimes_37 (lv_at hl 4 rfl) ?_
      refine lv_iconst (v := 5) hx hb dX3_countTimes_39 (by decide) ?_
      refine lv_icmp_gt (tgt := 96) hx hb dX3_countTimes_40 (by decide) (fun c6 => ?_) (fun c6 => ?_)
      · rw [if_pos c6] at hf
        exact hk_37 x4 M C _ _ _ hP hS (lv_sub hl [0, 1, 2, 3, 4] rfl) hf
      · rw [if_neg c6] at hf
        refine lv_aload_n hx hb dX3_countTimes_43 rfl (lv_at hl 1 rfl) ?_
        refine lv_aload_n hx hb dX3_countTimes_44 rfl (lv_at hl 0 rfl) ?_
        refine va_get (ci := 3) (v := .ref (ra ad (12 : Fin 20))) (C := RX3) (T := TX3) (N := 8) hx hb hts (fun w h => BW_in (in_wsX30 w h)) hown hK hP 42 cc_spl rfl 5 (by decide) (hts (.fieldLink RX3 34 "NumberFieldFactors$Splitter" "rest" "LNumberFieldFactors$Row;") (BW_in mw_148)) (fun _ h9 => h9) rfl dX3_countTimes_45 ?_
        refine lv_aload_n hx hb dX3_countTimes_48 rfl (lv_at hl 0 rfl) ?_
        refine lv_iload_n hx hb dX3_countTimes_49 rfl (lv_at hl 3 rfl) ?_
        obtain ⟨u7, g8, hf⟩ := Option.bind_eq_some_iff.mp hf
        try dsimp only at hf
        refine ct_call (va_runV (As := [.int x3]) (rest := [.ref (ra ad (12 : Fin 20)), .ref (ad 41)]) ⟨hx, hb, hml, hown, hts⟩ (C_X3_part l D tys nw hn hnw hj htI htR (res := u7) g8) (cwV 1 hts (gu_V mw_155 mw_156 mw_157 mw_158 mw_152) rfl rfl rfl (by decide +kernel) ⟨Nat.le_of_ble_eq_true rfl, Nat.le_of_ble_eq_true rfl⟩) (ct_preV hn hP hK hN (ci := 3) (k := 42) rfl (by decide) rfl) rfl rfl hl.1 rfl (lv_room (Nat.le_of_ble_eq_true rfl)) dX3_countTimes_50 ⟨Nat.zero_le _, Nat.zero_le _⟩) hS (fun H locs hP hS => ?_)
        obtain ⟨u9, g10, hf⟩ := Option.bind_eq_some_iff.mp hf
        try dsimp only at hf
        refine ct_call (va_runV (As := [.ref (ra ad (12 : Fin 20)), .ref (ra ad u7)]) (rest := []) ⟨hx, hb, hml, hown, hts⟩ (C_X1_divide l D tys nw hn hnw hj htI htR (res := u9) g10) (cwV 2 hts (gu_V mw_161 mw_102 mw_103 mw_100 mw_94) rfl rfl rfl (by decide +kernel) ⟨Nat.le_of_ble_eq_true rfl, Nat.le_of_ble_eq_true rfl⟩) (ct_preV hn hP hK hN (ci := 1) (k := 41) rfl (by decide) rfl) rfl rfl hl.1 rfl (lv_room (Nat.le_of_ble_eq_true rfl)) dX3_countTimes_53 ⟨Nat.zero_le _, Nat.zero_le _⟩) hS (fun H locs hP hS => ?_)
        refine lv_aload_n hx hb dX3_countTimes_56 rfl (lv_at hl 0 rfl) ?_
        refine va_get (ci := 3) (v := .ref (ra ad (12 : Fin 20))) (C := RX3) (T := TX3) (N := 8) hx hb hts (fun w h => BW_in (in_wsX30 w h)) hown hK hP 42 cc_spl rfl 5 (by decide) (hts (.fieldLink RX3 34 "NumberFieldFactors$Splitter" "rest" "LNumberFieldFactors$Row;") (BW_in mw_148)) (fun _ h9 => h9) rfl dX3_countTimes_57 ?_
        obtain ⟨u11, g12, hf⟩ := Option.bind_eq_some_iff.mp hf
        try dsimp only at hf
        refine ct_call (va_runV (As := []) (rest := []) ⟨hx, hb, hml, hown, hts⟩ (C_X2_degree l D tys nw hn hnw hj htI htR (res := u11) g12) (cwV 0 hts (gu_V mw_159 mw_68 mw_69 mw_50 mw_64) rfl rfl rfl (by decide +kernel) ⟨Nat.le_of_ble_eq_true rfl, Nat.le_of_ble_eq_true rfl⟩) (ct_preV hn hP hK hN (ci := 2) (k := (20 + ((12 : Fin 20)).val)) rfl (ra_lt (12 : Fin 20)) (cl_row (12 : Fin 20))) rfl rfl hl.1 rfl (lv_room (Nat.le_of_ble_eq_true rfl)) dX3_countTimes_60 ⟨Nat.zero_le _, Nat.zero_le _⟩) hS (fun H locs hP hS => ?_)
        refine lv_if_lt (tgt := 69) hx hb dX3_countTimes_63 (by decide) (fun c13 => ?_) (fun c13 => ?_)
        · rw [if_pos c13] at hf
          refine lv_aload_n hx hb dX3_countTimes_69 rfl (lv_at hl 0 rfl) ?_
          refine va_get (ci := 3) (v := .ref (ad 44)) (C := RX3) (T := TX3) (N := 8) hx hb hts (fun w h => BW_in (in_wsX30 w h)) hown hK hP 42 cc_spl rfl 1 (by decide) (hts (.fieldLink RX3 17 "NumberFieldFactors$Splitter" "counts" "[I") (BW_in mw_144)) (fun _ h9 => h9) rfl dX3_countTimes_70 ?_
          refine lv_iload_n hx hb dX3_countTimes_73 rfl (lv_at hl 3 rfl) ?_
          refine lv_dup2_11 hx hb dX3_countTimes_74 rfl rfl ?_
          by_cases b14 : x3 < 0 ∨ 5 ≤ (x3).toNatClampNeg
          · rw [if_pos b14] at hf; cases hf
          rw [if_neg b14] at hf
          refine va_iald hx hb hK hP 44 0 cc_counts htI b14 dX3_countTimes_75 ?_
          refine lv_iconst (v := 1) hx hb dX3_countTimes_76 (by decide) ?_
          refine lv_iadd hx hb dX3_countTimes_77 ?_
          by_cases b15 : x3 < 0 ∨ 5 ≤ (x3).toNatClampNeg
          · rw [if_pos b15] at hf; cases hf
          rw [if_neg b15] at hf
          refine va_iast hx hb hK hP (ww_D hj) hS 44 0 cc_counts htI b15 dX3_countTimes_78 (fun H locs hP hD hS => ?_)
          have hP := cs_C hP
          refine lv_aload_n hx hb dX3_countTimes_79 rfl (lv_at hl 0 rfl) ?_
          refine va_get (ci := 3) (v := .ref (ra ad (12 : Fin 20))) (C := RX3) (T := TX3) (N := 8) hx hb hts (fun w h => BW_in (in_wsX30 w h)) hown hK hP 42 cc_spl rfl 5 (by decide) (hts (.fieldLink RX3 34 "NumberFieldFactors$Splitter" "rest" "LNumberFieldFactors$Row;") (BW_in mw_148)) (fun _ h9 => h9) rfl dX3_countTimes_80 ?_
          refine lv_aload_n hx hb dX3_countTimes_83 rfl (lv_at hl 1 rfl) ?_
          refine va_getN (ci := 1) (v := .ref (ra ad (2 : Fin 20))) (C := RX1) (T := TX1) (N := 11) (host := "NumberFieldFactors") hx hb hts (fun w h => BW_in (in_wsX10 w h)) hown hK hP 41 cc_ring rfl 2 (by decide) (va_Nw.use rfl (hN (.fieldLinkNest RX3 85 "NumberFieldFactors$Ring" "quotient" "LNumberFieldFactors$Row;" "NumberFieldFactors") (hnw _ (by decide +kernel)))) (fun _ h9 => h9) rfl dX3_countTimes_84 ?_
          obtain ⟨u16, g17, hf⟩ := Option.bind_eq_some_iff.mp hf
          try dsimp only at hf
          refine ct_call (va_runV (As := [.ref (ra ad (2 : Fin 20))]) (rest := []) ⟨hx, hb, hml, hown, hts⟩ (C_X2_copy l D tys nw hn hnw hj htI htR (res := u16) g17) (cwV 1 hts (gu_V mw_160 mw_87 mw_88 mw_50 mw_81) rfl rfl rfl (by decide +kernel) ⟨Nat.le_of_ble_eq_true rfl, Nat.le_of_ble_eq_true rfl⟩) (ct_preV hn hP hK hN (ci := 2) (k := (20 + ((12 : Fin 20)).val)) rfl (ra_lt (12 : Fin 20)) (cl_row (12 : Fin 20))) rfl rfl hl.1 rfl (lv_room (Nat.le_of_ble_eq_true rfl)) dX3_countTimes_87 ⟨Nat.zero_le _, Nat.zero_le _⟩) hS (fun H locs hP hS => ?_)
          refine lv_iinc (v := x4 + 1) (lv' := [(4, .int (x4 + 1)), (0, .ref (ad 42)), (1, .ref (ad 41)), (2, .ref (ra ad x2)), (3, .int x3)]) hx hb dX3_countTimes_90 hl (k := 4) rfl rfl (by decide) rfl (fun ls hl => ?_)
          refine lv_goto (tgt := 37) hx hb dX3_countTimes_93 (by decide) ?_
          exact ih (x4 + 1) u16 (upd C (x3).toNatClampNeg ((C (x3).toNatClampNeg) + 1)) _ _ _ hP hS (lv_sub hl [1, 2, 3, 4, 0] rfl) hf
        · rw [if_neg c13] at hf
          refine lv_goto (tgt := 96) hx hb dX3_countTimes_66 (by decide) ?_
          exact hk_37 x4 u9 C _ _ _ hP hS (lv_sub hl [0, 1, 2, 3, 4] rfl) hf
  have L2 : ∀ (x2 : Fin 20) (k2 : Int32 → (Fin 20 → Nat → Int32) → (Nat → Int32) → Option ((Fin 20 → Nat → Int32) × (Nat → Int32))), (∀ (x3 : Int32) (M : Fin 20 → Nat → Int32) (C : Nat → Int32) (H : Heap) (locs : List Loc) (ls : Array Slot), va_P D vwCl (ww 46 ad (cellC cI cR ad M E P C N)) H → va_S (ww_A 46 ad) s.heap H locs → lv_has ls 5 [(0, .ref (ad 42)), (1, .ref (ad 41)), (2, .ref (ra ad x2)), (3, .int x3)] →  k2 x3 M C = some res → W p l e (headSpec usX3_countTimes { frames := 2, cells := 0, slots := 0, locals := 61 }).room s m [.ref (ad 42), .ref (ad 41), .ref (ra ad p1)].toArray below meth c H locs 0 0 (MQ below (ct_Q D (ww 46 ad (cellC cI cR ad res.1 E P res.2 N)) (ww_A 46 ad) (none)) [.ref (ad 42), .ref (ad 41), .ref (ra ad p1)].toArray s 0 0 (ww_A 46 ad)) (F0 m 102 ls [])) → ∀ (n : Nat) (x3 : Int32) (M : Fin 20 → Nat → Int32) (C : Nat → Int32) (H : Heap) (locs : List Loc) (ls : Array Slot), va_P D vwCl (ww 46 ad (cellC cI cR ad M E P C N)) H → va_S (ww_A 46 ad) s.heap H locs → lv_has ls 5 [(0, .ref (ad 42)), (1, .ref (ad 41)), (2, .ref (ra ad x2)), (3, .int x3)] →  f_X3_countTimes_l2 k2 fu E P N x2 n x3 M C = some res → W p l e (headSpec usX3_countTimes { frames := 2, cells := 0, slots := 0, locals := 61 }).room s m [.ref (ad 42), .ref (ad 41), .ref (ra ad p1)].toArray below meth c H locs 0 0 (MQ below (ct_Q D (ww 46 ad (cellC cI cR ad res.1 E P res.2 N)) (ww_A 46 ad) (none)) [.ref (ad 42), .ref (ad 41), .ref (ra ad p1)].toArray s 0 0 (ww_A 46 ad)) (F0 m 2 ls []) := by
    intro x2 k2 hk_2 n
    induction n with
    | zero => intro x3 M C H locs ls hP hS hl hf; rw [f_X3_countTimes_l2] at hf; cases hf
    | succ n ih =>
      intro x3 M C H locs ls hP hS hl hf
      rw [f_X3_countTimes_l2] at hf
      refine lv_iload_n hx hb dX3_countTimes_2 rfl (lv_at hl 3 rfl) ?_
      refine lv_aload_n hx hb dX3_countTimes_3 rfl (lv_at hl 0 rfl) ?_
      refine va_get (ci := 3) (v := .int (N 0)) (C := RX3) (T := TX3) (N := 8) hx hb hts (fun w h => BW_in (in_wsX30 w h)) hown hK hP 42 cc_spl rfl 2 (by decide) (hts (.fieldLink RX3 21 "NumberFieldFactors$Splitter" "count" "I") (BW_in mw_145)) (fun _ h9 => h9) rfl dX3_countTimes_4 ?_
      refine lv_icmp_ge (tgt := 102) hx hb dX3_countTimes_7 (by decide) (fun c1 => ?_) (fun c1 => ?_)
      · rw [if_pos c1] at hf
        exact hk_2 x3 M C _ _ _ hP hS (lv_sub hl [0, 1, 2, 3] rfl) hf
      · rw [if_neg c1] at hf
        refine lv_iload_n hx hb dX3_countTimes_10 rfl (lv_at hl 3 rfl) ?_
        refine lv_aload_n hx hb dX3_countTimes_11 rfl (lv_at hl 0 rfl) ?_
        refine va_get (ci := 3) (v := .ref (ad 44)) (C := RX3) (T := TX3) (N := 8) hx hb hts (fun w h => BW_in (in_wsX30 w h)) hown hK hP 42 cc_spl rfl 1 (by decide) (hts (.fieldLink RX3 17 "NumberFieldFactors$Splitter" "counts" "[I") (BW_in mw_144)) (fun _ h9 => h9) rfl dX3_countTimes_12 ?_
        refine va_alen (v := 5) hx hb hK hP 44 0 cc_counts htI rfl dX3_countTimes_15 ?_
        refine lv_icmp_ge (tgt := 102) hx hb dX3_countTimes_16 (by decide) (fun c2 => ?_) (fun c2 => ?_)
        · rw [if_pos c2] at hf
          exact hk_2 x3 M C _ _ _ hP hS (lv_sub hl [0, 1, 2, 3] rfl) hf
        · rw [if_neg c2] at hf
          refine lv_aload_n hx hb dX3_countTimes_19 rfl (lv_at hl 0 rfl) ?_
          refine va_get (ci := 3) (v := .ref (ad 44)) (C := RX3) (T := TX3) (N := 8) hx hb hts (fun w h => BW_in (in_wsX30 w h)) hown hK hP 42 cc_spl rfl 1 (by decide) (hts (.fieldLink RX3 17 "NumberFieldFactors$Splitter" "counts" "[I") (BW_in mw_144)) (fun _ h9 => h9) rfl dX3_countTimes_20 ?_
          refine lv_iload_n hx hb dX3_countTimes_23 rfl (lv_at hl 3 rfl) ?_
          refine lv_iconst (v := 0) hx hb dX3_countTimes_24 (by decide) ?_
          by_cases b3 : x3 < 0 ∨ 5 ≤ (x3).toNatClampNeg
          · rw [if_pos b3] at hf; cases hf
          rw [if_neg b3] at hf
          refine va_iast hx hb hK hP (ww_D hj) hS 44 0 cc_counts htI b3 dX3_countTimes_25 (fun H locs hP hD hS => ?_)
          have hP := cs_C hP
          refine lv_aload_n hx hb dX3_countTimes_26 rfl (lv_at hl 0 rfl) ?_
          refine va_get (ci := 3) (v := .ref (ra ad (12 : Fin 20))) (C := RX3) (T := TX3) (N := 8) hx hb hts (fun w h => BW_in (in_wsX30 w h)) hown hK hP 42 cc_spl rfl 5 (by decide) (hts (.fieldLink RX3 34 "NumberFieldFactors$Splitter" "rest" "LNumberFieldFactors$Row;") (BW_in mw_148)) (fun _ h9 => h9) rfl dX3_countTimes_27 ?_
          refine lv_aload_n hx hb dX3_countTimes_30 rfl (lv_at hl 2 rfl) ?_
          obtain ⟨u4, g5, hf⟩ := Option.bind_eq_some_iff.mp hf
          try dsimp only at hf
          refine ct_call (va_runV (As := [.ref (ra ad x2)]) (rest := []) ⟨hx, hb, hml, hown, hts⟩ (C_X2_copy l D tys nw hn hnw hj htI htR (res := u4) g5) (cwV 1 hts (gu_V mw_160 mw_87 mw_88 mw_50 mw_81) rfl rfl rfl (by decide +kernel) ⟨Nat.le_of_ble_eq_true rfl, Nat.le_of_ble_eq_true rfl⟩) (ct_preV hn hP hK hN (ci := 2) (k := (20 + ((12 : Fin 20)).val)) rfl (ra_lt (12 : Fin 20)) (cl_row (12 : Fin 20))) rfl rfl hl.1 rfl (lv_room (Nat.le_of_ble_eq_true rfl)) dX3_countTimes_31 ⟨Nat.zero_le _, Nat.zero_le _⟩) hS (fun H locs hP hS => ?_)
          refine lv_iconst (v := 0) hx hb dX3_countTimes_34 (by decide) ?_
          refine lv_istore (lv' := [(4, .int 0), (0, .ref (ad 42)), (1, .ref (ad 41)), (2, .ref (ra ad x2)), (3, .int x3)]) hx hb dX3_countTimes_35 hl (by decide) rfl (fun ls hl => ?_)
          refine L37 x2 x3 _ (fun y18 M19 C20 H locs ls hP hS hl hf => ?_) fu 0 u4 (upd C (x3).toNatClampNeg 0) _ _ _ hP hS (lv_sub hl [1, 2, 3, 4, 0] rfl) hf
          try dsimp only at hf
          refine lv_iinc (v := x3 + 1) (lv' := [(3, .int (x3 + 1)), (0, .ref (ad 42)), (1, .ref (ad 41)), (2, .ref (ra ad x2)), (4, .int y18)]) hx hb dX3_countTimes_96 hl (k := 3) rfl rfl (by decide) rfl (fun ls hl => ?_)
          refine lv_goto (tgt := 2) hx hb dX3_countTimes_99 (by decide) ?_
          exact ih (x3 + 1) M19 C20 _ _ _ hP hS (lv_sub hl [1, 2, 3, 0] rfl) hf
  unfold f_X3_countTimes at hf
  refine lv_iconst (v := 0) hx hb dX3_countTimes_0 (by decide) ?_
  refine lv_istore_n (lv' := [(3, .int 0), (0, .ref (ad 42)), (1, .ref (ad 41)), (2, .ref (ra ad p1))]) hx hb dX3_countTimes_1 rfl hl (by decide) rfl (fun ls hl => ?_)
  refine L2 p1 _ (fun y21 M22 C23 H locs ls hP hS hl hf => ?_) fu 0 M C _ _ _ hP hS (lv_sub hl [1, 2, 3, 0] rfl) hf
  try dsimp only at hf
  obtain rfl := Option.some.inj hf
  exact W.vret hx hb hr (fun t ht hW => ⟨rfl, by rw [ht]; exact hP, hS.F ht⟩) hS.2.2 dX3_countTimes_102
def f_X3_find_l41 (k41 : Int32 → (Fin 20 → Nat → Int32) → (Nat → Int32) → Option ((Fin 20 → Nat → Int32) × (Nat → Fin 20) × (Nat → Int32) × (Nat → Int32))) (fu : Nat) (E : Nat → Int32) (P : Nat → Fin 20) (C : Nat → Int32) (x2 : Fin 20) : Nat → Int32 → (Fin 20 → Nat → Int32) → (Nat → Int32) → Option ((Fin 20 → Nat → Int32) × (Nat → Fin 20) × (Nat → Int32) × (Nat → Int32))
  | 0, _, _, _ => none
  | n + 1, x3, M, N =>
    if 5 < x3 then
      k41 x3 M N
    else
      (f_X2_degree fu M (12 : Fin 20)).bind (fun u9 =>
      if u9 < (2 * x3) then
        k41 x3 M N
      else
        nm (N 0) (fun v12 =>
        (f_X3_collect fu M E P N x3).bind (fun u13 =>
        (f_X3_separate fu u13.1 E P u13.2 v12 x3).bind (fun u15 =>
        f_X3_find_l41 k41 fu E P C x2 n (x3 + 1) u15.1 u15.2))))
def f_X3_find (fu : Nat) (M : Fin 20 → Nat → Int32) (E : Nat → Int32) (P : Nat → Fin 20) (C : Nat → Int32) (N : Nat → Int32) (p1 : Fin 20) : Option ((Fin 20 → Nat → Int32) × (Nat → Fin 20) × (Nat → Int32) × (Nat → Int32)) :=
  if (N 1) = 0 then
    (f_X1_findSquares fu M E p1 (14 : Fin 20)).bind (fun u2 =>
    (f_X3_keepRoot fu u2 E p1).bind (fun u4 =>
    (f_X2_copy fu u4 (12 : Fin 20) (11 : Fin 20)).bind (fun u6 =>
    f_X3_find_l41 (fun y17 M18 N19 =>
      (f_X2_degree fu M18 (12 : Fin 20)).bind (fun u20 =>
      ((
        if u20 ≤ 0 then
          some (M18, N19)
        else
          (f_X3_add fu M18 P N19 (12 : Fin 20)).bind (fun u24 =>
          some (u24.1, u24.2)) : Option ((Fin 20 → Nat → Int32) × (Nat → Int32)))).bind (fun w22 =>
      (f_X3_sort fu w22.1 P w22.2).bind (fun u26 =>
      (f_X3_countTimes fu w22.1 E u26 C w22.2 p1).bind (fun u28 =>
      some (u28.1, u26, u28.2, va_up w22.2 1 1)))))) fu E P C p1 fu 1 u6 (va_up N 0 0))))
  else
    some (M, P, C, N)
set_option maxHeartbeats 4000000 in
set_option maxRecDepth 100000 in
theorem C_X3_find (l : Launch) (D : va_G) (tys : List (ClassId × FieldType)) (nw : List Cond) (hn : nw.all nw_kind = true) (hnw : ∀ w ∈ nw0, w ∈ nw) {ad : Nat → Nat} (hj : ww_inj 46 ad) {cI : ClassId} {cR : ClassId} (htI : tys[0]? = some (cI, .int)) (htR : tys[1]? = some (cR, .object RX2)) {fu : Nat} {M : Fin 20 → Nat → Int32} {E : Nat → Int32} {P : Nat → Fin 20} {C : Nat → Int32} {N : Nat → Int32} {p1 : Fin 20} {res : (Fin 20 → Nat → Int32) × (Nat → Fin 20) × (Nat → Int32) × (Nat → Int32)} (hf : f_X3_find fu M E P C N p1 = some res) :
    Met l yX3_find usX3_find ({ frames := 5, cells := 0, slots := 0, locals := 143 }) (va_Pc [.ref (ad 42), .ref (ad 41), .ref (ra ad p1)] (ws_B D tys nw (ww 46 ad (cellC cI cR ad M E P C N)))) (ct_Q D (ww 46 ad (cellC cI cR ad res.1 E res.2.1 res.2.2.1 res.2.2.2)) (ww_A 46 ad) (none)) 0 0 (ww_A 46 ad) := by
  refine Met.ofW (cc := cX3_find) (maxL := 5) (ret := none) (by decide) rfl ?_
  intro p e s m args below meth c s₁ B hml hv
  obtain ⟨rfl, hP, hK, hN⟩ := hv
  have hx := B.exec
  have hb := B.bytes
  have hr := B.returns
  have hts := atoms_spec (ws := usX3_find) B.pre
  have hown : s.vm.findClass RX3 = some m.cls := findClass_of_methodNamed B.named
  have hlocks := B.notSynchronized
  have hS : va_S (ww_A 46 ad) s.heap s.heap [] := va_S.rf
  have hl := lv_entry ([.ref (ad 42), .ref (ad 41), .ref (ra ad p1)]) (n := 5) (Nat.le_of_ble_eq_true rfl)
  rw [lg_entry_eq]
  generalize (lg_sl ([.ref (ad 42), .ref (ad 41), .ref (ra ad p1)]) ++ List.replicate (5 - (lg_sl ([.ref (ad 42), .ref (ad 41), .ref (ra ad p1)])).length) Slot.unset).toArray = ls at hl ⊢
  have hl : lv_has ls 5 [(0, .ref (ad 42)), (1, .ref (ad 41)), (2, .ref (ra ad p1))] := hl
  have L41 : ∀ (P : Nat → Fin 20) (C : Nat → Int32) (x2 : Fin 20) (k41 : Int32 → (Fin 20 → Nat → Int32) → (Nat → Int32) → Option ((Fin 20 → Nat → Int32) × (Nat → Fin 20) × (Nat → Int32) × (Nat → Int32))), (∀ (x3 : Int32) (M : Fin 20 → Nat → Int32) (N : Nat → Int32) (H : Heap) (locs : List Loc) (ls : Array Slot), va_P D vwCl (ww 46 ad (cellC cI cR ad M E P C N)) H → va_S (ww_A 46 ad) s.heap H locs → lv_has ls 5 [(0, .ref (ad 42)), (1, .ref (ad 41)), (2, .ref (ra ad x2)), (3, .int x3)] →  k41 x3 M N = some res → W p l e (headSpec usX3_find { frames := 5, cells := 0, slots := 0, locals := 143 }).room s m [.ref (ad 42), .ref (ad 41), .ref (ra ad p1)].toArray below meth c H locs 0 0 (MQ below (ct_Q D (ww 46 ad (cellC cI cR ad res.1 E res.2.1 res.2.2.1 res.2.2.2)) (ww_A 46 ad) (none)) [.ref (ad 42), .ref (ad 41), .ref (ra ad p1)].toArray s 0 0 (ww_A 46 ad)) (F0 m 85 ls [])) → ∀ (n : Nat) (x3 : Int32) (M : Fin 20 → Nat → Int32) (N : Nat → Int32) (H : Heap) (locs : List Loc) (ls : Array Slot), va_P D vwCl (ww 46 ad (cellC cI cR ad M E P C N)) H → va_S (ww_A 46 ad) s.heap H locs → lv_has ls 5 [(0, .ref (ad 42)), (1, .ref (ad 41)), (2, .ref (ra ad x2)), (3, .int x3)] →  f_X3_find_l41 k41 fu E P C x2 n x3 M N = some res → W p l e (headSpec usX3_find { frames := 5, cells := 0, slots := 0, locals := 143 }).room s m [.ref (ad 42), .ref (ad 41), .ref (ra ad p1)].toArray below meth c H locs 0 0 (MQ below (ct_Q D (ww 46 ad (cellC cI cR ad res.1 E res.2.1 res.2.2.1 res.2.2.2)) (ww_A 46 ad) (none)) [.ref (ad 42), .ref (ad 41), .ref (ra ad p1)].toArray s 0 0 (ww_A 46 ad)) (F0 m 41 ls []) := by
    intro P C x2 k41 hk_41 n
    induction n with
    | zero => intro x3 M N H locs ls hP hS hl hf; rw [f_X3_find_l41] at hf; cases hf
    | succ n ih =>
      intro x3 M N H locs ls hP hS hl hf
      rw [f_X3_find_l41] at hf
      refine lv_iload_n hx hb dX3_find_41 rfl (lv_at hl 3 rfl) ?_
      refine lv_iconst (v := 5) hx hb dX3_find_42 (by decide) ?_
      refine lv_icmp_gt (tgt := 85) hx hb dX3_find_43 (by decide) (fun c8 => ?_) (fun c8 => ?_)
      · rw [if_pos c8] at hf
        exact hk_41 x3 M N _ _ _ hP hS (lv_sub hl [0, 1, 2, 3] rfl) hf
      · rw [if_neg c8] at hf
        refine lv_aload_n hx hb dX3_find_46 rfl (lv_at hl 0 rfl) ?_
        refine va_get (ci := 3) (v := .ref (ra ad (12 : Fin 20))) (C := RX3) (T := TX3) (N := 8) hx hb hts (fun w h => BW_in (in_wsX30 w h)) hown hK hP 42 cc_spl rfl 5 (by decide) (hts (.fieldLink RX3 34 "NumberFieldFactors$Splitter" "rest" "LNumberFieldFactors$Row;") (BW_in mw_148)) (fun _ h9 => h9) rfl dX3_find_47 ?_
        obtain ⟨u9, g10, hf⟩ := Option.bind_eq_some_iff.mp hf
        try dsimp only at hf
        refine ct_call (va_runV (As := []) (rest := []) ⟨hx, hb, hml, hown, hts⟩ (C_X2_degree l D tys nw hn hnw hj htI htR (res := u9) g10) (cwV 0 hts (gu_V mw_159 mw_68 mw_69 mw_50 mw_64) rfl rfl rfl (by decide +kernel) ⟨Nat.le_of_ble_eq_true rfl, Nat.le_of_ble_eq_true rfl⟩) (ct_preV hn hP hK hN (ci := 2) (k := (20 + ((12 : Fin 20)).val)) rfl (ra_lt (12 : Fin 20)) (cl_row (12 : Fin 20))) rfl rfl hl.1 rfl (lv_room (Nat.le_of_ble_eq_true rfl)) dX3_find_50 ⟨Nat.zero_le _, Nat.zero_le _⟩) hS (fun H locs hP hS => ?_)
        refine lv_iconst (v := 2) hx hb dX3_find_53 (by decide) ?_
        refine lv_iload_n hx hb dX3_find_54 rfl (lv_at hl 3 rfl) ?_
        refine lv_imul hx hb dX3_find_55 ?_
        refine lv_icmp_lt (tgt := 85) hx hb dX3_find_56 (by decide) (fun c11 => ?_) (fun c11 => ?_)
        · rw [if_pos c11] at hf
          exact hk_41 x3 M N _ _ _ hP hS (lv_sub hl [0, 1, 2, 3] rfl) hf
        · rw [if_neg c11] at hf
          refine lv_aload_n hx hb dX3_find_59 rfl (lv_at hl 0 rfl) ?_
          refine va_get (ci := 3) (v := .int (N 0)) (C := RX3) (T := TX3) (N := 8) hx hb hts (fun w h => BW_in (in_wsX30 w h)) hown hK hP 42 cc_spl rfl 2 (by decide) (hts (.fieldLink RX3 21 "NumberFieldFactors$Splitter" "count" "I") (BW_in mw_145)) (fun _ h9 => h9) rfl dX3_find_60 ?_
          obtain ⟨v12, ev12, hf⟩ := nm_elim hf
          try dsimp only at hf
          refine tp_I ev12 ?_
          refine lv_istore (lv' := [(4, .int v12), (0, .ref (ad 42)), (1, .ref (ad 41)), (2, .ref (ra ad x2)), (3, .int x3)]) hx hb dX3_find_63 hl (by decide) rfl (fun ls hl => ?_)
          refine lv_aload_n hx hb dX3_find_65 rfl (lv_at hl 1 rfl) ?_
          refine lv_aload_n hx hb dX3_find_66 rfl (lv_at hl 2 rfl) ?_
          refine lv_iload_n hx hb dX3_find_67 rfl (lv_at hl 4 rfl) ?_
          obtain ⟨u13, g14, hf⟩ := Option.bind_eq_some_iff.mp hf
          try dsimp only at hf
          refine ct_call (va_runV (As := [.ref (ad 41), .int x3]) (rest := []) ⟨hx, hb, hml, hown, hts⟩ (C_X3_collect l D tys nw hn hnw hj htI htR (res := u13) g14) (cwV 2 hts (gu_V mw_190 mw_191 mw_192 mw_158 mw_178) rfl rfl rfl (by decide +kernel) ⟨Nat.le_of_ble_eq_true rfl, Nat.le_of_ble_eq_true rfl⟩) (ct_preV hn hP hK hN (ci := 3) (k := 42) rfl (by decide) rfl) rfl rfl hl.1 rfl (lv_room (Nat.le_of_ble_eq_true rfl)) dX3_find_68 ⟨Nat.zero_le _, Nat.zero_le _⟩) hS (fun H locs hP hS => ?_)
          refine lv_aload_n hx hb dX3_find_71 rfl (lv_at hl 1 rfl) ?_
          refine lv_aload_n hx hb dX3_find_72 rfl (lv_at hl 2 rfl) ?_
          refine lv_iload hx hb dX3_find_73 (lv_at hl 0 rfl) ?_
          refine lv_iload_n hx hb dX3_find_75 rfl (lv_at hl 4 rfl) ?_
          obtain ⟨u15, g16, hf⟩ := Option.bind_eq_some_iff.mp hf
          try dsimp only at hf
          refine ct_call (va_runV (As := [.ref (ad 41), .int v12, .int x3]) (rest := []) ⟨hx, hb, hml, hown, hts⟩ (C_X3_separate l D tys nw hn hnw hj htI htR (res := u15) g16) (cwV 3 hts (gu_V mw_193 mw_194 mw_195 mw_158 mw_180) rfl rfl rfl (by decide +kernel) ⟨Nat.le_of_ble_eq_true rfl, Nat.le_of_ble_eq_true rfl⟩) (ct_preV hn hP hK hN (ci := 3) (k := 42) rfl (by decide) rfl) rfl rfl hl.1 rfl (lv_room (Nat.le_of_ble_eq_true rfl)) dX3_find_76 ⟨Nat.zero_le _, Nat.zero_le _⟩) hS (fun H locs hP hS => ?_)
          refine lv_iinc (v := x3 + 1) (lv' := [(3, .int (x3 + 1)), (4, .int v12), (0, .ref (ad 42)), (1, .ref (ad 41)), (2, .ref (ra ad x2))]) hx hb dX3_find_79 hl (k := 4) rfl rfl (by decide) rfl (fun ls hl => ?_)
          refine lv_goto (tgt := 41) hx hb dX3_find_82 (by decide) ?_
          exact ih (x3 + 1) u15.1 u15.2 _ _ _ hP hS (lv_sub hl [2, 3, 4, 0] rfl) hf
  unfold f_X3_find at hf
  refine lv_aload_n hx hb dX3_find_0 rfl (lv_at hl 0 rfl) ?_
  refine va_get (ci := 3) (v := .int (N 1)) (C := RX3) (T := TX3) (N := 8) hx hb hts (fun w h => BW_in (in_wsX30 w h)) hown hK hP 42 cc_spl rfl 3 (by decide) (hts (.fieldLink RX3 25 "NumberFieldFactors$Splitter" "found" "Z") (BW_in mw_146)) (fun _ h9 => h9) rfl dX3_find_1 ?_
  refine lv_if_eq (tgt := 8) hx hb dX3_find_4 (by decide) (fun c1 => ?_) (fun c1 => ?_)
  · rw [if_pos c1] at hf
    refine lv_aload_n hx hb dX3_find_8 rfl (lv_at hl 0 rfl) ?_
    refine lv_iconst (v := 0) hx hb dX3_find_9 (by decide) ?_
    refine va_put (ci := 3) (v := .int 0) (ty := .int) (C := RX3) (T := TX3) (N := 8) hx hb hts (fun w h => BW_in (in_wsX30 w h)) tyX3 tyX3_ok nmX3 hown hK hP (ww_D hj) hS 42 cc_spl rfl 2 (by decide) (hts (.fieldLink RX3 21 "NumberFieldFactors$Splitter" "count" "I") (BW_in mw_145)) (fun _ h9 => h9) rfl (by decide +kernel) rfl rfl (Nat.le_of_ble_eq_true rfl) dX3_find_10 (fun H locs hP hD hS => ?_)
    have hP := cs_N0 hP
    refine lv_aload_n hx hb dX3_find_13 rfl (lv_at hl 1 rfl) ?_
    refine lv_aload_n hx hb dX3_find_14 rfl (lv_at hl 2 rfl) ?_
    refine lv_aload_n hx hb dX3_find_15 rfl (lv_at hl 0 rfl) ?_
    refine va_get (ci := 3) (v := .ref (ra ad (14 : Fin 20))) (C := RX3) (T := TX3) (N := 8) hx hb hts (fun w h => BW_in (in_wsX30 w h)) hown hK hP 42 cc_spl rfl 7 (by decide) (hts (.fieldLink RX3 40 "NumberFieldFactors$Splitter" "shared" "LNumberFieldFactors$Row;") (BW_in mw_150)) (fun _ h9 => h9) rfl dX3_find_16 ?_
    obtain ⟨u2, g3, hf⟩ := Option.bind_eq_some_iff.mp hf
    try dsimp only at hf
    refine ct_call (va_runV (As := [.ref (ra ad p1), .ref (ra ad (14 : Fin 20))]) (rest := []) ⟨hx, hb, hml, hown, hts⟩ (C_X1_findSquares l D tys nw hn hnw hj htI htR (res := u2) g3) (cwV 2 hts (gu_V mw_186 mw_135 mw_136 mw_100 mw_108) rfl rfl rfl (by decide +kernel) ⟨Nat.le_of_ble_eq_true rfl, Nat.le_of_ble_eq_true rfl⟩) (ct_preV hn hP hK hN (ci := 1) (k := 41) rfl (by decide) rfl) rfl rfl hl.1 rfl (lv_room (Nat.le_of_ble_eq_true rfl)) dX3_find_19 ⟨Nat.zero_le _, Nat.zero_le _⟩) hS (fun H locs hP hS => ?_)
    refine lv_aload_n hx hb dX3_find_22 rfl (lv_at hl 0 rfl) ?_
    refine lv_aload_n hx hb dX3_find_23 rfl (lv_at hl 1 rfl) ?_
    refine lv_aload_n hx hb dX3_find_24 rfl (lv_at hl 2 rfl) ?_
    obtain ⟨u4, g5, hf⟩ := Option.bind_eq_some_iff.mp hf
    try dsimp only at hf
    refine ct_call (va_runV (As := [.ref (ad 41), .ref (ra ad p1)]) (rest := []) ⟨hx, hb, hml, hown, hts⟩ (C_X3_keepRoot l D tys nw hn hnw hj htI htR (res := u4) g5) (cwV 2 hts (gu_V mw_187 mw_188 mw_189 mw_158 mw_163) rfl rfl rfl (by decide +kernel) ⟨Nat.le_of_ble_eq_true rfl, Nat.le_of_ble_eq_true rfl⟩) (ct_preV hn hP hK hN (ci := 3) (k := 42) rfl (by decide) rfl) rfl rfl hl.1 rfl (lv_room (Nat.le_of_ble_eq_true rfl)) dX3_find_25 ⟨Nat.zero_le _, Nat.zero_le _⟩) hS (fun H locs hP hS => ?_)
    refine lv_aload_n hx hb dX3_find_28 rfl (lv_at hl 0 rfl) ?_
    refine va_get (ci := 3) (v := .ref (ra ad (12 : Fin 20))) (C := RX3) (T := TX3) (N := 8) hx hb hts (fun w h => BW_in (in_wsX30 w h)) hown hK hP 42 cc_spl rfl 5 (by decide) (hts (.fieldLink RX3 34 "NumberFieldFactors$Splitter" "rest" "LNumberFieldFactors$Row;") (BW_in mw_148)) (fun _ h9 => h9) rfl dX3_find_29 ?_
    refine lv_aload_n hx hb dX3_find_32 rfl (lv_at hl 0 rfl) ?_
    refine va_get (ci := 3) (v := .ref (ra ad (11 : Fin 20))) (C := RX3) (T := TX3) (N := 8) hx hb hts (fun w h => BW_in (in_wsX30 w h)) hown hK hP 42 cc_spl rfl 4 (by decide) (hts (.fieldLink RX3 30 "NumberFieldFactors$Splitter" "root" "LNumberFieldFactors$Row;") (BW_in mw_147)) (fun _ h9 => h9) rfl dX3_find_33 ?_
    obtain ⟨u6, g7, hf⟩ := Option.bind_eq_some_iff.mp hf
    try dsimp only at hf
    refine ct_call (va_runV (As := [.ref (ra ad (11 : Fin 20))]) (rest := []) ⟨hx, hb, hml, hown, hts⟩ (C_X2_copy l D tys nw hn hnw hj htI htR (res := u6) g7) (cwV 1 hts (gu_V mw_160 mw_87 mw_88 mw_50 mw_81) rfl rfl rfl (by decide +kernel) ⟨Nat.le_of_ble_eq_true rfl, Nat.le_of_ble_eq_true rfl⟩) (ct_preV hn hP hK hN (ci := 2) (k := (20 + ((12 : Fin 20)).val)) rfl (ra_lt (12 : Fin 20)) (cl_row (12 : Fin 20))) rfl rfl hl.1 rfl (lv_room (Nat.le_of_ble_eq_true rfl)) dX3_find_36 ⟨Nat.zero_le _, Nat.zero_le _⟩) hS (fun H locs hP hS => ?_)
    refine lv_iconst (v := 1) hx hb dX3_find_39 (by decide) ?_
    refine lv_istore_n (lv' := [(3, .int 1), (0, .ref (ad 42)), (1, .ref (ad 41)), (2, .ref (ra ad p1))]) hx hb dX3_find_40 rfl hl (by decide) rfl (fun ls hl => ?_)
    refine L41 P C p1 _ (fun y17 M18 N19 H locs ls hP hS hl hf => ?_) fu 1 u6 (va_up N 0 0) _ _ _ hP hS (lv_sub hl [1, 2, 3, 0] rfl) hf
    try dsimp only at hf
    refine lv_aload_n hx hb dX3_find_85 rfl (lv_at hl 0 rfl) ?_
    refine va_get (ci := 3) (v := .ref (ra ad (12 : Fin 20))) (C := RX3) (T := TX3) (N := 8) hx hb hts (fun w h => BW_in (in_wsX30 w h)) hown hK hP 42 cc_spl rfl 5 (by decide) (hts (.fieldLink RX3 34 "NumberFieldFactors$Splitter" "rest" "LNumberFieldFactors$Row;") (BW_in mw_148)) (fun _ h9 => h9) rfl dX3_find_86 ?_
    obtain ⟨u20, g21, hf⟩ := Option.bind_eq_some_iff.mp hf
    try dsimp only at hf
    refine ct_call (va_runV (As := []) (rest := []) ⟨hx, hb, hml, hown, hts⟩ (C_X2_degree l D tys nw hn hnw hj htI htR (res := u20) g21) (cwV 0 hts (gu_V mw_159 mw_68 mw_69 mw_50 mw_64) rfl rfl rfl (by decide +kernel) ⟨Nat.le_of_ble_eq_true rfl, Nat.le_of_ble_eq_true rfl⟩) (ct_preV hn hP hK hN (ci := 2) (k := (20 + ((12 : Fin 20)).val)) rfl (ra_lt (12 : Fin 20)) (cl_row (12 : Fin 20))) rfl rfl hl.1 rfl (lv_room (Nat.le_of_ble_eq_true rfl)) dX3_find_89 ⟨Nat.zero_le _, Nat.zero_le _⟩) hS (fun H locs hP hS => ?_)
    obtain ⟨w22, gw22, hf⟩ := Option.bind_eq_some_iff.mp hf
    try dsimp only at hf
    have hJ103_w22 : ∀ (H : Heap) (locs : List Loc) (ls : Array Slot), va_P D vwCl (ww 46 ad (cellC cI cR ad w22.1 E P C w22.2)) H → va_S (ww_A 46 ad) s.heap H locs → lv_has ls 5 [(0, .ref (ad 42)), (1, .ref (ad 41)), (2, .ref (ra ad p1)), (3, .int y17)] → W p l e (headSpec usX3_find { frames := 5, cells := 0, slots := 0, locals := 143 }).room s m [.ref (ad 42), .ref (ad 41), .ref (ra ad p1)].toArray below meth c H locs 0 0 (MQ below (ct_Q D (ww 46 ad (cellC cI cR ad res.1 E res.2.1 res.2.2.1 res.2.2.2)) (ww_A 46 ad) (none)) [.ref (ad 42), .ref (ad 41), .ref (ra ad p1)].toArray s 0 0 (ww_A 46 ad)) (F0 m 103 ls []) := by
      intro H locs ls hP hS hl
      refine lv_aload_n hx hb dX3_find_103 rfl (lv_at hl 0 rfl) ?_
      obtain ⟨u26, g27, hf⟩ := Option.bind_eq_some_iff.mp hf
      try dsimp only at hf
      refine ct_call (va_runV (As := []) (rest := []) ⟨hx, hb, hml, hown, hts⟩ (C_X3_sort l D tys nw hn hnw hj htI htR (res := u26) g27) (cwV 0 hts (gu_V mw_196 mw_197 mw_198 mw_158 mw_181) rfl rfl rfl (by decide +kernel) ⟨Nat.le_of_ble_eq_true rfl, Nat.le_of_ble_eq_true rfl⟩) (ct_preV hn hP hK hN (ci := 3) (k := 42) rfl (by decide) rfl) rfl rfl hl.1 rfl (lv_room (Nat.le_of_ble_eq_true rfl)) dX3_find_104 ⟨Nat.zero_le _, Nat.zero_le _⟩) hS (fun H locs hP hS => ?_)
      refine lv_aload_n hx hb dX3_find_107 rfl (lv_at hl 0 rfl) ?_
      refine lv_aload_n hx hb dX3_find_108 rfl (lv_at hl 1 rfl) ?_
      refine lv_aload_n hx hb dX3_find_109 rfl (lv_at hl 2 rfl) ?_
      obtain ⟨u28, g29, hf⟩ := Option.bind_eq_some_iff.mp hf
      try dsimp only at hf
      refine ct_call (va_runV (As := [.ref (ad 41), .ref (ra ad p1)]) (rest := []) ⟨hx, hb, hml, hown, hts⟩ (C_X3_countTimes l D tys nw hn hnw hj htI htR (res := u28) g29) (cwV 2 hts (gu_V mw_199 mw_200 mw_201 mw_158 mw_185) rfl rfl rfl (by decide +kernel) ⟨Nat.le_of_ble_eq_true rfl, Nat.le_of_ble_eq_true rfl⟩) (ct_preV hn hP hK hN (ci := 3) (k := 42) rfl (by decide) rfl) rfl rfl hl.1 rfl (lv_room (Nat.le_of_ble_eq_true rfl)) dX3_find_110 ⟨Nat.zero_le _, Nat.zero_le _⟩) hS (fun H locs hP hS => ?_)
      refine lv_aload_n hx hb dX3_find_113 rfl (lv_at hl 0 rfl) ?_
      refine lv_iconst (v := 1) hx hb dX3_find_114 (by decide) ?_
      refine va_put (ci := 3) (v := .int 1) (ty := .boolean) (C := RX3) (T := TX3) (N := 8) hx hb hts (fun w h => BW_in (in_wsX30 w h)) tyX3 tyX3_ok nmX3 hown hK hP (ww_D hj) hS 42 cc_spl rfl 3 (by decide) (hts (.fieldLink RX3 25 "NumberFieldFactors$Splitter" "found" "Z") (BW_in mw_146)) (fun _ h9 => h9) rfl (by decide +kernel) (by decide) rfl (Nat.le_of_ble_eq_true rfl) dX3_find_115 (fun H locs hP hD hS => ?_)
      have hP := cs_N1 hP
      obtain rfl := Option.some.inj hf
      exact W.vret hx hb hr (fun t ht hW => ⟨rfl, by rw [ht]; exact hP, hS.F ht⟩) hS.2.2 dX3_find_118
    refine lv_if_le (tgt := 103) hx hb dX3_find_92 (by decide) (fun c23 => ?_) (fun c23 => ?_)
    · rw [if_pos c23] at gw22
      obtain rfl := Option.some.inj gw22
      exact hJ103_w22 _ _ _ hP hS (lv_sub hl [0, 1, 2, 3] rfl)
    · rw [if_neg c23] at gw22
      refine lv_aload_n hx hb dX3_find_95 rfl (lv_at hl 0 rfl) ?_
      refine lv_aload_n hx hb dX3_find_96 rfl (lv_at hl 0 rfl) ?_
      refine va_get (ci := 3) (v := .ref (ra ad (12 : Fin 20))) (C := RX3) (T := TX3) (N := 8) hx hb hts (fun w h => BW_in (in_wsX30 w h)) hown hK hP 42 cc_spl rfl 5 (by decide) (hts (.fieldLink RX3 34 "NumberFieldFactors$Splitter" "rest" "LNumberFieldFactors$Row;") (BW_in mw_148)) (fun _ h9 => h9) rfl dX3_find_97 ?_
      obtain ⟨u24, g25, gw22⟩ := Option.bind_eq_some_iff.mp gw22
      try dsimp only at gw22
      refine ct_call (va_runV (As := [.ref (ra ad (12 : Fin 20))]) (rest := []) ⟨hx, hb, hml, hown, hts⟩ (C_X3_add l D tys nw hn hnw hj htI htR (res := u24) g25) (cwV 1 hts (gu_V mw_175 mw_176 mw_177 mw_158 mw_165) rfl rfl rfl (by decide +kernel) ⟨Nat.le_of_ble_eq_true rfl, Nat.le_of_ble_eq_true rfl⟩) (ct_preV hn hP hK hN (ci := 3) (k := 42) rfl (by decide) rfl) rfl rfl hl.1 rfl (lv_room (Nat.le_of_ble_eq_true rfl)) dX3_find_100 ⟨Nat.zero_le _, Nat.zero_le _⟩) hS (fun H locs hP hS => ?_)
      obtain rfl := Option.some.inj gw22
      exact hJ103_w22 _ _ _ hP hS (lv_sub hl [0, 1, 2, 3] rfl)
  · rw [if_neg c1] at hf
    obtain rfl := Option.some.inj hf
    exact W.vret hx hb hr (fun t ht hW => ⟨rfl, by rw [ht]; exact hP, hS.F ht⟩) hS.2.2 dX3_find_7
