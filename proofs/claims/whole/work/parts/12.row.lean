def f_X2_get (M : Fin 20 → Nat → Int32) (r0 : Fin 20) (p0 : Int32) : Option (Int32) :=
  if p0 < 0 then
    some 0
  else
    if 16 ≤ p0 then
      some 0
    else
      if p0 < 0 ∨ 16 ≤ (p0).toNatClampNeg then none else
      some (M r0 (p0).toNatClampNeg)
set_option maxHeartbeats 4000000 in
set_option maxRecDepth 100000 in
theorem C_X2_get (l : Launch) (D : va_G) (tys : List (ClassId × FieldType)) (nw : List Cond) (hn : nw.all nw_kind = true) (hnw : ∀ w ∈ nw0, w ∈ nw) {ad : Nat → Nat} (hj : ww_inj 46 ad) {cI : ClassId} {cR : ClassId} (htI : tys[0]? = some (cI, .int)) (htR : tys[1]? = some (cR, .object RX2)) {M : Fin 20 → Nat → Int32} {E : Nat → Int32} {P : Nat → Fin 20} {C : Nat → Int32} {N : Nat → Int32} {r0 : Fin 20} {p0 : Int32} {res : Int32} (hf : f_X2_get M r0 p0 = some res) :
    Met l yX2_get usX2_get ({ frames := 0, cells := 0, slots := 0, locals := 0 }) (va_Pc [.ref (ra ad r0), .int p0] (ws_B D tys nw (ww 46 ad (cellC cI cR ad M E P C N)))) (ct_Q D (ww 46 ad (cellC cI cR ad M E P C N)) (ww_A 46 ad) (some (.int res))) 0 0 (ww_A 46 ad) := by
  refine Met.ofW (cc := cX2_get) (maxL := 2) (ret := (some .int)) (by decide) rfl ?_
  intro p e s m args below meth c s₁ B hml hv
  obtain ⟨rfl, hP, hK, hN⟩ := hv
  have hx := B.exec
  have hb := B.bytes
  have hr := B.returns
  have hts := atoms_spec (ws := usX2_get) B.pre
  have hown : s.vm.findClass RX2 = some m.cls := findClass_of_methodNamed B.named
  have hlocks := B.notSynchronized
  have hS : va_S (ww_A 46 ad) s.heap s.heap [] := va_S.rf
  have hl := lv_entry ([.ref (ra ad r0), .int p0]) (n := 2) (Nat.le_of_ble_eq_true rfl)
  rw [lg_entry_eq]
  generalize (lg_sl ([.ref (ra ad r0), .int p0]) ++ List.replicate (2 - (lg_sl ([.ref (ra ad r0), .int p0])).length) Slot.unset).toArray = ls at hl ⊢
  have hl : lv_has ls 2 [(0, .ref (ra ad r0)), (1, .int p0)] := hl
  unfold f_X2_get at hf
  refine lv_iload_n hx hb dX2_get_0 rfl (lv_at hl 1 rfl) ?_
  refine lv_if_lt (tgt := 22) hx hb dX2_get_1 (by decide) (fun c1 => ?_) (fun c1 => ?_)
  · rw [if_pos c1] at hf
    refine lv_iconst (v := 0) hx hb dX2_get_22 (by decide) ?_
    obtain rfl := Option.some.inj hf
    exact W.iret (v := 0) hx hb hr (fun t ht hW => ⟨rfl, by rw [ht]; exact hP, hS.F ht⟩) hS.2.2 dX2_get_23
  · rw [if_neg c1] at hf
    refine lv_iload_n hx hb dX2_get_4 rfl (lv_at hl 1 rfl) ?_
    refine lv_aload_n hx hb dX2_get_5 rfl (lv_at hl 0 rfl) ?_
    refine va_get (ci := 2) (v := .ref (aa ad r0)) (C := RX2) (T := TX2) (N := 1) hx hb hts (fun w h => BW_in (in_wsX20 w h)) hown hK hP (20 + (r0).val) (cc_row r0) rfl 0 (by decide) (hts (.fieldLink RX2 9 "NumberFieldFactors$Row" "elements" "[I") (BW_in mw_43)) (fun _ h9 => h9) rfl dX2_get_6 ?_
    refine va_alen (v := 16) hx hb hK hP (r0).val 0 (cc_arr r0) htI rfl dX2_get_9 ?_
    refine lv_icmp_ge (tgt := 22) hx hb dX2_get_10 (by decide) (fun c2 => ?_) (fun c2 => ?_)
    · rw [if_pos c2] at hf
      refine lv_iconst (v := 0) hx hb dX2_get_22 (by decide) ?_
      obtain rfl := Option.some.inj hf
      exact W.iret (v := 0) hx hb hr (fun t ht hW => ⟨rfl, by rw [ht]; exact hP, hS.F ht⟩) hS.2.2 dX2_get_23
    · rw [if_neg c2] at hf
      refine lv_aload_n hx hb dX2_get_13 rfl (lv_at hl 0 rfl) ?_
      refine va_get (ci := 2) (v := .ref (aa ad r0)) (C := RX2) (T := TX2) (N := 1) hx hb hts (fun w h => BW_in (in_wsX20 w h)) hown hK hP (20 + (r0).val) (cc_row r0) rfl 0 (by decide) (hts (.fieldLink RX2 9 "NumberFieldFactors$Row" "elements" "[I") (BW_in mw_43)) (fun _ h9 => h9) rfl dX2_get_14 ?_
      refine lv_iload_n hx hb dX2_get_17 rfl (lv_at hl 1 rfl) ?_
      by_cases b3 : p0 < 0 ∨ 16 ≤ (p0).toNatClampNeg
      · rw [if_pos b3] at hf; cases hf
      rw [if_neg b3] at hf
      refine va_iald hx hb hK hP (r0).val 0 (cc_arr r0) htI b3 dX2_get_18 ?_
      refine lv_goto (tgt := 23) hx hb dX2_get_19 (by decide) ?_
      obtain rfl := Option.some.inj hf
      exact W.iret (v := M r0 (p0).toNatClampNeg) hx hb hr (fun t ht hW => ⟨rfl, by rw [ht]; exact hP, hS.F ht⟩) hS.2.2 dX2_get_23
def f_X2_set (M : Fin 20 → Nat → Int32) (r0 : Fin 20) (p0 : Int32) (p1 : Int32) : Option ((Fin 20 → Nat → Int32)) :=
  if p0 < 0 then
    some M
  else
    if 16 ≤ p0 then
      some M
    else
      if p0 < 0 ∨ 16 ≤ (p0).toNatClampNeg then none else
      some (fup M r0 (upd (M r0) (p0).toNatClampNeg p1))
set_option maxHeartbeats 4000000 in
set_option maxRecDepth 100000 in
theorem C_X2_set (l : Launch) (D : va_G) (tys : List (ClassId × FieldType)) (nw : List Cond) (hn : nw.all nw_kind = true) (hnw : ∀ w ∈ nw0, w ∈ nw) {ad : Nat → Nat} (hj : ww_inj 46 ad) {cI : ClassId} {cR : ClassId} (htI : tys[0]? = some (cI, .int)) (htR : tys[1]? = some (cR, .object RX2)) {M : Fin 20 → Nat → Int32} {E : Nat → Int32} {P : Nat → Fin 20} {C : Nat → Int32} {N : Nat → Int32} {r0 : Fin 20} {p0 : Int32} {p1 : Int32} {res : (Fin 20 → Nat → Int32)} (hf : f_X2_set M r0 p0 p1 = some res) :
    Met l yX2_set usX2_set ({ frames := 0, cells := 0, slots := 0, locals := 0 }) (va_Pc [.ref (ra ad r0), .int p0, .int p1] (ws_B D tys nw (ww 46 ad (cellC cI cR ad M E P C N)))) (ct_Q D (ww 46 ad (cellC cI cR ad res E P C N)) (ww_A 46 ad) (none)) 0 0 (ww_A 46 ad) := by
  refine Met.ofW (cc := cX2_set) (maxL := 3) (ret := none) (by decide) rfl ?_
  intro p e s m args below meth c s₁ B hml hv
  obtain ⟨rfl, hP, hK, hN⟩ := hv
  have hx := B.exec
  have hb := B.bytes
  have hr := B.returns
  have hts := atoms_spec (ws := usX2_set) B.pre
  have hown : s.vm.findClass RX2 = some m.cls := findClass_of_methodNamed B.named
  have hlocks := B.notSynchronized
  have hS : va_S (ww_A 46 ad) s.heap s.heap [] := va_S.rf
  have hl := lv_entry ([.ref (ra ad r0), .int p0, .int p1]) (n := 3) (Nat.le_of_ble_eq_true rfl)
  rw [lg_entry_eq]
  generalize (lg_sl ([.ref (ra ad r0), .int p0, .int p1]) ++ List.replicate (3 - (lg_sl ([.ref (ra ad r0), .int p0, .int p1])).length) Slot.unset).toArray = ls at hl ⊢
  have hl : lv_has ls 3 [(0, .ref (ra ad r0)), (1, .int p0), (2, .int p1)] := hl
  unfold f_X2_set at hf
  refine lv_iload_n hx hb dX2_set_0 rfl (lv_at hl 1 rfl) ?_
  refine lv_if_lt (tgt := 20) hx hb dX2_set_1 (by decide) (fun c1 => ?_) (fun c1 => ?_)
  · rw [if_pos c1] at hf
    obtain rfl := Option.some.inj hf
    exact W.vret hx hb hr (fun t ht hW => ⟨rfl, by rw [ht]; exact hP, hS.F ht⟩) hS.2.2 dX2_set_20
  · rw [if_neg c1] at hf
    refine lv_iload_n hx hb dX2_set_4 rfl (lv_at hl 1 rfl) ?_
    refine lv_aload_n hx hb dX2_set_5 rfl (lv_at hl 0 rfl) ?_
    refine va_get (ci := 2) (v := .ref (aa ad r0)) (C := RX2) (T := TX2) (N := 1) hx hb hts (fun w h => BW_in (in_wsX20 w h)) hown hK hP (20 + (r0).val) (cc_row r0) rfl 0 (by decide) (hts (.fieldLink RX2 9 "NumberFieldFactors$Row" "elements" "[I") (BW_in mw_43)) (fun _ h9 => h9) rfl dX2_set_6 ?_
    refine va_alen (v := 16) hx hb hK hP (r0).val 0 (cc_arr r0) htI rfl dX2_set_9 ?_
    refine lv_icmp_ge (tgt := 20) hx hb dX2_set_10 (by decide) (fun c2 => ?_) (fun c2 => ?_)
    · rw [if_pos c2] at hf
      obtain rfl := Option.some.inj hf
      exact W.vret hx hb hr (fun t ht hW => ⟨rfl, by rw [ht]; exact hP, hS.F ht⟩) hS.2.2 dX2_set_20
    · rw [if_neg c2] at hf
      refine lv_aload_n hx hb dX2_set_13 rfl (lv_at hl 0 rfl) ?_
      refine va_get (ci := 2) (v := .ref (aa ad r0)) (C := RX2) (T := TX2) (N := 1) hx hb hts (fun w h => BW_in (in_wsX20 w h)) hown hK hP (20 + (r0).val) (cc_row r0) rfl 0 (by decide) (hts (.fieldLink RX2 9 "NumberFieldFactors$Row" "elements" "[I") (BW_in mw_43)) (fun _ h9 => h9) rfl dX2_set_14 ?_
      refine lv_iload_n hx hb dX2_set_17 rfl (lv_at hl 1 rfl) ?_
      refine lv_iload_n hx hb dX2_set_18 rfl (lv_at hl 2 rfl) ?_
      by_cases b3 : p0 < 0 ∨ 16 ≤ (p0).toNatClampNeg
      · rw [if_pos b3] at hf; cases hf
      rw [if_neg b3] at hf
      refine va_iast hx hb hK hP (ww_D hj) hS (r0).val 0 (cc_arr r0) htI b3 dX2_set_19 (fun H locs hP hD hS => ?_)
      have hP := cs_M r0 hP
      obtain rfl := Option.some.inj hf
      exact W.vret hx hb hr (fun t ht hW => ⟨rfl, by rw [ht]; exact hP, hS.F ht⟩) hS.2.2 dX2_set_20
def f_X2_degree_l8 (k8 : Int32 → Option (Int32)) (fu : Nat) (M : Fin 20 → Nat → Int32) (x0 : Fin 20) : Nat → Int32 → Option (Int32)
  | 0, _ => none
  | n + 1, x1 =>
    if x1 < 0 then
      k8 x1
    else
      if x1 < 0 ∨ 16 ≤ (x1).toNatClampNeg then none else
      if (M x0 (x1).toNatClampNeg) = 0 then
        f_X2_degree_l8 k8 fu M x0 n (x1 + (-1))
      else
        k8 x1
def f_X2_degree (fu : Nat) (M : Fin 20 → Nat → Int32) (r0 : Fin 20) : Option (Int32) :=
  nm (16 - 1) (fun v1 =>
  f_X2_degree_l8 (fun y5 =>
    some y5) fu M r0 fu v1)
set_option maxHeartbeats 4000000 in
set_option maxRecDepth 100000 in
theorem C_X2_degree (l : Launch) (D : va_G) (tys : List (ClassId × FieldType)) (nw : List Cond) (hn : nw.all nw_kind = true) (hnw : ∀ w ∈ nw0, w ∈ nw) {ad : Nat → Nat} (hj : ww_inj 46 ad) {cI : ClassId} {cR : ClassId} (htI : tys[0]? = some (cI, .int)) (htR : tys[1]? = some (cR, .object RX2)) {fu : Nat} {M : Fin 20 → Nat → Int32} {E : Nat → Int32} {P : Nat → Fin 20} {C : Nat → Int32} {N : Nat → Int32} {r0 : Fin 20} {res : Int32} (hf : f_X2_degree fu M r0 = some res) :
    Met l yX2_degree usX2_degree ({ frames := 0, cells := 0, slots := 0, locals := 0 }) (va_Pc [.ref (ra ad r0)] (ws_B D tys nw (ww 46 ad (cellC cI cR ad M E P C N)))) (ct_Q D (ww 46 ad (cellC cI cR ad M E P C N)) (ww_A 46 ad) (some (.int res))) 0 0 (ww_A 46 ad) := by
  refine Met.ofW (cc := cX2_degree) (maxL := 2) (ret := (some .int)) (by decide) rfl ?_
  intro p e s m args below meth c s₁ B hml hv
  obtain ⟨rfl, hP, hK, hN⟩ := hv
  have hx := B.exec
  have hb := B.bytes
  have hr := B.returns
  have hts := atoms_spec (ws := usX2_degree) B.pre
  have hown : s.vm.findClass RX2 = some m.cls := findClass_of_methodNamed B.named
  have hlocks := B.notSynchronized
  have hS : va_S (ww_A 46 ad) s.heap s.heap [] := va_S.rf
  have hl := lv_entry ([.ref (ra ad r0)]) (n := 2) (Nat.le_of_ble_eq_true rfl)
  rw [lg_entry_eq]
  generalize (lg_sl ([.ref (ra ad r0)]) ++ List.replicate (2 - (lg_sl ([.ref (ra ad r0)])).length) Slot.unset).toArray = ls at hl ⊢
  have hl : lv_has ls 2 [(0, .ref (ra ad r0))] := hl
  have L8 : ∀ (x0 : Fin 20) (k8 : Int32 → Option (Int32)), (∀ (x1 : Int32) (H : Heap) (locs : List Loc) (ls : Array Slot), va_P D vwCl (ww 46 ad (cellC cI cR ad M E P C N)) H → va_S (ww_A 46 ad) s.heap H locs → lv_has ls 2 [(0, .ref (ra ad x0)), (1, .int x1)] →  k8 x1 = some res → W p l e (headSpec usX2_degree { frames := 0, cells := 0, slots := 0, locals := 0 }).room s m [.ref (ra ad r0)].toArray below meth c H locs 0 0 (MQ below (ct_Q D (ww 46 ad (cellC cI cR ad M E P C N)) (ww_A 46 ad) (some (.int res))) [.ref (ra ad r0)].toArray s 0 0 (ww_A 46 ad)) (F0 m 27 ls [])) → ∀ (n : Nat) (x1 : Int32) (H : Heap) (locs : List Loc) (ls : Array Slot), va_P D vwCl (ww 46 ad (cellC cI cR ad M E P C N)) H → va_S (ww_A 46 ad) s.heap H locs → lv_has ls 2 [(0, .ref (ra ad x0)), (1, .int x1)] →  f_X2_degree_l8 k8 fu M x0 n x1 = some res → W p l e (headSpec usX2_degree { frames := 0, cells := 0, slots := 0, locals := 0 }).room s m [.ref (ra ad r0)].toArray below meth c H locs 0 0 (MQ below (ct_Q D (ww 46 ad (cellC cI cR ad M E P C N)) (ww_A 46 ad) (some (.int res))) [.ref (ra ad r0)].toArray s 0 0 (ww_A 46 ad)) (F0 m 8 ls []) := by
    intro x0 k8 hk_8 n
    induction n with
    | zero => intro x1 H locs ls hP hS hl hf; rw [f_X2_degree_l8] at hf; cases hf
    | succ n ih =>
      intro x1 H locs ls hP hS hl hf
      rw [f_X2_degree_l8] at hf
      refine lv_iload_n hx hb dX2_degree_8 rfl (lv_at hl 1 rfl) ?_
      refine lv_if_lt (tgt := 27) hx hb dX2_degree_9 (by decide) (fun c2 => ?_) (fun c2 => ?_)
      · rw [if_pos c2] at hf
        exact hk_8 x1 _ _ _ hP hS (lv_sub hl [0, 1] rfl) hf
      · rw [if_neg c2] at hf
        refine lv_aload_n hx hb dX2_degree_12 rfl (lv_at hl 0 rfl) ?_
        refine va_get (ci := 2) (v := .ref (aa ad x0)) (C := RX2) (T := TX2) (N := 1) hx hb hts (fun w h => BW_in (in_wsX20 w h)) hown hK hP (20 + (x0).val) (cc_row x0) rfl 0 (by decide) (hts (.fieldLink RX2 9 "NumberFieldFactors$Row" "elements" "[I") (BW_in mw_43)) (fun _ h9 => h9) rfl dX2_degree_13 ?_
        refine lv_iload_n hx hb dX2_degree_16 rfl (lv_at hl 1 rfl) ?_
        by_cases b3 : x1 < 0 ∨ 16 ≤ (x1).toNatClampNeg
        · rw [if_pos b3] at hf; cases hf
        rw [if_neg b3] at hf
        refine va_iald hx hb hK hP (x0).val 0 (cc_arr x0) htI b3 dX2_degree_17 ?_
        refine lv_if_ne (tgt := 27) hx hb dX2_degree_18 (by decide) (fun c4 => ?_) (fun c4 => ?_)
        · rw [if_neg c4] at hf
          exact hk_8 x1 _ _ _ hP hS (lv_sub hl [0, 1] rfl) hf
        · rw [if_pos c4] at hf
          refine lv_iinc (v := x1 + (-1)) (lv' := [(1, .int (x1 + (-1))), (0, .ref (ra ad x0))]) hx hb dX2_degree_21 hl (k := 1) rfl rfl (by decide) rfl (fun ls hl => ?_)
          refine lv_goto (tgt := 8) hx hb dX2_degree_24 (by decide) ?_
          exact ih (x1 + (-1)) _ _ _ hP hS (lv_sub hl [1, 0] rfl) hf
  unfold f_X2_degree at hf
  refine lv_aload_n hx hb dX2_degree_0 rfl (lv_at hl 0 rfl) ?_
  refine va_get (ci := 2) (v := .ref (aa ad r0)) (C := RX2) (T := TX2) (N := 1) hx hb hts (fun w h => BW_in (in_wsX20 w h)) hown hK hP (20 + (r0).val) (cc_row r0) rfl 0 (by decide) (hts (.fieldLink RX2 9 "NumberFieldFactors$Row" "elements" "[I") (BW_in mw_43)) (fun _ h9 => h9) rfl dX2_degree_1 ?_
  refine va_alen (v := 16) hx hb hK hP (r0).val 0 (cc_arr r0) htI rfl dX2_degree_4 ?_
  refine lv_iconst (v := 1) hx hb dX2_degree_5 (by decide) ?_
  refine lv_isub hx hb dX2_degree_6 ?_
  obtain ⟨v1, ev1, hf⟩ := nm_elim hf
  try dsimp only at hf
  refine tp_I ev1 ?_
  refine lv_istore_n (lv' := [(1, .int v1), (0, .ref (ra ad r0))]) hx hb dX2_degree_7 rfl hl (by decide) rfl (fun ls hl => ?_)
  refine L8 r0 _ (fun y5 H locs ls hP hS hl hf => ?_) fu v1 _ _ _ hP hS (lv_sub hl [1, 0] rfl) hf
  try dsimp only at hf
  refine lv_iload_n hx hb dX2_degree_27 rfl (lv_at hl 1 rfl) ?_
  obtain rfl := Option.some.inj hf
  exact W.iret (v := y5) hx hb hr (fun t ht hW => ⟨rfl, by rw [ht]; exact hP, hS.F ht⟩) hS.2.2 dX2_degree_28
def f_X2_clear_l2 (k2 : Int32 → (Fin 20 → Nat → Int32) → Option ((Fin 20 → Nat → Int32))) (fu : Nat) (x0 : Fin 20) : Nat → Int32 → (Fin 20 → Nat → Int32) → Option ((Fin 20 → Nat → Int32))
  | 0, _, _ => none
  | n + 1, x1, M =>
    if 16 ≤ x1 then
      k2 x1 M
    else
      if x1 < 0 ∨ 16 ≤ (x1).toNatClampNeg then none else
      f_X2_clear_l2 k2 fu x0 n (x1 + 1) (fup M x0 (upd (M x0) (x1).toNatClampNeg 0))
def f_X2_clear (fu : Nat) (M : Fin 20 → Nat → Int32) (r0 : Fin 20) : Option ((Fin 20 → Nat → Int32)) :=
  f_X2_clear_l2 (fun y3 M4 =>
    some M4) fu r0 fu 0 M
set_option maxHeartbeats 4000000 in
set_option maxRecDepth 100000 in
theorem C_X2_clear (l : Launch) (D : va_G) (tys : List (ClassId × FieldType)) (nw : List Cond) (hn : nw.all nw_kind = true) (hnw : ∀ w ∈ nw0, w ∈ nw) {ad : Nat → Nat} (hj : ww_inj 46 ad) {cI : ClassId} {cR : ClassId} (htI : tys[0]? = some (cI, .int)) (htR : tys[1]? = some (cR, .object RX2)) {fu : Nat} {M : Fin 20 → Nat → Int32} {E : Nat → Int32} {P : Nat → Fin 20} {C : Nat → Int32} {N : Nat → Int32} {r0 : Fin 20} {res : (Fin 20 → Nat → Int32)} (hf : f_X2_clear fu M r0 = some res) :
    Met l yX2_clear usX2_clear ({ frames := 0, cells := 0, slots := 0, locals := 0 }) (va_Pc [.ref (ra ad r0)] (ws_B D tys nw (ww 46 ad (cellC cI cR ad M E P C N)))) (ct_Q D (ww 46 ad (cellC cI cR ad res E P C N)) (ww_A 46 ad) (none)) 0 0 (ww_A 46 ad) := by
  refine Met.ofW (cc := cX2_clear) (maxL := 2) (ret := none) (by decide) rfl ?_
  intro p e s m args below meth c s₁ B hml hv
  obtain ⟨rfl, hP, hK, hN⟩ := hv
  have hx := B.exec
  have hb := B.bytes
  have hr := B.returns
  have hts := atoms_spec (ws := usX2_clear) B.pre
  have hown : s.vm.findClass RX2 = some m.cls := findClass_of_methodNamed B.named
  have hlocks := B.notSynchronized
  have hS : va_S (ww_A 46 ad) s.heap s.heap [] := va_S.rf
  have hl := lv_entry ([.ref (ra ad r0)]) (n := 2) (Nat.le_of_ble_eq_true rfl)
  rw [lg_entry_eq]
  generalize (lg_sl ([.ref (ra ad r0)]) ++ List.replicate (2 - (lg_sl ([.ref (ra ad r0)])).length) Slot.unset).toArray = ls at hl ⊢
  have hl : lv_has ls 2 [(0, .ref (ra ad r0))] := hl
  have L2 : ∀ (x0 : Fin 20) (k2 : Int32 → (Fin 20 → Nat → Int32) → Option ((Fin 20 → Nat → Int32))), (∀ (x1 : Int32) (M : Fin 20 → Nat → Int32) (H : Heap) (locs : List Loc) (ls : Array Slot), va_P D vwCl (ww 46 ad (cellC cI cR ad M E P C N)) H → va_S (ww_A 46 ad) s.heap H locs → lv_has ls 2 [(0, .ref (ra ad x0)), (1, .int x1)] →  k2 x1 M = some res → W p l e (headSpec usX2_clear { frames := 0, cells := 0, slots := 0, locals := 0 }).room s m [.ref (ra ad r0)].toArray below meth c H locs 0 0 (MQ below (ct_Q D (ww 46 ad (cellC cI cR ad res E P C N)) (ww_A 46 ad) (none)) [.ref (ra ad r0)].toArray s 0 0 (ww_A 46 ad)) (F0 m 24 ls [])) → ∀ (n : Nat) (x1 : Int32) (M : Fin 20 → Nat → Int32) (H : Heap) (locs : List Loc) (ls : Array Slot), va_P D vwCl (ww 46 ad (cellC cI cR ad M E P C N)) H → va_S (ww_A 46 ad) s.heap H locs → lv_has ls 2 [(0, .ref (ra ad x0)), (1, .int x1)] →  f_X2_clear_l2 k2 fu x0 n x1 M = some res → W p l e (headSpec usX2_clear { frames := 0, cells := 0, slots := 0, locals := 0 }).room s m [.ref (ra ad r0)].toArray below meth c H locs 0 0 (MQ below (ct_Q D (ww 46 ad (cellC cI cR ad res E P C N)) (ww_A 46 ad) (none)) [.ref (ra ad r0)].toArray s 0 0 (ww_A 46 ad)) (F0 m 2 ls []) := by
    intro x0 k2 hk_2 n
    induction n with
    | zero => intro x1 M H locs ls hP hS hl hf; rw [f_X2_clear_l2] at hf; cases hf
    | succ n ih =>
      intro x1 M H locs ls hP hS hl hf
      rw [f_X2_clear_l2] at hf
      refine lv_iload_n hx hb dX2_clear_2 rfl (lv_at hl 1 rfl) ?_
      refine lv_aload_n hx hb dX2_clear_3 rfl (lv_at hl 0 rfl) ?_
      refine va_get (ci := 2) (v := .ref (aa ad x0)) (C := RX2) (T := TX2) (N := 1) hx hb hts (fun w h => BW_in (in_wsX20 w h)) hown hK hP (20 + (x0).val) (cc_row x0) rfl 0 (by decide) (hts (.fieldLink RX2 9 "NumberFieldFactors$Row" "elements" "[I") (BW_in mw_43)) (fun _ h9 => h9) rfl dX2_clear_4 ?_
      refine va_alen (v := 16) hx hb hK hP (x0).val 0 (cc_arr x0) htI rfl dX2_clear_7 ?_
      refine lv_icmp_ge (tgt := 24) hx hb dX2_clear_8 (by decide) (fun c1 => ?_) (fun c1 => ?_)
      · rw [if_pos c1] at hf
        exact hk_2 x1 M _ _ _ hP hS (lv_sub hl [0, 1] rfl) hf
      · rw [if_neg c1] at hf
        refine lv_aload_n hx hb dX2_clear_11 rfl (lv_at hl 0 rfl) ?_
        refine va_get (ci := 2) (v := .ref (aa ad x0)) (C := RX2) (T := TX2) (N := 1) hx hb hts (fun w h => BW_in (in_wsX20 w h)) hown hK hP (20 + (x0).val) (cc_row x0) rfl 0 (by decide) (hts (.fieldLink RX2 9 "NumberFieldFactors$Row" "elements" "[I") (BW_in mw_43)) (fun _ h9 => h9) rfl dX2_clear_12 ?_
        refine lv_iload_n hx hb dX2_clear_15 rfl (lv_at hl 1 rfl) ?_
        refine lv_iconst (v := 0) hx hb dX2_clear_16 (by decide) ?_
        by_cases b2 : x1 < 0 ∨ 16 ≤ (x1).toNatClampNeg
        · rw [if_pos b2] at hf; cases hf
        rw [if_neg b2] at hf
        refine va_iast hx hb hK hP (ww_D hj) hS (x0).val 0 (cc_arr x0) htI b2 dX2_clear_17 (fun H locs hP hD hS => ?_)
        have hP := cs_M x0 hP
        refine lv_iinc (v := x1 + 1) (lv' := [(1, .int (x1 + 1)), (0, .ref (ra ad x0))]) hx hb dX2_clear_18 hl (k := 1) rfl rfl (by decide) rfl (fun ls hl => ?_)
        refine lv_goto (tgt := 2) hx hb dX2_clear_21 (by decide) ?_
        exact ih (x1 + 1) (fup M x0 (upd (M x0) (x1).toNatClampNeg 0)) _ _ _ hP hS (lv_sub hl [1, 0] rfl) hf
  unfold f_X2_clear at hf
  refine lv_iconst (v := 0) hx hb dX2_clear_0 (by decide) ?_
  refine lv_istore_n (lv' := [(1, .int 0), (0, .ref (ra ad r0))]) hx hb dX2_clear_1 rfl hl (by decide) rfl (fun ls hl => ?_)
  refine L2 r0 _ (fun y3 M4 H locs ls hP hS hl hf => ?_) fu 0 M _ _ _ hP hS (lv_sub hl [1, 0] rfl) hf
  try dsimp only at hf
  obtain rfl := Option.some.inj hf
  exact W.vret hx hb hr (fun t ht hW => ⟨rfl, by rw [ht]; exact hP, hS.F ht⟩) hS.2.2 dX2_clear_24
def f_X2_copy_l2 (k2 : Int32 → (Fin 20 → Nat → Int32) → Option ((Fin 20 → Nat → Int32))) (fu : Nat) (x0 : Fin 20) (x1 : Fin 20) : Nat → Int32 → (Fin 20 → Nat → Int32) → Option ((Fin 20 → Nat → Int32))
  | 0, _, _ => none
  | n + 1, x2, M =>
    if 16 ≤ x2 then
      k2 x2 M
    else
      (f_X2_get M x1 x2).bind (fun u2 =>
      if x2 < 0 ∨ 16 ≤ (x2).toNatClampNeg then none else
      f_X2_copy_l2 k2 fu x0 x1 n (x2 + 1) (fup M x0 (upd (M x0) (x2).toNatClampNeg u2)))
def f_X2_copy (fu : Nat) (M : Fin 20 → Nat → Int32) (r0 : Fin 20) (p0 : Fin 20) : Option ((Fin 20 → Nat → Int32)) :=
  f_X2_copy_l2 (fun y5 M6 =>
    some M6) fu r0 p0 fu 0 M
set_option maxHeartbeats 4000000 in
set_option maxRecDepth 100000 in
theorem C_X2_copy (l : Launch) (D : va_G) (tys : List (ClassId × FieldType)) (nw : List Cond) (hn : nw.all nw_kind = true) (hnw : ∀ w ∈ nw0, w ∈ nw) {ad : Nat → Nat} (hj : ww_inj 46 ad) {cI : ClassId} {cR : ClassId} (htI : tys[0]? = some (cI, .int)) (htR : tys[1]? = some (cR, .object RX2)) {fu : Nat} {M : Fin 20 → Nat → Int32} {E : Nat → Int32} {P : Nat → Fin 20} {C : Nat → Int32} {N : Nat → Int32} {r0 : Fin 20} {p0 : Fin 20} {res : (Fin 20 → Nat → Int32)} (hf : f_X2_copy fu M r0 p0 = some res) :
    Met l yX2_copy usX2_copy ({ frames := 1, cells := 0, slots := 0, locals := 21 }) (va_Pc [.ref (ra ad r0), .ref (ra ad p0)] (ws_B D tys nw (ww 46 ad (cellC cI cR ad M E P C N)))) (ct_Q D (ww 46 ad (cellC cI cR ad res E P C N)) (ww_A 46 ad) (none)) 0 0 (ww_A 46 ad) := by
  refine Met.ofW (cc := cX2_copy) (maxL := 3) (ret := none) (by decide) rfl ?_
  intro p e s m args below meth c s₁ B hml hv
  obtain ⟨rfl, hP, hK, hN⟩ := hv
  have hx := B.exec
  have hb := B.bytes
  have hr := B.returns
  have hts := atoms_spec (ws := usX2_copy) B.pre
  have hown : s.vm.findClass RX2 = some m.cls := findClass_of_methodNamed B.named
  have hlocks := B.notSynchronized
  have hS : va_S (ww_A 46 ad) s.heap s.heap [] := va_S.rf
  have hl := lv_entry ([.ref (ra ad r0), .ref (ra ad p0)]) (n := 3) (Nat.le_of_ble_eq_true rfl)
  rw [lg_entry_eq]
  generalize (lg_sl ([.ref (ra ad r0), .ref (ra ad p0)]) ++ List.replicate (3 - (lg_sl ([.ref (ra ad r0), .ref (ra ad p0)])).length) Slot.unset).toArray = ls at hl ⊢
  have hl : lv_has ls 3 [(0, .ref (ra ad r0)), (1, .ref (ra ad p0))] := hl
  have L2 : ∀ (x0 : Fin 20) (x1 : Fin 20) (k2 : Int32 → (Fin 20 → Nat → Int32) → Option ((Fin 20 → Nat → Int32))), (∀ (x2 : Int32) (M : Fin 20 → Nat → Int32) (H : Heap) (locs : List Loc) (ls : Array Slot), va_P D vwCl (ww 46 ad (cellC cI cR ad M E P C N)) H → va_S (ww_A 46 ad) s.heap H locs → lv_has ls 3 [(0, .ref (ra ad x0)), (1, .ref (ra ad x1)), (2, .int x2)] →  k2 x2 M = some res → W p l e (headSpec usX2_copy { frames := 1, cells := 0, slots := 0, locals := 21 }).room s m [.ref (ra ad r0), .ref (ra ad p0)].toArray below meth c H locs 0 0 (MQ below (ct_Q D (ww 46 ad (cellC cI cR ad res E P C N)) (ww_A 46 ad) (none)) [.ref (ra ad r0), .ref (ra ad p0)].toArray s 0 0 (ww_A 46 ad)) (F0 m 28 ls [])) → ∀ (n : Nat) (x2 : Int32) (M : Fin 20 → Nat → Int32) (H : Heap) (locs : List Loc) (ls : Array Slot), va_P D vwCl (ww 46 ad (cellC cI cR ad M E P C N)) H → va_S (ww_A 46 ad) s.heap H locs → lv_has ls 3 [(0, .ref (ra ad x0)), (1, .ref (ra ad x1)), (2, .int x2)] →  f_X2_copy_l2 k2 fu x0 x1 n x2 M = some res → W p l e (headSpec usX2_copy { frames := 1, cells := 0, slots := 0, locals := 21 }).room s m [.ref (ra ad r0), .ref (ra ad p0)].toArray below meth c H locs 0 0 (MQ below (ct_Q D (ww 46 ad (cellC cI cR ad res E P C N)) (ww_A 46 ad) (none)) [.ref (ra ad r0), .ref (ra ad p0)].toArray s 0 0 (ww_A 46 ad)) (F0 m 2 ls []) := by
    intro x0 x1 k2 hk_2 n
    induction n with
    | zero => intro x2 M H locs ls hP hS hl hf; rw [f_X2_copy_l2] at hf; cases hf
    | succ n ih =>
      intro x2 M H locs ls hP hS hl hf
      rw [f_X2_copy_l2] at hf
      refine lv_iload_n hx hb dX2_copy_2 rfl (lv_at hl 2 rfl) ?_
      refine lv_aload_n hx hb dX2_copy_3 rfl (lv_at hl 0 rfl) ?_
      refine va_get (ci := 2) (v := .ref (aa ad x0)) (C := RX2) (T := TX2) (N := 1) hx hb hts (fun w h => BW_in (in_wsX20 w h)) hown hK hP (20 + (x0).val) (cc_row x0) rfl 0 (by decide) (hts (.fieldLink RX2 9 "NumberFieldFactors$Row" "elements" "[I") (BW_in mw_43)) (fun _ h9 => h9) rfl dX2_copy_4 ?_
      refine va_alen (v := 16) hx hb hK hP (x0).val 0 (cc_arr x0) htI rfl dX2_copy_7 ?_
      refine lv_icmp_ge (tgt := 28) hx hb dX2_copy_8 (by decide) (fun c1 => ?_) (fun c1 => ?_)
      · rw [if_pos c1] at hf
        exact hk_2 x2 M _ _ _ hP hS (lv_sub hl [0, 1, 2] rfl) hf
      · rw [if_neg c1] at hf
        refine lv_aload_n hx hb dX2_copy_11 rfl (lv_at hl 0 rfl) ?_
        refine va_get (ci := 2) (v := .ref (aa ad x0)) (C := RX2) (T := TX2) (N := 1) hx hb hts (fun w h => BW_in (in_wsX20 w h)) hown hK hP (20 + (x0).val) (cc_row x0) rfl 0 (by decide) (hts (.fieldLink RX2 9 "NumberFieldFactors$Row" "elements" "[I") (BW_in mw_43)) (fun _ h9 => h9) rfl dX2_copy_12 ?_
        refine lv_iload_n hx hb dX2_copy_15 rfl (lv_at hl 2 rfl) ?_
        refine lv_aload_n hx hb dX2_copy_16 rfl (lv_at hl 1 rfl) ?_
        refine lv_iload_n hx hb dX2_copy_17 rfl (lv_at hl 2 rfl) ?_
        obtain ⟨u2, g3, hf⟩ := Option.bind_eq_some_iff.mp hf
        try dsimp only at hf
        refine ct_call (va_runV (As := [.int x2]) (rest := [.int x2, .ref (aa ad x0)]) ⟨hx, hb, hml, hown, hts⟩ (C_X2_get l D tys nw hn hnw hj htI htR (res := u2) g3) (cwV 1 hts (gu_V mw_82 mw_72 mw_73 mw_50 mw_65) rfl rfl rfl (by decide +kernel) ⟨Nat.le_of_ble_eq_true rfl, Nat.le_of_ble_eq_true rfl⟩) (ct_preV hn hP hK hN (ci := 2) (k := (20 + (x1).val)) rfl (ra_lt x1) (cl_row x1)) rfl rfl hl.1 rfl (lv_room (Nat.le_of_ble_eq_true rfl)) dX2_copy_18 ⟨Nat.zero_le _, Nat.zero_le _⟩) hS (fun H locs hP hS => ?_)
        by_cases b4 : x2 < 0 ∨ 16 ≤ (x2).toNatClampNeg
        · rw [if_pos b4] at hf; cases hf
        rw [if_neg b4] at hf
        refine va_iast hx hb hK hP (ww_D hj) hS (x0).val 0 (cc_arr x0) htI b4 dX2_copy_21 (fun H locs hP hD hS => ?_)
        have hP := cs_M x0 hP
        refine lv_iinc (v := x2 + 1) (lv' := [(2, .int (x2 + 1)), (0, .ref (ra ad x0)), (1, .ref (ra ad x1))]) hx hb dX2_copy_22 hl (k := 2) rfl rfl (by decide) rfl (fun ls hl => ?_)
        refine lv_goto (tgt := 2) hx hb dX2_copy_25 (by decide) ?_
        exact ih (x2 + 1) (fup M x0 (upd (M x0) (x2).toNatClampNeg u2)) _ _ _ hP hS (lv_sub hl [1, 2, 0] rfl) hf
  unfold f_X2_copy at hf
  refine lv_iconst (v := 0) hx hb dX2_copy_0 (by decide) ?_
  refine lv_istore_n (lv' := [(2, .int 0), (0, .ref (ra ad r0)), (1, .ref (ra ad p0))]) hx hb dX2_copy_1 rfl hl (by decide) rfl (fun ls hl => ?_)
  refine L2 r0 p0 _ (fun y5 M6 H locs ls hP hS hl hf => ?_) fu 0 M _ _ _ hP hS (lv_sub hl [1, 2, 0] rfl) hf
  try dsimp only at hf
  obtain rfl := Option.some.inj hf
  exact W.vret hx hb hr (fun t ht hW => ⟨rfl, by rw [ht]; exact hP, hS.F ht⟩) hS.2.2 dX2_copy_28
def f_X2_becomeOne (fu : Nat) (M : Fin 20 → Nat → Int32) (r0 : Fin 20) : Option ((Fin 20 → Nat → Int32)) :=
  (f_X2_clear fu M r0).bind (fun u1 =>
  (f_X2_set u1 r0 0 1).bind (fun u3 =>
  some u3))
set_option maxHeartbeats 4000000 in
set_option maxRecDepth 100000 in
theorem C_X2_becomeOne (l : Launch) (D : va_G) (tys : List (ClassId × FieldType)) (nw : List Cond) (hn : nw.all nw_kind = true) (hnw : ∀ w ∈ nw0, w ∈ nw) {ad : Nat → Nat} (hj : ww_inj 46 ad) {cI : ClassId} {cR : ClassId} (htI : tys[0]? = some (cI, .int)) (htR : tys[1]? = some (cR, .object RX2)) {fu : Nat} {M : Fin 20 → Nat → Int32} {E : Nat → Int32} {P : Nat → Fin 20} {C : Nat → Int32} {N : Nat → Int32} {r0 : Fin 20} {res : (Fin 20 → Nat → Int32)} (hf : f_X2_becomeOne fu M r0 = some res) :
    Met l yX2_becomeOne usX2_becomeOne ({ frames := 1, cells := 0, slots := 0, locals := 22 }) (va_Pc [.ref (ra ad r0)] (ws_B D tys nw (ww 46 ad (cellC cI cR ad M E P C N)))) (ct_Q D (ww 46 ad (cellC cI cR ad res E P C N)) (ww_A 46 ad) (none)) 0 0 (ww_A 46 ad) := by
  refine Met.ofW (cc := cX2_becomeOne) (maxL := 1) (ret := none) (by decide) rfl ?_
  intro p e s m args below meth c s₁ B hml hv
  obtain ⟨rfl, hP, hK, hN⟩ := hv
  have hx := B.exec
  have hb := B.bytes
  have hr := B.returns
  have hts := atoms_spec (ws := usX2_becomeOne) B.pre
  have hown : s.vm.findClass RX2 = some m.cls := findClass_of_methodNamed B.named
  have hlocks := B.notSynchronized
  have hS : va_S (ww_A 46 ad) s.heap s.heap [] := va_S.rf
  have hl := lv_entry ([.ref (ra ad r0)]) (n := 1) (Nat.le_of_ble_eq_true rfl)
  rw [lg_entry_eq]
  generalize (lg_sl ([.ref (ra ad r0)]) ++ List.replicate (1 - (lg_sl ([.ref (ra ad r0)])).length) Slot.unset).toArray = ls at hl ⊢
  have hl : lv_has ls 1 [(0, .ref (ra ad r0))] := hl
  unfold f_X2_becomeOne at hf
  refine lv_aload_n hx hb dX2_becomeOne_0 rfl (lv_at hl 0 rfl) ?_
  obtain ⟨u1, g2, hf⟩ := Option.bind_eq_some_iff.mp hf
  try dsimp only at hf
  refine ct_call (va_runV (As := []) (rest := []) ⟨hx, hb, hml, hown, hts⟩ (C_X2_clear l D tys nw hn hnw hj htI htR (res := u1) g2) (cwV 0 hts (gu_V mw_110 mw_84 mw_85 mw_50 mw_80) rfl rfl rfl (by decide +kernel) ⟨Nat.le_of_ble_eq_true rfl, Nat.le_of_ble_eq_true rfl⟩) (ct_preV hn hP hK hN (ci := 2) (k := (20 + (r0).val)) rfl (ra_lt r0) (cl_row r0)) rfl rfl hl.1 rfl (lv_room (Nat.le_of_ble_eq_true rfl)) dX2_becomeOne_1 ⟨Nat.zero_le _, Nat.zero_le _⟩) hS (fun H locs hP hS => ?_)
  refine lv_aload_n hx hb dX2_becomeOne_4 rfl (lv_at hl 0 rfl) ?_
  refine lv_iconst (v := 0) hx hb dX2_becomeOne_5 (by decide) ?_
  refine lv_iconst (v := 1) hx hb dX2_becomeOne_6 (by decide) ?_
  obtain ⟨u3, g4, hf⟩ := Option.bind_eq_some_iff.mp hf
  try dsimp only at hf
  refine ct_call (va_runV (As := [.int 0, .int 1]) (rest := []) ⟨hx, hb, hml, hown, hts⟩ (C_X2_set l D tys nw hn hnw hj htI htR (res := u3) g4) (cwV 2 hts (gu_V mw_111 mw_77 mw_78 mw_50 mw_75) rfl rfl rfl (by decide +kernel) ⟨Nat.le_of_ble_eq_true rfl, Nat.le_of_ble_eq_true rfl⟩) (ct_preV hn hP hK hN (ci := 2) (k := (20 + (r0).val)) rfl (ra_lt r0) (cl_row r0)) rfl rfl hl.1 rfl (lv_room (Nat.le_of_ble_eq_true rfl)) dX2_becomeOne_7 ⟨Nat.zero_le _, Nat.zero_le _⟩) hS (fun H locs hP hS => ?_)
  obtain rfl := Option.some.inj hf
  exact W.vret hx hb hr (fun t ht hW => ⟨rfl, by rw [ht]; exact hP, hS.F ht⟩) hS.2.2 dX2_becomeOne_10
def f_X2_isBefore_l29 (k29 : Int32 → Option (Int32)) (fu : Nat) (M : Fin 20 → Nat → Int32) (x0 : Fin 20) (x1 : Fin 20) (x2 : Int32) (x3 : Int32) : Nat → Int32 → Option (Int32)
  | 0, _ => none
  | n + 1, x4 =>
    if x4 < 0 then
      k29 x4
    else
      (f_X2_get M x0 x4).bind (fun u7 =>
      (f_X2_get M x1 x4).bind (fun u9 =>
      if u7 = u9 then
        f_X2_isBefore_l29 k29 fu M x0 x1 x2 x3 n (x4 + (-1))
      else
        (f_X2_get M x0 x4).bind (fun u12 =>
        (f_X2_get M x1 x4).bind (fun u14 =>
        if u14 ≤ u12 then
          some 0
        else
          some 1))))
def f_X2_isBefore (fu : Nat) (M : Fin 20 → Nat → Int32) (r0 : Fin 20) (p0 : Fin 20) : Option (Int32) :=
  (f_X2_degree fu M r0).bind (fun u1 =>
  (f_X2_degree fu M p0).bind (fun u3 =>
  if u1 = u3 then
    f_X2_isBefore_l29 (fun y17 =>
      some 0) fu M r0 p0 u1 u3 fu u1
  else
    if u3 ≤ u1 then
      some 0
    else
      some 1))
set_option maxHeartbeats 4000000 in
set_option maxRecDepth 100000 in
theorem C_X2_isBefore (l : Launch) (D : va_G) (tys : List (ClassId × FieldType)) (nw : List Cond) (hn : nw.all nw_kind = true) (hnw : ∀ w ∈ nw0, w ∈ nw) {ad : Nat → Nat} (hj : ww_inj 46 ad) {cI : ClassId} {cR : ClassId} (htI : tys[0]? = some (cI, .int)) (htR : tys[1]? = some (cR, .object RX2)) {fu : Nat} {M : Fin 20 → Nat → Int32} {E : Nat → Int32} {P : Nat → Fin 20} {C : Nat → Int32} {N : Nat → Int32} {r0 : Fin 20} {p0 : Fin 20} {res : Int32} (hf : f_X2_isBefore fu M r0 p0 = some res) :
    Met l yX2_isBefore usX2_isBefore ({ frames := 1, cells := 0, slots := 0, locals := 21 }) (va_Pc [.ref (ra ad r0), .ref (ra ad p0)] (ws_B D tys nw (ww 46 ad (cellC cI cR ad M E P C N)))) (ct_Q D (ww 46 ad (cellC cI cR ad M E P C N)) (ww_A 46 ad) (some (.int res))) 0 0 (ww_A 46 ad) := by
  refine Met.ofW (cc := cX2_isBefore) (maxL := 5) (ret := (some .boolean)) (by decide) rfl ?_
  intro p e s m args below meth c s₁ B hml hv
  obtain ⟨rfl, hP, hK, hN⟩ := hv
  have hx := B.exec
  have hb := B.bytes
  have hr := B.returns
  have hts := atoms_spec (ws := usX2_isBefore) B.pre
  have hown : s.vm.findClass RX2 = some m.cls := findClass_of_methodNamed B.named
  have hlocks := B.notSynchronized
  have hS : va_S (ww_A 46 ad) s.heap s.heap [] := va_S.rf
  have hl := lv_entry ([.ref (ra ad r0), .ref (ra ad p0)]) (n := 5) (Nat.le_of_ble_eq_true rfl)
  rw [lg_entry_eq]
  generalize (lg_sl ([.ref (ra ad r0), .ref (ra ad p0)]) ++ List.replicate (5 - (lg_sl ([.ref (ra ad r0), .ref (ra ad p0)])).length) Slot.unset).toArray = ls at hl ⊢
  have hl : lv_has ls 5 [(0, .ref (ra ad r0)), (1, .ref (ra ad p0))] := hl
  have L29 : ∀ (x0 : Fin 20) (x1 : Fin 20) (x2 : Int32) (x3 : Int32) (k29 : Int32 → Option (Int32)), (∀ (x4 : Int32) (H : Heap) (locs : List Loc) (ls : Array Slot), va_P D vwCl (ww 46 ad (cellC cI cR ad M E P C N)) H → va_S (ww_A 46 ad) s.heap H locs → lv_has ls 5 [(0, .ref (ra ad x0)), (1, .ref (ra ad x1)), (2, .int x2), (3, .int x3), (4, .int x4)] →  k29 x4 = some res → W p l e (headSpec usX2_isBefore { frames := 1, cells := 0, slots := 0, locals := 21 }).room s m [.ref (ra ad r0), .ref (ra ad p0)].toArray below meth c H locs 0 0 (MQ below (ct_Q D (ww 46 ad (cellC cI cR ad M E P C N)) (ww_A 46 ad) (some (.int res))) [.ref (ra ad r0), .ref (ra ad p0)].toArray s 0 0 (ww_A 46 ad)) (F0 m 76 ls [])) → ∀ (n : Nat) (x4 : Int32) (H : Heap) (locs : List Loc) (ls : Array Slot), va_P D vwCl (ww 46 ad (cellC cI cR ad M E P C N)) H → va_S (ww_A 46 ad) s.heap H locs → lv_has ls 5 [(0, .ref (ra ad x0)), (1, .ref (ra ad x1)), (2, .int x2), (3, .int x3), (4, .int x4)] →  f_X2_isBefore_l29 k29 fu M x0 x1 x2 x3 n x4 = some res → W p l e (headSpec usX2_isBefore { frames := 1, cells := 0, slots := 0, locals := 21 }).room s m [.ref (ra ad r0), .ref (ra ad p0)].toArray below meth c H locs 0 0 (MQ below (ct_Q D (ww 46 ad (cellC cI cR ad M E P C N)) (ww_A 46 ad) (some (.int res))) [.ref (ra ad r0), .ref (ra ad p0)].toArray s 0 0 (ww_A 46 ad)) (F0 m 29 ls []) := by
    intro x0 x1 x2 x3 k29 hk_29 n
    induction n with
    | zero => intro x4 H locs ls hP hS hl hf; rw [f_X2_isBefore_l29] at hf; cases hf
    | succ n ih =>
      intro x4 H locs ls hP hS hl hf
      rw [f_X2_isBefore_l29] at hf
      refine lv_iload hx hb dX2_isBefore_29 (lv_at hl 4 rfl) ?_
      refine lv_if_lt (tgt := 76) hx hb dX2_isBefore_31 (by decide) (fun c6 => ?_) (fun c6 => ?_)
      · rw [if_pos c6] at hf
        exact hk_29 x4 _ _ _ hP hS (lv_sub hl [0, 1, 2, 3, 4] rfl) hf
      · rw [if_neg c6] at hf
        refine lv_aload_n hx hb dX2_isBefore_34 rfl (lv_at hl 0 rfl) ?_
        refine lv_iload hx hb dX2_isBefore_35 (lv_at hl 4 rfl) ?_
        obtain ⟨u7, g8, hf⟩ := Option.bind_eq_some_iff.mp hf
        try dsimp only at hf
        refine ct_call (va_runV (As := [.int x4]) (rest := []) ⟨hx, hb, hml, hown, hts⟩ (C_X2_get l D tys nw hn hnw hj htI htR (res := u7) g8) (cwV 1 hts (gu_V mw_82 mw_72 mw_73 mw_50 mw_65) rfl rfl rfl (by decide +kernel) ⟨Nat.le_of_ble_eq_true rfl, Nat.le_of_ble_eq_true rfl⟩) (ct_preV hn hP hK hN (ci := 2) (k := (20 + (x0).val)) rfl (ra_lt x0) (cl_row x0)) rfl rfl hl.1 rfl (lv_room (Nat.le_of_ble_eq_true rfl)) dX2_isBefore_37 ⟨Nat.zero_le _, Nat.zero_le _⟩) hS (fun H locs hP hS => ?_)
        refine lv_aload_n hx hb dX2_isBefore_40 rfl (lv_at hl 1 rfl) ?_
        refine lv_iload hx hb dX2_isBefore_41 (lv_at hl 4 rfl) ?_
        obtain ⟨u9, g10, hf⟩ := Option.bind_eq_some_iff.mp hf
        try dsimp only at hf
        refine ct_call (va_runV (As := [.int x4]) (rest := [.int u7]) ⟨hx, hb, hml, hown, hts⟩ (C_X2_get l D tys nw hn hnw hj htI htR (res := u9) g10) (cwV 1 hts (gu_V mw_82 mw_72 mw_73 mw_50 mw_65) rfl rfl rfl (by decide +kernel) ⟨Nat.le_of_ble_eq_true rfl, Nat.le_of_ble_eq_true rfl⟩) (ct_preV hn hP hK hN (ci := 2) (k := (20 + (x1).val)) rfl (ra_lt x1) (cl_row x1)) rfl rfl hl.1 rfl (lv_room (Nat.le_of_ble_eq_true rfl)) dX2_isBefore_43 ⟨Nat.zero_le _, Nat.zero_le _⟩) hS (fun H locs hP hS => ?_)
        refine lv_icmp_eq (tgt := 70) hx hb dX2_isBefore_46 (by decide) (fun c11 => ?_) (fun c11 => ?_)
        · rw [if_pos c11] at hf
          refine lv_iinc (v := x4 + (-1)) (lv' := [(4, .int (x4 + (-1))), (0, .ref (ra ad x0)), (1, .ref (ra ad x1)), (2, .int x2), (3, .int x3)]) hx hb dX2_isBefore_70 hl (k := 4) rfl rfl (by decide) rfl (fun ls hl => ?_)
          refine lv_goto (tgt := 29) hx hb dX2_isBefore_73 (by decide) ?_
          exact ih (x4 + (-1)) _ _ _ hP hS (lv_sub hl [1, 2, 3, 4, 0] rfl) hf
        · rw [if_neg c11] at hf
          refine lv_aload_n hx hb dX2_isBefore_49 rfl (lv_at hl 0 rfl) ?_
          refine lv_iload hx hb dX2_isBefore_50 (lv_at hl 4 rfl) ?_
          obtain ⟨u12, g13, hf⟩ := Option.bind_eq_some_iff.mp hf
          try dsimp only at hf
          refine ct_call (va_runV (As := [.int x4]) (rest := []) ⟨hx, hb, hml, hown, hts⟩ (C_X2_get l D tys nw hn hnw hj htI htR (res := u12) g13) (cwV 1 hts (gu_V mw_82 mw_72 mw_73 mw_50 mw_65) rfl rfl rfl (by decide +kernel) ⟨Nat.le_of_ble_eq_true rfl, Nat.le_of_ble_eq_true rfl⟩) (ct_preV hn hP hK hN (ci := 2) (k := (20 + (x0).val)) rfl (ra_lt x0) (cl_row x0)) rfl rfl hl.1 rfl (lv_room (Nat.le_of_ble_eq_true rfl)) dX2_isBefore_52 ⟨Nat.zero_le _, Nat.zero_le _⟩) hS (fun H locs hP hS => ?_)
          refine lv_aload_n hx hb dX2_isBefore_55 rfl (lv_at hl 1 rfl) ?_
          refine lv_iload hx hb dX2_isBefore_56 (lv_at hl 4 rfl) ?_
          obtain ⟨u14, g15, hf⟩ := Option.bind_eq_some_iff.mp hf
          try dsimp only at hf
          refine ct_call (va_runV (As := [.int x4]) (rest := [.int u12]) ⟨hx, hb, hml, hown, hts⟩ (C_X2_get l D tys nw hn hnw hj htI htR (res := u14) g15) (cwV 1 hts (gu_V mw_82 mw_72 mw_73 mw_50 mw_65) rfl rfl rfl (by decide +kernel) ⟨Nat.le_of_ble_eq_true rfl, Nat.le_of_ble_eq_true rfl⟩) (ct_preV hn hP hK hN (ci := 2) (k := (20 + (x1).val)) rfl (ra_lt x1) (cl_row x1)) rfl rfl hl.1 rfl (lv_room (Nat.le_of_ble_eq_true rfl)) dX2_isBefore_58 ⟨Nat.zero_le _, Nat.zero_le _⟩) hS (fun H locs hP hS => ?_)
          refine lv_icmp_ge (tgt := 68) hx hb dX2_isBefore_61 (by decide) (fun c16 => ?_) (fun c16 => ?_)
          · rw [if_pos c16] at hf
            refine lv_iconst (v := 0) hx hb dX2_isBefore_68 (by decide) ?_
            obtain rfl := Option.some.inj hf
            exact W.zret (v := 0) (ty := .boolean) hx hb hr (by decide) (fun t ht hW => ⟨rfl, by rw [ht]; exact hP, hS.F ht⟩) hS.2.2 dX2_isBefore_69
          · rw [if_neg c16] at hf
            refine lv_iconst (v := 1) hx hb dX2_isBefore_64 (by decide) ?_
            refine lv_goto (tgt := 69) hx hb dX2_isBefore_65 (by decide) ?_
            obtain rfl := Option.some.inj hf
            exact W.zret (v := 1) (ty := .boolean) hx hb hr (by decide) (fun t ht hW => ⟨rfl, by rw [ht]; exact hP, hS.F ht⟩) hS.2.2 dX2_isBefore_69
  unfold f_X2_isBefore at hf
  refine lv_aload_n hx hb dX2_isBefore_0 rfl (lv_at hl 0 rfl) ?_
  obtain ⟨u1, g2, hf⟩ := Option.bind_eq_some_iff.mp hf
  try dsimp only at hf
  refine ct_call (va_runV (As := []) (rest := []) ⟨hx, hb, hml, hown, hts⟩ (C_X2_degree l D tys nw hn hnw hj htI htR (res := u1) g2) (cwV 0 hts (gu_V mw_139 mw_68 mw_69 mw_50 mw_64) rfl rfl rfl (by decide +kernel) ⟨Nat.le_of_ble_eq_true rfl, Nat.le_of_ble_eq_true rfl⟩) (ct_preV hn hP hK hN (ci := 2) (k := (20 + (r0).val)) rfl (ra_lt r0) (cl_row r0)) rfl rfl hl.1 rfl (lv_room (Nat.le_of_ble_eq_true rfl)) dX2_isBefore_1 ⟨Nat.zero_le _, Nat.zero_le _⟩) hS (fun H locs hP hS => ?_)
  refine lv_istore_n (lv' := [(2, .int u1), (0, .ref (ra ad r0)), (1, .ref (ra ad p0))]) hx hb dX2_isBefore_4 rfl hl (by decide) rfl (fun ls hl => ?_)
  refine lv_aload_n hx hb dX2_isBefore_5 rfl (lv_at hl 2 rfl) ?_
  obtain ⟨u3, g4, hf⟩ := Option.bind_eq_some_iff.mp hf
  try dsimp only at hf
  refine ct_call (va_runV (As := []) (rest := []) ⟨hx, hb, hml, hown, hts⟩ (C_X2_degree l D tys nw hn hnw hj htI htR (res := u3) g4) (cwV 0 hts (gu_V mw_139 mw_68 mw_69 mw_50 mw_64) rfl rfl rfl (by decide +kernel) ⟨Nat.le_of_ble_eq_true rfl, Nat.le_of_ble_eq_true rfl⟩) (ct_preV hn hP hK hN (ci := 2) (k := (20 + (p0).val)) rfl (ra_lt p0) (cl_row p0)) rfl rfl hl.1 rfl (lv_room (Nat.le_of_ble_eq_true rfl)) dX2_isBefore_6 ⟨Nat.zero_le _, Nat.zero_le _⟩) hS (fun H locs hP hS => ?_)
  refine lv_istore_n (lv' := [(3, .int u3), (2, .int u1), (0, .ref (ra ad r0)), (1, .ref (ra ad p0))]) hx hb dX2_isBefore_9 rfl hl (by decide) rfl (fun ls hl => ?_)
  refine lv_iload_n hx hb dX2_isBefore_10 rfl (lv_at hl 1 rfl) ?_
  refine lv_iload_n hx hb dX2_isBefore_11 rfl (lv_at hl 0 rfl) ?_
  refine lv_icmp_eq (tgt := 26) hx hb dX2_isBefore_12 (by decide) (fun c5 => ?_) (fun c5 => ?_)
  · rw [if_pos c5] at hf
    refine lv_iload_n hx hb dX2_isBefore_26 rfl (lv_at hl 1 rfl) ?_
    refine lv_istore (lv' := [(4, .int u1), (3, .int u3), (2, .int u1), (0, .ref (ra ad r0)), (1, .ref (ra ad p0))]) hx hb dX2_isBefore_27 hl (by decide) rfl (fun ls hl => ?_)
    refine L29 r0 p0 u1 u3 _ (fun y17 H locs ls hP hS hl hf => ?_) fu u1 _ _ _ hP hS (lv_sub hl [3, 4, 2, 1, 0] rfl) hf
    try dsimp only at hf
    refine lv_iconst (v := 0) hx hb dX2_isBefore_76 (by decide) ?_
    obtain rfl := Option.some.inj hf
    exact W.zret (v := 0) (ty := .boolean) hx hb hr (by decide) (fun t ht hW => ⟨rfl, by rw [ht]; exact hP, hS.F ht⟩) hS.2.2 dX2_isBefore_77
  · rw [if_neg c5] at hf
    refine lv_iload_n hx hb dX2_isBefore_15 rfl (lv_at hl 1 rfl) ?_
    refine lv_iload_n hx hb dX2_isBefore_16 rfl (lv_at hl 0 rfl) ?_
    refine lv_icmp_ge (tgt := 24) hx hb dX2_isBefore_17 (by decide) (fun c18 => ?_) (fun c18 => ?_)
    · rw [if_pos c18] at hf
      refine lv_iconst (v := 0) hx hb dX2_isBefore_24 (by decide) ?_
      obtain rfl := Option.some.inj hf
      exact W.zret (v := 0) (ty := .boolean) hx hb hr (by decide) (fun t ht hW => ⟨rfl, by rw [ht]; exact hP, hS.F ht⟩) hS.2.2 dX2_isBefore_25
    · rw [if_neg c18] at hf
      refine lv_iconst (v := 1) hx hb dX2_isBefore_20 (by decide) ?_
      refine lv_goto (tgt := 25) hx hb dX2_isBefore_21 (by decide) ?_
      obtain rfl := Option.some.inj hf
      exact W.zret (v := 1) (ty := .boolean) hx hb hr (by decide) (fun t ht hW => ⟨rfl, by rw [ht]; exact hP, hS.F ht⟩) hS.2.2 dX2_isBefore_25
