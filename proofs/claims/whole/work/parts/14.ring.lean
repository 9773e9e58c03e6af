def f_X1_valueOf_l8 (k8 : Int32 → Int32 → Option (Int32)) (fu : Nat) (M : Fin 20 → Nat → Int32) (E : Nat → Int32) (x1 : Fin 20) (x2 : Int32) : Nat → Int32 → Int32 → Option (Int32)
  | 0, _, _ => none
  | n + 1, x3, x4 =>
    if x4 < 0 then
      k8 x3 x4
    else
      (f_X0_times E x3 x2).bind (fun u4 =>
      (f_X2_get M x1 x4).bind (fun u6 =>
      (f_X0_plus u4 u6).bind (fun u8 =>
      f_X1_valueOf_l8 k8 fu M E x1 x2 n u8 (x4 + (-1)))))
def f_X1_valueOf (fu : Nat) (M : Fin 20 → Nat → Int32) (E : Nat → Int32) (p0 : Fin 20) (p1 : Int32) : Option (Int32) :=
  (f_X2_degree fu M p0).bind (fun u1 =>
  f_X1_valueOf_l8 (fun y10 y11 =>
    some y10) fu M E p0 p1 fu 0 u1)
set_option maxHeartbeats 4000000 in
set_option maxRecDepth 100000 in
theorem C_X1_valueOf (l : Launch) (D : va_G) (tys : List (ClassId × FieldType)) (nw : List Cond) (hn : nw.all nw_kind = true) (hnw : ∀ w ∈ nw0, w ∈ nw) {ad : Nat → Nat} (hj : ww_inj 46 ad) {cI : ClassId} {cR : ClassId} (htI : tys[0]? = some (cI, .int)) (htR : tys[1]? = some (cR, .object RX2)) {fu : Nat} {M : Fin 20 → Nat → Int32} {E : Nat → Int32} {P : Nat → Fin 20} {C : Nat → Int32} {N : Nat → Int32} {p0 : Fin 20} {p1 : Int32} {res : Int32} (hf : f_X1_valueOf fu M E p0 p1 = some res) :
    Met l yX1_valueOf usX1_valueOf ({ frames := 1, cells := 0, slots := 0, locals := 34 }) (va_Pc [.ref (ad 41), .ref (ra ad p0), .int p1] (ws_B D tys nw (ww 46 ad (cellC cI cR ad M E P C N)))) (ct_Q D (ww 46 ad (cellC cI cR ad M E P C N)) (ww_A 46 ad) (some (.int res))) 0 0 (ww_A 46 ad) := by
  refine Met.ofW (cc := cX1_valueOf) (maxL := 5) (ret := (some .int)) (by decide) rfl ?_
  intro p e s m args below meth c s₁ B hml hv
  obtain ⟨rfl, hP, hK, hN⟩ := hv
  have hx := B.exec
  have hb := B.bytes
  have hr := B.returns
  have hts := atoms_spec (ws := usX1_valueOf) B.pre
  have hown : s.vm.findClass RX1 = some m.cls := findClass_of_methodNamed B.named
  have hlocks := B.notSynchronized
  have hS : va_S (ww_A 46 ad) s.heap s.heap [] := va_S.rf
  have hl := lv_entry ([.ref (ad 41), .ref (ra ad p0), .int p1]) (n := 5) (Nat.le_of_ble_eq_true rfl)
  rw [lg_entry_eq]
  generalize (lg_sl ([.ref (ad 41), .ref (ra ad p0), .int p1]) ++ List.replicate (5 - (lg_sl ([.ref (ad 41), .ref (ra ad p0), .int p1])).length) Slot.unset).toArray = ls at hl ⊢
  have hl : lv_has ls 5 [(0, .ref (ad 41)), (1, .ref (ra ad p0)), (2, .int p1)] := hl
  have L8 : ∀ (x1 : Fin 20) (x2 : Int32) (k8 : Int32 → Int32 → Option (Int32)), (∀ (x3 : Int32) (x4 : Int32) (H : Heap) (locs : List Loc) (ls : Array Slot), va_P D vwCl (ww 46 ad (cellC cI cR ad M E P C N)) H → va_S (ww_A 46 ad) s.heap H locs → lv_has ls 5 [(0, .ref (ad 41)), (1, .ref (ra ad x1)), (2, .int x2), (3, .int x3), (4, .int x4)] →  k8 x3 x4 = some res → W p l e (headSpec usX1_valueOf { frames := 1, cells := 0, slots := 0, locals := 34 }).room s m [.ref (ad 41), .ref (ra ad p0), .int p1].toArray below meth c H locs 0 0 (MQ below (ct_Q D (ww 46 ad (cellC cI cR ad M E P C N)) (ww_A 46 ad) (some (.int res))) [.ref (ad 41), .ref (ra ad p0), .int p1].toArray s 0 0 (ww_A 46 ad)) (F0 m 42 ls [])) → ∀ (n : Nat) (x3 : Int32) (x4 : Int32) (H : Heap) (locs : List Loc) (ls : Array Slot), va_P D vwCl (ww 46 ad (cellC cI cR ad M E P C N)) H → va_S (ww_A 46 ad) s.heap H locs → lv_has ls 5 [(0, .ref (ad 41)), (1, .ref (ra ad x1)), (2, .int x2), (3, .int x3), (4, .int x4)] →  f_X1_valueOf_l8 k8 fu M E x1 x2 n x3 x4 = some res → W p l e (headSpec usX1_valueOf { frames := 1, cells := 0, slots := 0, locals := 34 }).room s m [.ref (ad 41), .ref (ra ad p0), .int p1].toArray below meth c H locs 0 0 (MQ below (ct_Q D (ww 46 ad (cellC cI cR ad M E P C N)) (ww_A 46 ad) (some (.int res))) [.ref (ad 41), .ref (ra ad p0), .int p1].toArray s 0 0 (ww_A 46 ad)) (F0 m 8 ls []) := by
    intro x1 x2 k8 hk_8 n
    induction n with
    | zero => intro x3 x4 H locs ls hP hS hl hf; rw [f_X1_valueOf_l8] at hf; cases hf
    | succ n ih =>
      intro x3 x4 H locs ls hP hS hl hf
      rw [f_X1_valueOf_l8] at hf
      refine lv_iload hx hb dX1_valueOf_8 (lv_at hl 4 rfl) ?_
      refine lv_if_lt (tgt := 42) hx hb dX1_valueOf_10 (by decide) (fun c3 => ?_) (fun c3 => ?_)
      · rw [if_pos c3] at hf
        exact hk_8 x3 x4 _ _ _ hP hS (lv_sub hl [0, 1, 2, 3, 4] rfl) hf
      · rw [if_neg c3] at hf
        refine lv_aload_n hx hb dX1_valueOf_13 rfl (lv_at hl 0 rfl) ?_
        refine va_get (ci := 1) (v := .ref (ad 40)) (C := RX1) (T := TX1) (N := 11) hx hb hts (fun w h => BW_in (in_wsX10 w h)) hown hK hP 41 cc_ring rfl 0 (by decide) (hts (.fieldLink RX1 12 "NumberFieldFactors$Ring" "extension" "LNumberFieldFactors$Extension;") (BW_in mw_47)) (fun _ h9 => h9) rfl dX1_valueOf_14 ?_
        refine lv_aload_n hx hb dX1_valueOf_17 rfl (lv_at hl 0 rfl) ?_
        refine va_get (ci := 1) (v := .ref (ad 40)) (C := RX1) (T := TX1) (N := 11) hx hb hts (fun w h => BW_in (in_wsX10 w h)) hown hK hP 41 cc_ring rfl 0 (by decide) (hts (.fieldLink RX1 12 "NumberFieldFactors$Ring" "extension" "LNumberFieldFactors$Extension;") (BW_in mw_47)) (fun _ h9 => h9) rfl dX1_valueOf_18 ?_
        refine lv_iload_n hx hb dX1_valueOf_21 rfl (lv_at hl 3 rfl) ?_
        refine lv_iload_n hx hb dX1_valueOf_22 rfl (lv_at hl 2 rfl) ?_
        obtain ⟨u4, g5, hf⟩ := Option.bind_eq_some_iff.mp hf
        try dsimp only at hf
        refine ct_call (va_runV (As := [.int x3, .int x2]) (rest := [.ref (ad 40)]) ⟨hx, hb, hml, hown, hts⟩ (C_X0_times l D tys nw hn hnw hj htI htR (res := u4) g5) (cwV 2 hts (gu_V mw_70 mw_16 mw_17 mw_18 mw_13) rfl rfl rfl (by decide +kernel) ⟨Nat.le_of_ble_eq_true rfl, Nat.le_of_ble_eq_true rfl⟩) (ct_preV hn hP hK hN (ci := 0) (k := 40) rfl (by decide) rfl) rfl rfl hl.1 rfl (lv_room (Nat.le_of_ble_eq_true rfl)) dX1_valueOf_23 ⟨Nat.zero_le _, Nat.zero_le _⟩) hS (fun H locs hP hS => ?_)
        refine lv_aload_n hx hb dX1_valueOf_26 rfl (lv_at hl 1 rfl) ?_
        refine lv_iload hx hb dX1_valueOf_27 (lv_at hl 4 rfl) ?_
        obtain ⟨u6, g7, hf⟩ := Option.bind_eq_some_iff.mp hf
        try dsimp only at hf
        refine ct_call (va_runV (As := [.int x4]) (rest := [.int u4, .ref (ad 40)]) ⟨hx, hb, hml, hown, hts⟩ (C_X2_get l D tys nw hn hnw hj htI htR (res := u6) g7) (cwV 1 hts (gu_V mw_71 mw_72 mw_73 mw_50 mw_65) rfl rfl rfl (by decide +kernel) ⟨Nat.le_of_ble_eq_true rfl, Nat.le_of_ble_eq_true rfl⟩) (ct_preV hn hP hK hN (ci := 2) (k := (20 + (x1).val)) rfl (ra_lt x1) (cl_row x1)) rfl rfl hl.1 rfl (lv_room (Nat.le_of_ble_eq_true rfl)) dX1_valueOf_29 ⟨Nat.zero_le _, Nat.zero_le _⟩) hS (fun H locs hP hS => ?_)
        obtain ⟨u8, g9, hf⟩ := Option.bind_eq_some_iff.mp hf
        try dsimp only at hf
        refine ct_call (va_runV (As := [.int u4, .int u6]) (rest := []) ⟨hx, hb, hml, hown, hts⟩ (C_X0_plus l D tys nw hn hnw hj htI htR (res := u8) g9) (cwV 2 hts (gu_V mw_74 mw_31 mw_32 mw_18 mw_27) rfl rfl rfl (by decide +kernel) ⟨Nat.le_of_ble_eq_true rfl, Nat.le_of_ble_eq_true rfl⟩) (ct_preV hn hP hK hN (ci := 0) (k := 40) rfl (by decide) rfl) rfl rfl hl.1 rfl (lv_room (Nat.le_of_ble_eq_true rfl)) dX1_valueOf_32 ⟨Nat.zero_le _, Nat.zero_le _⟩) hS (fun H locs hP hS => ?_)
        refine lv_istore_n (lv' := [(3, .int u8), (0, .ref (ad 41)), (1, .ref (ra ad x1)), (2, .int x2), (4, .int x4)]) hx hb dX1_valueOf_35 rfl hl (by decide) rfl (fun ls hl => ?_)
        refine lv_iinc (v := x4 + (-1)) (lv' := [(4, .int (x4 + (-1))), (3, .int u8), (0, .ref (ad 41)), (1, .ref (ra ad x1)), (2, .int x2)]) hx hb dX1_valueOf_36 hl (k := 4) rfl rfl (by decide) rfl (fun ls hl => ?_)
        refine lv_goto (tgt := 8) hx hb dX1_valueOf_39 (by decide) ?_
        exact ih u8 (x4 + (-1)) _ _ _ hP hS (lv_sub hl [2, 3, 4, 1, 0] rfl) hf
  unfold f_X1_valueOf at hf
  refine lv_iconst (v := 0) hx hb dX1_valueOf_0 (by decide) ?_
  refine lv_istore_n (lv' := [(3, .int 0), (0, .ref (ad 41)), (1, .ref (ra ad p0)), (2, .int p1)]) hx hb dX1_valueOf_1 rfl hl (by decide) rfl (fun ls hl => ?_)
  refine lv_aload_n hx hb dX1_valueOf_2 rfl (lv_at hl 2 rfl) ?_
  obtain ⟨u1, g2, hf⟩ := Option.bind_eq_some_iff.mp hf
  try dsimp only at hf
  refine ct_call (va_runV (As := []) (rest := []) ⟨hx, hb, hml, hown, hts⟩ (C_X2_degree l D tys nw hn hnw hj htI htR (res := u1) g2) (cwV 0 hts (gu_V mw_67 mw_68 mw_69 mw_50 mw_64) rfl rfl rfl (by decide +kernel) ⟨Nat.le_of_ble_eq_true rfl, Nat.le_of_ble_eq_true rfl⟩) (ct_preV hn hP hK hN (ci := 2) (k := (20 + (p0).val)) rfl (ra_lt p0) (cl_row p0)) rfl rfl hl.1 rfl (lv_room (Nat.le_of_ble_eq_true rfl)) dX1_valueOf_3 ⟨Nat.zero_le _, Nat.zero_le _⟩) hS (fun H locs hP hS => ?_)
  refine lv_istore (lv' := [(4, .int u1), (3, .int 0), (0, .ref (ad 41)), (1, .ref (ra ad p0)), (2, .int p1)]) hx hb dX1_valueOf_6 hl (by decide) rfl (fun ls hl => ?_)
  refine L8 p0 p1 _ (fun y10 y11 H locs ls hP hS hl hf => ?_) fu 0 u1 _ _ _ hP hS (lv_sub hl [2, 3, 4, 1, 0] rfl) hf
  try dsimp only at hf
  refine lv_iload_n hx hb dX1_valueOf_42 rfl (lv_at hl 3 rfl) ?_
  obtain rfl := Option.some.inj hf
  exact W.iret (v := y10) hx hb hr (fun t ht hW => ⟨rfl, by rw [ht]; exact hP, hS.F ht⟩) hS.2.2 dX1_valueOf_43
def f_X1_displace_l19 (k19 : Int32 → (Fin 20 → Nat → Int32) → Option ((Fin 20 → Nat → Int32))) (fu : Nat) (E : Nat → Int32) (x1 : Fin 20) (x2 : Int32) (x3 : Int32) (x4 : Int32) : Nat → Int32 → (Fin 20 → Nat → Int32) → Option ((Fin 20 → Nat → Int32))
  | 0, _, _ => none
  | n + 1, x5, M =>
    if x5 < x4 then
      k19 x5 M
    else
      (f_X2_get M x1 x5).bind (fun u6 =>
      (f_X2_get M x1 (x5 + 1)).bind (fun u8 =>
      (f_X0_times E x2 u8).bind (fun u10 =>
      (f_X0_plus u6 u10).bind (fun u12 =>
      (f_X2_set M x1 x5 u12).bind (fun u14 =>
      f_X1_displace_l19 k19 fu E x1 x2 x3 x4 n (x5 + (-1)) u14)))))
def f_X1_displace_l8 (k8 : Int32 → (Fin 20 → Nat → Int32) → Option ((Fin 20 → Nat → Int32))) (fu : Nat) (E : Nat → Int32) (x1 : Fin 20) (x2 : Int32) (x3 : Int32) : Nat → Int32 → (Fin 20 → Nat → Int32) → Option ((Fin 20 → Nat → Int32))
  | 0, _, _ => none
  | n + 1, x4, M =>
    if x3 ≤ x4 then
      k8 x4 M
    else
      nm (x3 - 1) (fun v4 =>
      f_X1_displace_l19 (fun y16 M17 =>
        f_X1_displace_l8 k8 fu E x1 x2 x3 n (x4 + 1) M17) fu E x1 x2 x3 x4 fu v4 M)
def f_X1_displace (fu : Nat) (M : Fin 20 → Nat → Int32) (E : Nat → Int32) (p0 : Fin 20) (p1 : Int32) : Option ((Fin 20 → Nat → Int32)) :=
  (f_X2_degree fu M p0).bind (fun u1 =>
  f_X1_displace_l8 (fun y18 M19 =>
    some M19) fu E p0 p1 u1 fu 0 M)
set_option maxHeartbeats 4000000 in
set_option maxRecDepth 100000 in
theorem C_X1_displace (l : Launch) (D : va_G) (tys : List (ClassId × FieldType)) (nw : List Cond) (hn : nw.all nw_kind = true) (hnw : ∀ w ∈ nw0, w ∈ nw) {ad : Nat → Nat} (hj : ww_inj 46 ad) {cI : ClassId} {cR : ClassId} (htI : tys[0]? = some (cI, .int)) (htR : tys[1]? = some (cR, .object RX2)) {fu : Nat} {M : Fin 20 → Nat → Int32} {E : Nat → Int32} {P : Nat → Fin 20} {C : Nat → Int32} {N : Nat → Int32} {p0 : Fin 20} {p1 : Int32} {res : (Fin 20 → Nat → Int32)} (hf : f_X1_displace fu M E p0 p1 = some res) :
    Met l yX1_displace usX1_displace ({ frames := 1, cells := 0, slots := 0, locals := 34 }) (va_Pc [.ref (ad 41), .ref (ra ad p0), .int p1] (ws_B D tys nw (ww 46 ad (cellC cI cR ad M E P C N)))) (ct_Q D (ww 46 ad (cellC cI cR ad res E P C N)) (ww_A 46 ad) (none)) 0 0 (ww_A 46 ad) := by
  refine Met.ofW (cc := cX1_displace) (maxL := 6) (ret := none) (by decide) rfl ?_
  intro p e s m args below meth c s₁ B hml hv
  obtain ⟨rfl, hP, hK, hN⟩ := hv
  have hx := B.exec
  have hb := B.bytes
  have hr := B.returns
  have hts := atoms_spec (ws := usX1_displace) B.pre
  have hown : s.vm.findClass RX1 = some m.cls := findClass_of_methodNamed B.named
  have hlocks := B.notSynchronized
  have hS : va_S (ww_A 46 ad) s.heap s.heap [] := va_S.rf
  have hl := lv_entry ([.ref (ad 41), .ref (ra ad p0), .int p1]) (n := 6) (Nat.le_of_ble_eq_true rfl)
  rw [lg_entry_eq]
  generalize (lg_sl ([.ref (ad 41), .ref (ra ad p0), .int p1]) ++ List.replicate (6 - (lg_sl ([.ref (ad 41), .ref (ra ad p0), .int p1])).length) Slot.unset).toArray = ls at hl ⊢
  have hl : lv_has ls 6 [(0, .ref (ad 41)), (1, .ref (ra ad p0)), (2, .int p1)] := hl
  have L19 : ∀ (x1 : Fin 20) (x2 : Int32) (x3 : Int32) (x4 : Int32) (k19 : Int32 → (Fin 20 → Nat → Int32) → Option ((Fin 20 → Nat → Int32))), (∀ (x5 : Int32) (M : Fin 20 → Nat → Int32) (H : Heap) (locs : List Loc) (ls : Array Slot), va_P D vwCl (ww 46 ad (cellC cI cR ad M E P C N)) H → va_S (ww_A 46 ad) s.heap H locs → lv_has ls 6 [(0, .ref (ad 41)), (1, .ref (ra ad x1)), (2, .int x2), (3, .int x3), (4, .int x4), (5, .int x5)] →  k19 x5 M = some res → W p l e (headSpec usX1_displace { frames := 1, cells := 0, slots := 0, locals := 34 }).room s m [.ref (ad 41), .ref (ra ad p0), .int p1].toArray below meth c H locs 0 0 (MQ below (ct_Q D (ww 46 ad (cellC cI cR ad res E P C N)) (ww_A 46 ad) (none)) [.ref (ad 41), .ref (ra ad p0), .int p1].toArray s 0 0 (ww_A 46 ad)) (F0 m 67 ls [])) → ∀ (n : Nat) (x5 : Int32) (M : Fin 20 → Nat → Int32) (H : Heap) (locs : List Loc) (ls : Array Slot), va_P D vwCl (ww 46 ad (cellC cI cR ad M E P C N)) H → va_S (ww_A 46 ad) s.heap H locs → lv_has ls 6 [(0, .ref (ad 41)), (1, .ref (ra ad x1)), (2, .int x2), (3, .int x3), (4, .int x4), (5, .int x5)] →  f_X1_displace_l19 k19 fu E x1 x2 x3 x4 n x5 M = some res → W p l e (headSpec usX1_displace { frames := 1, cells := 0, slots := 0, locals := 34 }).room s m [.ref (ad 41), .ref (ra ad p0), .int p1].toArray below meth c H locs 0 0 (MQ below (ct_Q D (ww 46 ad (cellC cI cR ad res E P C N)) (ww_A 46 ad) (none)) [.ref (ad 41), .ref (ra ad p0), .int p1].toArray s 0 0 (ww_A 46 ad)) (F0 m 19 ls []) := by
    intro x1 x2 x3 x4 k19 hk_19 n
    induction n with
    | zero => intro x5 M H locs ls hP hS hl hf; rw [f_X1_displace_l19] at hf; cases hf
    | succ n ih =>
      intro x5 M H locs ls hP hS hl hf
      rw [f_X1_displace_l19] at hf
      refine lv_iload hx hb dX1_displace_19 (lv_at hl 5 rfl) ?_
      refine lv_iload hx hb dX1_displace_21 (lv_at hl 4 rfl) ?_
      refine lv_icmp_lt (tgt := 67) hx hb dX1_displace_23 (by decide) (fun c5 => ?_) (fun c5 => ?_)
      · rw [if_pos c5] at hf
        exact hk_19 x5 M _ _ _ hP hS (lv_sub hl [0, 1, 2, 3, 4, 5] rfl) hf
      · rw [if_neg c5] at hf
        refine lv_aload_n hx hb dX1_displace_26 rfl (lv_at hl 1 rfl) ?_
        refine lv_iload hx hb dX1_displace_27 (lv_at hl 5 rfl) ?_
        refine lv_aload_n hx hb dX1_displace_29 rfl (lv_at hl 0 rfl) ?_
        refine va_get (ci := 1) (v := .ref (ad 40)) (C := RX1) (T := TX1) (N := 11) hx hb hts (fun w h => BW_in (in_wsX10 w h)) hown hK hP 41 cc_ring rfl 0 (by decide) (hts (.fieldLink RX1 12 "NumberFieldFactors$Ring" "extension" "LNumberFieldFactors$Extension;") (BW_in mw_47)) (fun _ h9 => h9) rfl dX1_displace_30 ?_
        refine lv_aload_n hx hb dX1_displace_33 rfl (lv_at hl 1 rfl) ?_
        refine lv_iload hx hb dX1_displace_34 (lv_at hl 5 rfl) ?_
        obtain ⟨u6, g7, hf⟩ := Option.bind_eq_some_iff.mp hf
        try dsimp only at hf
        refine ct_call (va_runV (As := [.int x5]) (rest := [.ref (ad 40), .int x5, .ref (ra ad x1)]) ⟨hx, hb, hml, hown, hts⟩ (C_X2_get l D tys nw hn hnw hj htI htR (res := u6) g7) (cwV 1 hts (gu_V mw_71 mw_72 mw_73 mw_50 mw_65) rfl rfl rfl (by decide +kernel) ⟨Nat.le_of_ble_eq_true rfl, Nat.le_of_ble_eq_true rfl⟩) (ct_preV hn hP hK hN (ci := 2) (k := (20 + (x1).val)) rfl (ra_lt x1) (cl_row x1)) rfl rfl hl.1 rfl (lv_room (Nat.le_of_ble_eq_true rfl)) dX1_displace_36 ⟨Nat.zero_le _, Nat.zero_le _⟩) hS (fun H locs hP hS => ?_)
        refine lv_aload_n hx hb dX1_displace_39 rfl (lv_at hl 0 rfl) ?_
        refine va_get (ci := 1) (v := .ref (ad 40)) (C := RX1) (T := TX1) (N := 11) hx hb hts (fun w h => BW_in (in_wsX10 w h)) hown hK hP 41 cc_ring rfl 0 (by decide) (hts (.fieldLink RX1 12 "NumberFieldFactors$Ring" "extension" "LNumberFieldFactors$Extension;") (BW_in mw_47)) (fun _ h9 => h9) rfl dX1_displace_40 ?_
        refine lv_iload_n hx hb dX1_displace_43 rfl (lv_at hl 2 rfl) ?_
        refine lv_aload_n hx hb dX1_displace_44 rfl (lv_at hl 1 rfl) ?_
        refine lv_iload hx hb dX1_displace_45 (lv_at hl 5 rfl) ?_
        refine lv_iconst (v := 1) hx hb dX1_displace_47 (by decide) ?_
        refine lv_iadd hx hb dX1_displace_48 ?_
        obtain ⟨u8, g9, hf⟩ := Option.bind_eq_some_iff.mp hf
        try dsimp only at hf
        refine ct_call (va_runV (As := [.int (x5 + 1)]) (rest := [.int x2, .ref (ad 40), .int u6, .ref (ad 40), .int x5, .ref (ra ad x1)]) ⟨hx, hb, hml, hown, hts⟩ (C_X2_get l D tys nw hn hnw hj htI htR (res := u8) g9) (cwV 1 hts (gu_V mw_71 mw_72 mw_73 mw_50 mw_65) rfl rfl rfl (by decide +kernel) ⟨Nat.le_of_ble_eq_true rfl, Nat.le_of_ble_eq_true rfl⟩) (ct_preV hn hP hK hN (ci := 2) (k := (20 + (x1).val)) rfl (ra_lt x1) (cl_row x1)) rfl rfl hl.1 rfl (lv_room (Nat.le_of_ble_eq_true rfl)) dX1_displace_49 ⟨Nat.zero_le _, Nat.zero_le _⟩) hS (fun H locs hP hS => ?_)
        obtain ⟨u10, g11, hf⟩ := Option.bind_eq_some_iff.mp hf
        try dsimp only at hf
        refine ct_call (va_runV (As := [.int x2, .int u8]) (rest := [.int u6, .ref (ad 40), .int x5, .ref (ra ad x1)]) ⟨hx, hb, hml, hown, hts⟩ (C_X0_times l D tys nw hn hnw hj htI htR (res := u10) g11) (cwV 2 hts (gu_V mw_70 mw_16 mw_17 mw_18 mw_13) rfl rfl rfl (by decide +kernel) ⟨Nat.le_of_ble_eq_true rfl, Nat.le_of_ble_eq_true rfl⟩) (ct_preV hn hP hK hN (ci := 0) (k := 40) rfl (by decide) rfl) rfl rfl hl.1 rfl (lv_room (Nat.le_of_ble_eq_true rfl)) dX1_displace_52 ⟨Nat.zero_le _, Nat.zero_le _⟩) hS (fun H locs hP hS => ?_)
        obtain ⟨u12, g13, hf⟩ := Option.bind_eq_some_iff.mp hf
        try dsimp only at hf
        refine ct_call (va_runV (As := [.int u6, .int u10]) (rest := [.int x5, .ref (ra ad x1)]) ⟨hx, hb, hml, hown, hts⟩ (C_X0_plus l D tys nw hn hnw hj htI htR (res := u12) g13) (cwV 2 hts (gu_V mw_74 mw_31 mw_32 mw_18 mw_27) rfl rfl rfl (by decide +kernel) ⟨Nat.le_of_ble_eq_true rfl, Nat.le_of_ble_eq_true rfl⟩) (ct_preV hn hP hK hN (ci := 0) (k := 40) rfl (by decide) rfl) rfl rfl hl.1 rfl (lv_room (Nat.le_of_ble_eq_true rfl)) dX1_displace_55 ⟨Nat.zero_le _, Nat.zero_le _⟩) hS (fun H locs hP hS => ?_)
        obtain ⟨u14, g15, hf⟩ := Option.bind_eq_some_iff.mp hf
        try dsimp only at hf
        refine ct_call (va_runV (As := [.int x5, .int u12]) (rest := []) ⟨hx, hb, hml, hown, hts⟩ (C_X2_set l D tys nw hn hnw hj htI htR (res := u14) g15) (cwV 2 hts (gu_V mw_76 mw_77 mw_78 mw_50 mw_75) rfl rfl rfl (by decide +kernel) ⟨Nat.le_of_ble_eq_true rfl, Nat.le_of_ble_eq_true rfl⟩) (ct_preV hn hP hK hN (ci := 2) (k := (20 + (x1).val)) rfl (ra_lt x1) (cl_row x1)) rfl rfl hl.1 rfl (lv_room (Nat.le_of_ble_eq_true rfl)) dX1_displace_58 ⟨Nat.zero_le _, Nat.zero_le _⟩) hS (fun H locs hP hS => ?_)
        refine lv_iinc (v := x5 + (-1)) (lv' := [(5, .int (x5 + (-1))), (0, .ref (ad 41)), (1, .ref (ra ad x1)), (2, .int x2), (3, .int x3), (4, .int x4)]) hx hb dX1_displace_61 hl (k := 5) rfl rfl (by decide) rfl (fun ls hl => ?_)
        refine lv_goto (tgt := 19) hx hb dX1_displace_64 (by decide) ?_
        exact ih (x5 + (-1)) u14 _ _ _ hP hS (lv_sub hl [1, 2, 3, 4, 5, 0] rfl) hf
  have L8 : ∀ (x1 : Fin 20) (x2 : Int32) (x3 : Int32) (k8 : Int32 → (Fin 20 → Nat → Int32) → Option ((Fin 20 → Nat → Int32))), (∀ (x4 : Int32) (M : Fin 20 → Nat → Int32) (H : Heap) (locs : List Loc) (ls : Array Slot), va_P D vwCl (ww 46 ad (cellC cI cR ad M E P C N)) H → va_S (ww_A 46 ad) s.heap H locs → lv_has ls 6 [(0, .ref (ad 41)), (1, .ref (ra ad x1)), (2, .int x2), (3, .int x3), (4, .int x4)] →  k8 x4 M = some res → W p l e (headSpec usX1_displace { frames := 1, cells := 0, slots := 0, locals := 34 }).room s m [.ref (ad 41), .ref (ra ad p0), .int p1].toArray below meth c H locs 0 0 (MQ below (ct_Q D (ww 46 ad (cellC cI cR ad res E P C N)) (ww_A 46 ad) (none)) [.ref (ad 41), .ref (ra ad p0), .int p1].toArray s 0 0 (ww_A 46 ad)) (F0 m 73 ls [])) → ∀ (n : Nat) (x4 : Int32) (M : Fin 20 → Nat → Int32) (H : Heap) (locs : List Loc) (ls : Array Slot), va_P D vwCl (ww 46 ad (cellC cI cR ad M E P C N)) H → va_S (ww_A 46 ad) s.heap H locs → lv_has ls 6 [(0, .ref (ad 41)), (1, .ref (ra ad x1)), (2, .int x2), (3, .int x3), (4, .int x4)] →  f_X1_displace_l8 k8 fu E x1 x2 x3 n x4 M = some res → W p l e (headSpec usX1_displace { frames := 1, cells := 0, slots := 0, locals := 34 }).room s m [.ref (ad 41), .ref (ra ad p0), .int p1].toArray below meth c H locs 0 0 (MQ below (ct_Q D (ww 46 ad (cellC cI cR ad res E P C N)) (ww_A 46 ad) (none)) [.ref (ad 41), .ref (ra ad p0), .int p1].toArray s 0 0 (ww_A 46 ad)) (F0 m 8 ls []) := by
    intro x1 x2 x3 k8 hk_8 n
    induction n with
    | zero => intro x4 M H locs ls hP hS hl hf; rw [f_X1_displace_l8] at hf; cases hf
    | succ n ih =>
      intro x4 M H locs ls hP hS hl hf
      rw [f_X1_displace_l8] at hf
      refine lv_iload hx hb dX1_displace_8 (lv_at hl 4 rfl) ?_
      refine lv_iload_n hx hb dX1_displace_10 rfl (lv_at hl 3 rfl) ?_
      refine lv_icmp_ge (tgt := 73) hx hb dX1_displace_11 (by decide) (fun c3 => ?_) (fun c3 => ?_)
      · rw [if_pos c3] at hf
        exact hk_8 x4 M _ _ _ hP hS (lv_sub hl [0, 1, 2, 3, 4] rfl) hf
      · rw [if_neg c3] at hf
        refine lv_iload_n hx hb dX1_displace_14 rfl (lv_at hl 3 rfl) ?_
        refine lv_iconst (v := 1) hx hb dX1_displace_15 (by decide) ?_
        refine lv_isub hx hb dX1_displace_16 ?_
        obtain ⟨v4, ev4, hf⟩ := nm_elim hf
        try dsimp only at hf
        refine tp_I ev4 ?_
        refine lv_istore (lv' := [(5, .int v4), (0, .ref (ad 41)), (1, .ref (ra ad x1)), (2, .int x2), (3, .int x3), (4, .int x4)]) hx hb dX1_displace_17 hl (by decide) rfl (fun ls hl => ?_)
        refine L19 x1 x2 x3 x4 _ (fun y16 M17 H locs ls hP hS hl hf => ?_) fu v4 M _ _ _ hP hS (lv_sub hl [1, 2, 3, 4, 5, 0] rfl) hf
        try dsimp only at hf
        refine lv_iinc (v := x4 + 1) (lv' := [(4, .int (x4 + 1)), (0, .ref (ad 41)), (1, .ref (ra ad x1)), (2, .int x2), (3, .int x3), (5, .int y16)]) hx hb dX1_displace_67 hl (k := 4) rfl rfl (by decide) rfl (fun ls hl => ?_)
        refine lv_goto (tgt := 8) hx hb dX1_displace_70 (by decide) ?_
        exact ih (x4 + 1) M17 _ _ _ hP hS (lv_sub hl [1, 2, 3, 4, 0] rfl) hf
  unfold f_X1_displace at hf
  refine lv_aload_n hx hb dX1_displace_0 rfl (lv_at hl 1 rfl) ?_
  obtain ⟨u1, g2, hf⟩ := Option.bind_eq_some_iff.mp hf
  try dsimp only at hf
  refine ct_call (va_runV (As := []) (rest := []) ⟨hx, hb, hml, hown, hts⟩ (C_X2_degree l D tys nw hn hnw hj htI htR (res := u1) g2) (cwV 0 hts (gu_V mw_67 mw_68 mw_69 mw_50 mw_64) rfl rfl rfl (by decide +kernel) ⟨Nat.le_of_ble_eq_true rfl, Nat.le_of_ble_eq_true rfl⟩) (ct_preV hn hP hK hN (ci := 2) (k := (20 + (p0).val)) rfl (ra_lt p0) (cl_row p0)) rfl rfl hl.1 rfl (lv_room (Nat.le_of_ble_eq_true rfl)) dX1_displace_1 ⟨Nat.zero_le _, Nat.zero_le _⟩) hS (fun H locs hP hS => ?_)
  refine lv_istore_n (lv' := [(3, .int u1), (0, .ref (ad 41)), (1, .ref (ra ad p0)), (2, .int p1)]) hx hb dX1_displace_4 rfl hl (by decide) rfl (fun ls hl => ?_)
  refine lv_iconst (v := 0) hx hb dX1_displace_5 (by decide) ?_
  refine lv_istore (lv' := [(4, .int 0), (3, .int u1), (0, .ref (ad 41)), (1, .ref (ra ad p0)), (2, .int p1)]) hx hb dX1_displace_6 hl (by decide) rfl (fun ls hl => ?_)
  refine L8 p0 p1 u1 _ (fun y18 M19 H locs ls hP hS hl hf => ?_) fu 0 M _ _ _ hP hS (lv_sub hl [2, 3, 4, 1, 0] rfl) hf
  try dsimp only at hf
  obtain rfl := Option.some.inj hf
  exact W.vret hx hb hr (fun t ht hW => ⟨rfl, by rw [ht]; exact hP, hS.F ht⟩) hS.2.2 dX1_displace_73
def f_X1_multiply_l38 (k38 : Int32 → (Fin 20 → Nat → Int32) → Option ((Fin 20 → Nat → Int32))) (fu : Nat) (E : Nat → Int32) (x1 : Fin 20) (x2 : Fin 20) (x3 : Int32) (x4 : Int32) (x5 : Int32) (x6 : Int32) : Nat → Int32 → (Fin 20 → Nat → Int32) → Option ((Fin 20 → Nat → Int32))
  | 0, _, _ => none
  | n + 1, x7, M =>
    if x6 = 0 then
      k38 x7 M
    else
      if x4 < x7 then
        k38 x7 M
      else
        (f_X2_get M (1 : Fin 20) (x5 + x7)).bind (fun u12 =>
        (f_X2_get M x2 x7).bind (fun u14 =>
        (f_X0_times E x6 u14).bind (fun u16 =>
        (f_X0_plus u12 u16).bind (fun u18 =>
        (f_X2_set M (1 : Fin 20) (x5 + x7) u18).bind (fun u20 =>
        f_X1_multiply_l38 k38 fu E x1 x2 x3 x4 x5 x6 n (x7 + 1) u20)))))
def f_X1_multiply_l21 (k21 : Int32 → (Fin 20 → Nat → Int32) → Option ((Fin 20 → Nat → Int32))) (fu : Nat) (E : Nat → Int32) (x1 : Fin 20) (x2 : Fin 20) (x3 : Int32) (x4 : Int32) : Nat → Int32 → (Fin 20 → Nat → Int32) → Option ((Fin 20 → Nat → Int32))
  | 0, _, _ => none
  | n + 1, x5, M =>
    if x3 < x5 then
      k21 x5 M
    else
      (f_X2_get M x1 x5).bind (fun u8 =>
      f_X1_multiply_l38 (fun y22 M23 =>
        f_X1_multiply_l21 k21 fu E x1 x2 x3 x4 n (x5 + 1) M23) fu E x1 x2 x3 x4 x5 u8 fu 0 M)
def f_X1_multiply (fu : Nat) (M : Fin 20 → Nat → Int32) (E : Nat → Int32) (p0 : Fin 20) (p1 : Fin 20) : Option ((Fin 20 → Nat → Int32)) :=
  (f_X2_degree fu M p0).bind (fun u1 =>
  (f_X2_degree fu M p1).bind (fun u3 =>
  (f_X2_clear fu M (1 : Fin 20)).bind (fun u5 =>
  f_X1_multiply_l21 (fun y24 M25 =>
    (f_X2_copy fu M25 p0 (1 : Fin 20)).bind (fun u26 =>
    some u26)) fu E p0 p1 u1 u3 fu 0 u5)))
set_option maxHeartbeats 4000000 in
set_option maxRecDepth 100000 in
theorem C_X1_multiply (l : Launch) (D : va_G) (tys : List (ClassId × FieldType)) (nw : List Cond) (hn : nw.all nw_kind = true) (hnw : ∀ w ∈ nw0, w ∈ nw) {ad : Nat → Nat} (hj : ww_inj 46 ad) {cI : ClassId} {cR : ClassId} (htI : tys[0]? = some (cI, .int)) (htR : tys[1]? = some (cR, .object RX2)) {fu : Nat} {M : Fin 20 → Nat → Int32} {E : Nat → Int32} {P : Nat → Fin 20} {C : Nat → Int32} {N : Nat → Int32} {p0 : Fin 20} {p1 : Fin 20} {res : (Fin 20 → Nat → Int32)} (hf : f_X1_multiply fu M E p0 p1 = some res) :
    Met l yX1_multiply usX1_multiply ({ frames := 2, cells := 0, slots := 0, locals := 43 }) (va_Pc [.ref (ad 41), .ref (ra ad p0), .ref (ra ad p1)] (ws_B D tys nw (ww 46 ad (cellC cI cR ad M E P C N)))) (ct_Q D (ww 46 ad (cellC cI cR ad res E P C N)) (ww_A 46 ad) (none)) 0 0 (ww_A 46 ad) := by
  refine Met.ofW (cc := cX1_multiply) (maxL := 8) (ret := none) (by decide) rfl ?_
  intro p e s m args below meth c s₁ B hml hv
  obtain ⟨rfl, hP, hK, hN⟩ := hv
  have hx := B.exec
  have hb := B.bytes
  have hr := B.returns
  have hts := atoms_spec (ws := usX1_multiply) B.pre
  have hown : s.vm.findClass RX1 = some m.cls := findClass_of_methodNamed B.named
  have hlocks := B.notSynchronized
  have hS : va_S (ww_A 46 ad) s.heap s.heap [] := va_S.rf
  have hl := lv_entry ([.ref (ad 41), .ref (ra ad p0), .ref (ra ad p1)]) (n := 8) (Nat.le_of_ble_eq_true rfl)
  rw [lg_entry_eq]
  generalize (lg_sl ([.ref (ad 41), .ref (ra ad p0), .ref (ra ad p1)]) ++ List.replicate (8 - (lg_sl ([.ref (ad 41), .ref (ra ad p0), .ref (ra ad p1)])).length) Slot.unset).toArray = ls at hl ⊢
  have hl : lv_has ls 8 [(0, .ref (ad 41)), (1, .ref (ra ad p0)), (2, .ref (ra ad p1))] := hl
  have L38 : ∀ (x1 : Fin 20) (x2 : Fin 20) (x3 : Int32) (x4 : Int32) (x5 : Int32) (x6 : Int32) (k38 : Int32 → (Fin 20 → Nat → Int32) → Option ((Fin 20 → Nat → Int32))), (∀ (x7 : Int32) (M : Fin 20 → Nat → Int32) (H : Heap) (locs : List Loc) (ls : Array Slot), va_P D vwCl (ww 46 ad (cellC cI cR ad M E P C N)) H → va_S (ww_A 46 ad) s.heap H locs → lv_has ls 8 [(0, .ref (ad 41)), (1, .ref (ra ad x1)), (2, .ref (ra ad x2)), (3, .int x3), (4, .int x4), (5, .int x5), (6, .int x6), (7, .int x7)] →  k38 x7 M = some res → W p l e (headSpec usX1_multiply { frames := 2, cells := 0, slots := 0, locals := 43 }).room s m [.ref (ad 41), .ref (ra ad p0), .ref (ra ad p1)].toArray below meth c H locs 0 0 (MQ below (ct_Q D (ww 46 ad (cellC cI cR ad res E P C N)) (ww_A 46 ad) (none)) [.ref (ad 41), .ref (ra ad p0), .ref (ra ad p1)].toArray s 0 0 (ww_A 46 ad)) (F0 m 102 ls [])) → ∀ (n : Nat) (x7 : Int32) (M : Fin 20 → Nat → Int32) (H : Heap) (locs : List Loc) (ls : Array Slot), va_P D vwCl (ww 46 ad (cellC cI cR ad M E P C N)) H → va_S (ww_A 46 ad) s.heap H locs → lv_has ls 8 [(0, .ref (ad 41)), (1, .ref (ra ad x1)), (2, .ref (ra ad x2)), (3, .int x3), (4, .int x4), (5, .int x5), (6, .int x6), (7, .int x7)] →  f_X1_multiply_l38 k38 fu E x1 x2 x3 x4 x5 x6 n x7 M = some res → W p l e (headSpec usX1_multiply { frames := 2, cells := 0, slots := 0, locals := 43 }).room s m [.ref (ad 41), .ref (ra ad p0), .ref (ra ad p1)].toArray below meth c H locs 0 0 (MQ below (ct_Q D (ww 46 ad (cellC cI cR ad res E P C N)) (ww_A 46 ad) (none)) [.ref (ad 41), .ref (ra ad p0), .ref (ra ad p1)].toArray s 0 0 (ww_A 46 ad)) (F0 m 38 ls []) := by
    intro x1 x2 x3 x4 x5 x6 k38 hk_38 n
    induction n with
    | zero => intro x7 M H locs ls hP hS hl hf; rw [f_X1_multiply_l38] at hf; cases hf
    | succ n ih =>
      intro x7 M H locs ls hP hS hl hf
      rw [f_X1_multiply_l38] at hf
      refine lv_iload hx hb dX1_multiply_38 (lv_at hl 6 rfl) ?_
      refine lv_if_eq (tgt := 102) hx hb dX1_multiply_40 (by decide) (fun c10 => ?_) (fun c10 => ?_)
      · rw [if_pos c10] at hf
        exact hk_38 x7 M _ _ _ hP hS (lv_sub hl [0, 1, 2, 3, 4, 5, 6, 7] rfl) hf
      · rw [if_neg c10] at hf
        refine lv_iload hx hb dX1_multiply_43 (lv_at hl 7 rfl) ?_
        refine lv_iload hx hb dX1_multiply_45 (lv_at hl 4 rfl) ?_
        refine lv_icmp_gt (tgt := 102) hx hb dX1_multiply_47 (by decide) (fun c11 => ?_) (fun c11 => ?_)
        · rw [if_pos c11] at hf
          exact hk_38 x7 M _ _ _ hP hS (lv_sub hl [0, 1, 2, 3, 4, 5, 6, 7] rfl) hf
        · rw [if_neg c11] at hf
          refine lv_aload_n hx hb dX1_multiply_50 rfl (lv_at hl 0 rfl) ?_
          refine va_get (ci := 1) (v := .ref (ra ad (1 : Fin 20))) (C := RX1) (T := TX1) (N := 11) hx hb hts (fun w h => BW_in (in_wsX10 w h)) hown hK hP 41 cc_ring rfl 1 (by decide) (hts (.fieldLink RX1 21 "NumberFieldFactors$Ring" "wide" "LNumberFieldFactors$Row;") (BW_in mw_51)) (fun _ h9 => h9) rfl dX1_multiply_51 ?_
          refine lv_iload hx hb dX1_multiply_54 (lv_at hl 5 rfl) ?_
          refine lv_iload hx hb dX1_multiply_56 (lv_at hl 7 rfl) ?_
          refine lv_iadd hx hb dX1_multiply_58 ?_
          refine lv_aload_n hx hb dX1_multiply_59 rfl (lv_at hl 0 rfl) ?_
          refine va_get (ci := 1) (v := .ref (ad 40)) (C := RX1) (T := TX1) (N := 11) hx hb hts (fun w h => BW_in (in_wsX10 w h)) hown hK hP 41 cc_ring rfl 0 (by decide) (hts (.fieldLink RX1 12 "NumberFieldFactors$Ring" "extension" "LNumberFieldFactors$Extension;") (BW_in mw_47)) (fun _ h9 => h9) rfl dX1_multiply_60 ?_
          refine lv_aload_n hx hb dX1_multiply_63 rfl (lv_at hl 0 rfl) ?_
          refine va_get (ci := 1) (v := .ref (ra ad (1 : Fin 20))) (C := RX1) (T := TX1) (N := 11) hx hb hts (fun w h => BW_in (in_wsX10 w h)) hown hK hP 41 cc_ring rfl 1 (by decide) (hts (.fieldLink RX1 21 "NumberFieldFactors$Ring" "wide" "LNumberFieldFactors$Row;") (BW_in mw_51)) (fun _ h9 => h9) rfl dX1_multiply_64 ?_
          refine lv_iload hx hb dX1_multiply_67 (lv_at hl 5 rfl) ?_
          refine lv_iload hx hb dX1_multiply_69 (lv_at hl 7 rfl) ?_
          refine lv_iadd hx hb dX1_multiply_71 ?_
          obtain ⟨u12, g13, hf⟩ := Option.bind_eq_some_iff.mp hf
          try dsimp only at hf
          refine ct_call (va_runV (As := [.int (x5 + x7)]) (rest := [.ref (ad 40), .int (x5 + x7), .ref (ra ad (1 : Fin 20))]) ⟨hx, hb, hml, hown, hts⟩ (C_X2_get l D tys nw hn hnw hj htI htR (res := u12) g13) (cwV 1 hts (gu_V mw_71 mw_72 mw_73 mw_50 mw_65) rfl rfl rfl (by decide +kernel) ⟨Nat.le_of_ble_eq_true rfl, Nat.le_of_ble_eq_true rfl⟩) (ct_preV hn hP hK hN (ci := 2) (k := (20 + ((1 : Fin 20)).val)) rfl (ra_lt (1 : Fin 20)) (cl_row (1 : Fin 20))) rfl rfl hl.1 rfl (lv_room (Nat.le_of_ble_eq_true rfl)) dX1_multiply_72 ⟨Nat.zero_le _, Nat.zero_le _⟩) hS (fun H locs hP hS => ?_)
          refine lv_aload_n hx hb dX1_multiply_75 rfl (lv_at hl 0 rfl) ?_
          refine va_get (ci := 1) (v := .ref (ad 40)) (C := RX1) (T := TX1) (N := 11) hx hb hts (fun w h => BW_in (in_wsX10 w h)) hown hK hP 41 cc_ring rfl 0 (by decide) (hts (.fieldLink RX1 12 "NumberFieldFactors$Ring" "extension" "LNumberFieldFactors$Extension;") (BW_in mw_47)) (fun _ h9 => h9) rfl dX1_multiply_76 ?_
          refine lv_iload hx hb dX1_multiply_79 (lv_at hl 6 rfl) ?_
          refine lv_aload_n hx hb dX1_multiply_81 rfl (lv_at hl 2 rfl) ?_
          refine lv_iload hx hb dX1_multiply_82 (lv_at hl 7 rfl) ?_
          obtain ⟨u14, g15, hf⟩ := Option.bind_eq_some_iff.mp hf
          try dsimp only at hf
          refine ct_call (va_runV (As := [.int x7]) (rest := [.int x6, .ref (ad 40), .int u12, .ref (ad 40), .int (x5 + x7), .ref (ra ad (1 : Fin 20))]) ⟨hx, hb, hml, hown, hts⟩ (C_X2_get l D tys nw hn hnw hj htI htR (res := u14) g15) (cwV 1 hts (gu_V mw_71 mw_72 mw_73 mw_50 mw_65) rfl rfl rfl (by decide +kernel) ⟨Nat.le_of_ble_eq_true rfl, Nat.le_of_ble_eq_true rfl⟩) (ct_preV hn hP hK hN (ci := 2) (k := (20 + (x2).val)) rfl (ra_lt x2) (cl_row x2)) rfl rfl hl.1 rfl (lv_room (Nat.le_of_ble_eq_true rfl)) dX1_multiply_84 ⟨Nat.zero_le _, Nat.zero_le _⟩) hS (fun H locs hP hS => ?_)
          obtain ⟨u16, g17, hf⟩ := Option.bind_eq_some_iff.mp hf
          try dsimp only at hf
          refine ct_call (va_runV (As := [.int x6, .int u14]) (rest := [.int u12, .ref (ad 40), .int (x5 + x7), .ref (ra ad (1 : Fin 20))]) ⟨hx, hb, hml, hown, hts⟩ (C_X0_times l D tys nw hn hnw hj htI htR (res := u16) g17) (cwV 2 hts (gu_V mw_70 mw_16 mw_17 mw_18 mw_13) rfl rfl rfl (by decide +kernel) ⟨Nat.le_of_ble_eq_true rfl, Nat.le_of_ble_eq_true rfl⟩) (ct_preV hn hP hK hN (ci := 0) (k := 40) rfl (by decide) rfl) rfl rfl hl.1 rfl (lv_room (Nat.le_of_ble_eq_true rfl)) dX1_multiply_87 ⟨Nat.zero_le _, Nat.zero_le _⟩) hS (fun H locs hP hS => ?_)
          obtain ⟨u18, g19, hf⟩ := Option.bind_eq_some_iff.mp hf
          try dsimp only at hf
          refine ct_call (va_runV (As := [.int u12, .int u16]) (rest := [.int (x5 + x7), .ref (ra ad (1 : Fin 20))]) ⟨hx, hb, hml, hown, hts⟩ (C_X0_plus l D tys nw hn hnw hj htI htR (res := u18) g19) (cwV 2 hts (gu_V mw_74 mw_31 mw_32 mw_18 mw_27) rfl rfl rfl (by decide +kernel) ⟨Nat.le_of_ble_eq_true rfl, Nat.le_of_ble_eq_true rfl⟩) (ct_preV hn hP hK hN (ci := 0) (k := 40) rfl (by decide) rfl) rfl rfl hl.1 rfl (lv_room (Nat.le_of_ble_eq_true rfl)) dX1_multiply_90 ⟨Nat.zero_le _, Nat.zero_le _⟩) hS (fun H locs hP hS => ?_)
          obtain ⟨u20, g21, hf⟩ := Option.bind_eq_some_iff.mp hf
          try dsimp only at hf
          refine ct_call (va_runV (As := [.int (x5 + x7), .int u18]) (rest := []) ⟨hx, hb, hml, hown, hts⟩ (C_X2_set l D tys nw hn hnw hj htI htR (res := u20) g21) (cwV 2 hts (gu_V mw_76 mw_77 mw_78 mw_50 mw_75) rfl rfl rfl (by decide +kernel) ⟨Nat.le_of_ble_eq_true rfl, Nat.le_of_ble_eq_true rfl⟩) (ct_preV hn hP hK hN (ci := 2) (k := (20 + ((1 : Fin 20)).val)) rfl (ra_lt (1 : Fin 20)) (cl_row (1 : Fin 20))) rfl rfl hl.1 rfl (lv_room (Nat.le_of_ble_eq_true rfl)) dX1_multiply_93 ⟨Nat.zero_le _, Nat.zero_le _⟩) hS (fun H locs hP hS => ?_)
          refine lv_iinc (v := x7 + 1) (lv' := [(7, .int (x7 + 1)), (0, .ref (ad 41)), (1, .ref (ra ad x1)), (2, .ref (ra ad x2)), (3, .int x3), (4, .int x4), (5, .int x5), (6, .int x6)]) hx hb dX1_multiply_96 hl (k := 7) rfl rfl (by decide) rfl (fun ls hl => ?_)
          refine lv_goto (tgt := 38) hx hb dX1_multiply_99 (by decide) ?_
          exact ih (x7 + 1) u20 _ _ _ hP hS (lv_sub hl [1, 2, 3, 4, 5, 6, 7, 0] rfl) hf
  have L21 : ∀ (x1 : Fin 20) (x2 : Fin 20) (x3 : Int32) (x4 : Int32) (k21 : Int32 → (Fin 20 → Nat → Int32) → Option ((Fin 20 → Nat → Int32))), (∀ (x5 : Int32) (M : Fin 20 → Nat → Int32) (H : Heap) (locs : List Loc) (ls : Array Slot), va_P D vwCl (ww 46 ad (cellC cI cR ad M E P C N)) H → va_S (ww_A 46 ad) s.heap H locs → lv_has ls 8 [(0, .ref (ad 41)), (1, .ref (ra ad x1)), (2, .ref (ra ad x2)), (3, .int x3), (4, .int x4), (5, .int x5)] →  k21 x5 M = some res → W p l e (headSpec usX1_multiply { frames := 2, cells := 0, slots := 0, locals := 43 }).room s m [.ref (ad 41), .ref (ra ad p0), .ref (ra ad p1)].toArray below meth c H locs 0 0 (MQ below (ct_Q D (ww 46 ad (cellC cI cR ad res E P C N)) (ww_A 46 ad) (none)) [.ref (ad 41), .ref (ra ad p0), .ref (ra ad p1)].toArray s 0 0 (ww_A 46 ad)) (F0 m 108 ls [])) → ∀ (n : Nat) (x5 : Int32) (M : Fin 20 → Nat → Int32) (H : Heap) (locs : List Loc) (ls : Array Slot), va_P D vwCl (ww 46 ad (cellC cI cR ad M E P C N)) H → va_S (ww_A 46 ad) s.heap H locs → lv_has ls 8 [(0, .ref (ad 41)), (1, .ref (ra ad x1)), (2, .ref (ra ad x2)), (3, .int x3), (4, .int x4), (5, .int x5)] →  f_X1_multiply_l21 k21 fu E x1 x2 x3 x4 n x5 M = some res → W p l e (headSpec usX1_multiply { frames := 2, cells := 0, slots := 0, locals := 43 }).room s m [.ref (ad 41), .ref (ra ad p0), .ref (ra ad p1)].toArray below meth c H locs 0 0 (MQ below (ct_Q D (ww 46 ad (cellC cI cR ad res E P C N)) (ww_A 46 ad) (none)) [.ref (ad 41), .ref (ra ad p0), .ref (ra ad p1)].toArray s 0 0 (ww_A 46 ad)) (F0 m 21 ls []) := by
    intro x1 x2 x3 x4 k21 hk_21 n
    induction n with
    | zero => intro x5 M H locs ls hP hS hl hf; rw [f_X1_multiply_l21] at hf; cases hf
    | succ n ih =>
      intro x5 M H locs ls hP hS hl hf
      rw [f_X1_multiply_l21] at hf
      refine lv_iload hx hb dX1_multiply_21 (lv_at hl 5 rfl) ?_
      refine lv_iload_n hx hb dX1_multiply_23 rfl (lv_at hl 3 rfl) ?_
      refine lv_icmp_gt (tgt := 108) hx hb dX1_multiply_24 (by decide) (fun c7 => ?_) (fun c7 => ?_)
      · rw [if_pos c7] at hf
        exact hk_21 x5 M _ _ _ hP hS (lv_sub hl [0, 1, 2, 3, 4, 5] rfl) hf
      · rw [if_neg c7] at hf
        refine lv_aload_n hx hb dX1_multiply_27 rfl (lv_at hl 1 rfl) ?_
        refine lv_iload hx hb dX1_multiply_28 (lv_at hl 5 rfl) ?_
        obtain ⟨u8, g9, hf⟩ := Option.bind_eq_some_iff.mp hf
        try dsimp only at hf
        refine ct_call (va_runV (As := [.int x5]) (rest := []) ⟨hx, hb, hml, hown, hts⟩ (C_X2_get l D tys nw hn hnw hj htI htR (res := u8) g9) (cwV 1 hts (gu_V mw_71 mw_72 mw_73 mw_50 mw_65) rfl rfl rfl (by decide +kernel) ⟨Nat.le_of_ble_eq_true rfl, Nat.le_of_ble_eq_true rfl⟩) (ct_preV hn hP hK hN (ci := 2) (k := (20 + (x1).val)) rfl (ra_lt x1) (cl_row x1)) rfl rfl hl.1 rfl (lv_room (Nat.le_of_ble_eq_true rfl)) dX1_multiply_30 ⟨Nat.zero_le _, Nat.zero_le _⟩) hS (fun H locs hP hS => ?_)
        refine lv_istore (lv' := [(6, .int u8), (0, .ref (ad 41)), (1, .ref (ra ad x1)), (2, .ref (ra ad x2)), (3, .int x3), (4, .int x4), (5, .int x5)]) hx hb dX1_multiply_33 hl (by decide) rfl (fun ls hl => ?_)
        refine lv_iconst (v := 0) hx hb dX1_multiply_35 (by decide) ?_
        refine lv_istore (lv' := [(7, .int 0), (6, .int u8), (0, .ref (ad 41)), (1, .ref (ra ad x1)), (2, .ref (ra ad x2)), (3, .int x3), (4, .int x4), (5, .int x5)]) hx hb dX1_multiply_36 hl (by decide) rfl (fun ls hl => ?_)
        refine L38 x1 x2 x3 x4 x5 u8 _ (fun y22 M23 H locs ls hP hS hl hf => ?_) fu 0 M _ _ _ hP hS (lv_sub hl [2, 3, 4, 5, 6, 7, 1, 0] rfl) hf
        try dsimp only at hf
        refine lv_iinc (v := x5 + 1) (lv' := [(5, .int (x5 + 1)), (0, .ref (ad 41)), (1, .ref (ra ad x1)), (2, .ref (ra ad x2)), (3, .int x3), (4, .int x4), (6, .int u8), (7, .int y22)]) hx hb dX1_multiply_102 hl (k := 5) rfl rfl (by decide) rfl (fun ls hl => ?_)
        refine lv_goto (tgt := 21) hx hb dX1_multiply_105 (by decide) ?_
        exact ih (x5 + 1) M23 _ _ _ hP hS (lv_sub hl [1, 2, 3, 4, 5, 0] rfl) hf
  unfold f_X1_multiply at hf
  refine lv_aload_n hx hb dX1_multiply_0 rfl (lv_at hl 1 rfl) ?_
  obtain ⟨u1, g2, hf⟩ := Option.bind_eq_some_iff.mp hf
  try dsimp only at hf
  refine ct_call (va_runV (As := []) (rest := []) ⟨hx, hb, hml, hown, hts⟩ (C_X2_degree l D tys nw hn hnw hj htI htR (res := u1) g2) (cwV 0 hts (gu_V mw_67 mw_68 mw_69 mw_50 mw_64) rfl rfl rfl (by decide +kernel) ⟨Nat.le_of_ble_eq_true rfl, Nat.le_of_ble_eq_true rfl⟩) (ct_preV hn hP hK hN (ci := 2) (k := (20 + (p0).val)) rfl (ra_lt p0) (cl_row p0)) rfl rfl hl.1 rfl (lv_room (Nat.le_of_ble_eq_true rfl)) dX1_multiply_1 ⟨Nat.zero_le _, Nat.zero_le _⟩) hS (fun H locs hP hS => ?_)
  refine lv_istore_n (lv' := [(3, .int u1), (0, .ref (ad 41)), (1, .ref (ra ad p0)), (2, .ref (ra ad p1))]) hx hb dX1_multiply_4 rfl hl (by decide) rfl (fun ls hl => ?_)
  refine lv_aload_n hx hb dX1_multiply_5 rfl (lv_at hl 3 rfl) ?_
  obtain ⟨u3, g4, hf⟩ := Option.bind_eq_some_iff.mp hf
  try dsimp only at hf
  refine ct_call (va_runV (As := []) (rest := []) ⟨hx, hb, hml, hown, hts⟩ (C_X2_degree l D tys nw hn hnw hj htI htR (res := u3) g4) (cwV 0 hts (gu_V mw_67 mw_68 mw_69 mw_50 mw_64) rfl rfl rfl (by decide +kernel) ⟨Nat.le_of_ble_eq_true rfl, Nat.le_of_ble_eq_true rfl⟩) (ct_preV hn hP hK hN (ci := 2) (k := (20 + (p1).val)) rfl (ra_lt p1) (cl_row p1)) rfl rfl hl.1 rfl (lv_room (Nat.le_of_ble_eq_true rfl)) dX1_multiply_6 ⟨Nat.zero_le _, Nat.zero_le _⟩) hS (fun H locs hP hS => ?_)
  refine lv_istore (lv' := [(4, .int u3), (3, .int u1), (0, .ref (ad 41)), (1, .ref (ra ad p0)), (2, .ref (ra ad p1))]) hx hb dX1_multiply_9 hl (by decide) rfl (fun ls hl => ?_)
  refine lv_aload_n hx hb dX1_multiply_11 rfl (lv_at hl 2 rfl) ?_
  refine va_get (ci := 1) (v := .ref (ra ad (1 : Fin 20))) (C := RX1) (T := TX1) (N := 11) hx hb hts (fun w h => BW_in (in_wsX10 w h)) hown hK hP 41 cc_ring rfl 1 (by decide) (hts (.fieldLink RX1 21 "NumberFieldFactors$Ring" "wide" "LNumberFieldFactors$Row;") (BW_in mw_51)) (fun _ h9 => h9) rfl dX1_multiply_12 ?_
  obtain ⟨u5, g6, hf⟩ := Option.bind_eq_some_iff.mp hf
  try dsimp only at hf
  refine ct_call (va_runV (As := []) (rest := []) ⟨hx, hb, hml, hown, hts⟩ (C_X2_clear l D tys nw hn hnw hj htI htR (res := u5) g6) (cwV 0 hts (gu_V mw_83 mw_84 mw_85 mw_50 mw_80) rfl rfl rfl (by decide +kernel) ⟨Nat.le_of_ble_eq_true rfl, Nat.le_of_ble_eq_true rfl⟩) (ct_preV hn hP hK hN (ci := 2) (k := (20 + ((1 : Fin 20)).val)) rfl (ra_lt (1 : Fin 20)) (cl_row (1 : Fin 20))) rfl rfl hl.1 rfl (lv_room (Nat.le_of_ble_eq_true rfl)) dX1_multiply_15 ⟨Nat.zero_le _, Nat.zero_le _⟩) hS (fun H locs hP hS => ?_)
  refine lv_iconst (v := 0) hx hb dX1_multiply_18 (by decide) ?_
  refine lv_istore (lv' := [(5, .int 0), (4, .int u3), (3, .int u1), (0, .ref (ad 41)), (1, .ref (ra ad p0)), (2, .ref (ra ad p1))]) hx hb dX1_multiply_19 hl (by decide) rfl (fun ls hl => ?_)
  refine L21 p0 p1 u1 u3 _ (fun y24 M25 H locs ls hP hS hl hf => ?_) fu 0 u5 _ _ _ hP hS (lv_sub hl [3, 4, 5, 2, 1, 0] rfl) hf
  try dsimp only at hf
  refine lv_aload_n hx hb dX1_multiply_108 rfl (lv_at hl 1 rfl) ?_
  refine lv_aload_n hx hb dX1_multiply_109 rfl (lv_at hl 0 rfl) ?_
  refine va_get (ci := 1) (v := .ref (ra ad (1 : Fin 20))) (C := RX1) (T := TX1) (N := 11) hx hb hts (fun w h => BW_in (in_wsX10 w h)) hown hK hP 41 cc_ring rfl 1 (by decide) (hts (.fieldLink RX1 21 "NumberFieldFactors$Ring" "wide" "LNumberFieldFactors$Row;") (BW_in mw_51)) (fun _ h9 => h9) rfl dX1_multiply_110 ?_
  obtain ⟨u26, g27, hf⟩ := Option.bind_eq_some_iff.mp hf
  try dsimp only at hf
  refine ct_call (va_runV (As := [.ref (ra ad (1 : Fin 20))]) (rest := []) ⟨hx, hb, hml, hown, hts⟩ (C_X2_copy l D tys nw hn hnw hj htI htR (res := u26) g27) (cwV 1 hts (gu_V mw_86 mw_87 mw_88 mw_50 mw_81) rfl rfl rfl (by decide +kernel) ⟨Nat.le_of_ble_eq_true rfl, Nat.le_of_ble_eq_true rfl⟩) (ct_preV hn hP hK hN (ci := 2) (k := (20 + (p0).val)) rfl (ra_lt p0) (cl_row p0)) rfl rfl hl.1 rfl (lv_room (Nat.le_of_ble_eq_true rfl)) dX1_multiply_113 ⟨Nat.zero_le _, Nat.zero_le _⟩) hS (fun H locs hP hS => ?_)
  obtain rfl := Option.some.inj hf
  exact W.vret hx hb hr (fun t ht hW => ⟨rfl, by rw [ht]; exact hP, hS.F ht⟩) hS.2.2 dX1_multiply_116
def f_X1_multiplyLinear_l7 (k7 : Int32 → (Fin 20 → Nat → Int32) → Option ((Fin 20 → Nat → Int32))) (fu : Nat) (E : Nat → Int32) (x1 : Fin 20) (x2 : Int32) : Nat → Int32 → (Fin 20 → Nat → Int32) → Option ((Fin 20 → Nat → Int32))
  | 0, _, _ => none
  | n + 1, x3, M =>
    if x3 < 0 then
      k7 x3 M
    else
      (f_X2_get M x1 (x3 - 1)).bind (fun u5 =>
      (f_X2_get M x1 x3).bind (fun u7 =>
      (f_X0_times E x2 u7).bind (fun u9 =>
      (f_X0_plus u5 u9).bind (fun u11 =>
      (f_X2_set M x1 x3 u11).bind (fun u13 =>
      f_X1_multiplyLinear_l7 k7 fu E x1 x2 n (x3 + (-1)) u13)))))
def f_X1_multiplyLinear (fu : Nat) (M : Fin 20 → Nat → Int32) (E : Nat → Int32) (p0 : Fin 20) (p1 : Int32) : Option ((Fin 20 → Nat → Int32)) :=
  (f_X2_degree fu M p0).bind (fun u1 =>
  nm (u1 + 1) (fun v3 =>
  f_X1_multiplyLinear_l7 (fun y15 M16 =>
    some M16) fu E p0 p1 fu v3 M))
set_option maxHeartbeats 4000000 in
set_option maxRecDepth 100000 in
theorem C_X1_multiplyLinear (l : Launch) (D : va_G) (tys : List (ClassId × FieldType)) (nw : List Cond) (hn : nw.all nw_kind = true) (hnw : ∀ w ∈ nw0, w ∈ nw) {ad : Nat → Nat} (hj : ww_inj 46 ad) {cI : ClassId} {cR : ClassId} (htI : tys[0]? = some (cI, .int)) (htR : tys[1]? = some (cR, .object RX2)) {fu : Nat} {M : Fin 20 → Nat → Int32} {E : Nat → Int32} {P : Nat → Fin 20} {C : Nat → Int32} {N : Nat → Int32} {p0 : Fin 20} {p1 : Int32} {res : (Fin 20 → Nat → Int32)} (hf : f_X1_multiplyLinear fu M E p0 p1 = some res) :
    Met l yX1_multiplyLinear usX1_multiplyLinear ({ frames := 1, cells := 0, slots := 0, locals := 34 }) (va_Pc [.ref (ad 41), .ref (ra ad p0), .int p1] (ws_B D tys nw (ww 46 ad (cellC cI cR ad M E P C N)))) (ct_Q D (ww 46 ad (cellC cI cR ad res E P C N)) (ww_A 46 ad) (none)) 0 0 (ww_A 46 ad) := by
  refine Met.ofW (cc := cX1_multiplyLinear) (maxL := 4) (ret := none) (by decide) rfl ?_
  intro p e s m args below meth c s₁ B hml hv
  obtain ⟨rfl, hP, hK, hN⟩ := hv
  have hx := B.exec
  have hb := B.bytes
  have hr := B.returns
  have hts := atoms_spec (ws := usX1_multiplyLinear) B.pre
  have hown : s.vm.findClass RX1 = some m.cls := findClass_of_methodNamed B.named
  have hlocks := B.notSynchronized
  have hS : va_S (ww_A 46 ad) s.heap s.heap [] := va_S.rf
  have hl := lv_entry ([.ref (ad 41), .ref (ra ad p0), .int p1]) (n := 4) (Nat.le_of_ble_eq_true rfl)
  rw [lg_entry_eq]
  generalize (lg_sl ([.ref (ad 41), .ref (ra ad p0), .int p1]) ++ List.replicate (4 - (lg_sl ([.ref (ad 41), .ref (ra ad p0), .int p1])).length) Slot.unset).toArray = ls at hl ⊢
  have hl : lv_has ls 4 [(0, .ref (ad 41)), (1, .ref (ra ad p0)), (2, .int p1)] := hl
  have L7 : ∀ (x1 : Fin 20) (x2 : Int32) (k7 : Int32 → (Fin 20 → Nat → Int32) → Option ((Fin 20 → Nat → Int32))), (∀ (x3 : Int32) (M : Fin 20 → Nat → Int32) (H : Heap) (locs : List Loc) (ls : Array Slot), va_P D vwCl (ww 46 ad (cellC cI cR ad M E P C N)) H → va_S (ww_A 46 ad) s.heap H locs → lv_has ls 4 [(0, .ref (ad 41)), (1, .ref (ra ad x1)), (2, .int x2), (3, .int x3)] →  k7 x3 M = some res → W p l e (headSpec usX1_multiplyLinear { frames := 1, cells := 0, slots := 0, locals := 34 }).room s m [.ref (ad 41), .ref (ra ad p0), .int p1].toArray below meth c H locs 0 0 (MQ below (ct_Q D (ww 46 ad (cellC cI cR ad res E P C N)) (ww_A 46 ad) (none)) [.ref (ad 41), .ref (ra ad p0), .int p1].toArray s 0 0 (ww_A 46 ad)) (F0 m 49 ls [])) → ∀ (n : Nat) (x3 : Int32) (M : Fin 20 → Nat → Int32) (H : Heap) (locs : List Loc) (ls : Array Slot), va_P D vwCl (ww 46 ad (cellC cI cR ad M E P C N)) H → va_S (ww_A 46 ad) s.heap H locs → lv_has ls 4 [(0, .ref (ad 41)), (1, .ref (ra ad x1)), (2, .int x2), (3, .int x3)] →  f_X1_multiplyLinear_l7 k7 fu E x1 x2 n x3 M = some res → W p l e (headSpec usX1_multiplyLinear { frames := 1, cells := 0, slots := 0, locals := 34 }).room s m [.ref (ad 41), .ref (ra ad p0), .int p1].toArray below meth c H locs 0 0 (MQ below (ct_Q D (ww 46 ad (cellC cI cR ad res E P C N)) (ww_A 46 ad) (none)) [.ref (ad 41), .ref (ra ad p0), .int p1].toArray s 0 0 (ww_A 46 ad)) (F0 m 7 ls []) := by
    intro x1 x2 k7 hk_7 n
    induction n with
    | zero => intro x3 M H locs ls hP hS hl hf; rw [f_X1_multiplyLinear_l7] at hf; cases hf
    | succ n ih =>
      intro x3 M H locs ls hP hS hl hf
      rw [f_X1_multiplyLinear_l7] at hf
      refine lv_iload_n hx hb dX1_multiplyLinear_7 rfl (lv_at hl 3 rfl) ?_
      refine lv_if_lt (tgt := 49) hx hb dX1_multiplyLinear_8 (by decide) (fun c4 => ?_) (fun c4 => ?_)
      · rw [if_pos c4] at hf
        exact hk_7 x3 M _ _ _ hP hS (lv_sub hl [0, 1, 2, 3] rfl) hf
      · rw [if_neg c4] at hf
        refine lv_aload_n hx hb dX1_multiplyLinear_11 rfl (lv_at hl 1 rfl) ?_
        refine lv_iload_n hx hb dX1_multiplyLinear_12 rfl (lv_at hl 3 rfl) ?_
        refine lv_aload_n hx hb dX1_multiplyLinear_13 rfl (lv_at hl 0 rfl) ?_
        refine va_get (ci := 1) (v := .ref (ad 40)) (C := RX1) (T := TX1) (N := 11) hx hb hts (fun w h => BW_in (in_wsX10 w h)) hown hK hP 41 cc_ring rfl 0 (by decide) (hts (.fieldLink RX1 12 "NumberFieldFactors$Ring" "extension" "LNumberFieldFactors$Extension;") (BW_in mw_47)) (fun _ h9 => h9) rfl dX1_multiplyLinear_14 ?_
        refine lv_aload_n hx hb dX1_multiplyLinear_17 rfl (lv_at hl 1 rfl) ?_
        refine lv_iload_n hx hb dX1_multiplyLinear_18 rfl (lv_at hl 3 rfl) ?_
        refine lv_iconst (v := 1) hx hb dX1_multiplyLinear_19 (by decide) ?_
        refine lv_isub hx hb dX1_multiplyLinear_20 ?_
        obtain ⟨u5, g6, hf⟩ := Option.bind_eq_some_iff.mp hf
        try dsimp only at hf
        refine ct_call (va_runV (As := [.int (x3 - 1)]) (rest := [.ref (ad 40), .int x3, .ref (ra ad x1)]) ⟨hx, hb, hml, hown, hts⟩ (C_X2_get l D tys nw hn hnw hj htI htR (res := u5) g6) (cwV 1 hts (gu_V mw_71 mw_72 mw_73 mw_50 mw_65) rfl rfl rfl (by decide +kernel) ⟨Nat.le_of_ble_eq_true rfl, Nat.le_of_ble_eq_true rfl⟩) (ct_preV hn hP hK hN (ci := 2) (k := (20 + (x1).val)) rfl (ra_lt x1) (cl_row x1)) rfl rfl hl.1 rfl (lv_room (Nat.le_of_ble_eq_true rfl)) dX1_multiplyLinear_21 ⟨Nat.zero_le _, Nat.zero_le _⟩) hS (fun H locs hP hS => ?_)
        refine lv_aload_n hx hb dX1_multiplyLinear_24 rfl (lv_at hl 0 rfl) ?_
        refine va_get (ci := 1) (v := .ref (ad 40)) (C := RX1) (T := TX1) (N := 11) hx hb hts (fun w h => BW_in (in_wsX10 w h)) hown hK hP 41 cc_ring rfl 0 (by decide) (hts (.fieldLink RX1 12 "NumberFieldFactors$Ring" "extension" "LNumberFieldFactors$Extension;") (BW_in mw_47)) (fun _ h9 => h9) rfl dX1_multiplyLinear_25 ?_
        refine lv_iload_n hx hb dX1_multiplyLinear_28 rfl (lv_at hl 2 rfl) ?_
        refine lv_aload_n hx hb dX1_multiplyLinear_29 rfl (lv_at hl 1 rfl) ?_
        refine lv_iload_n hx hb dX1_multiplyLinear_30 rfl (lv_at hl 3 rfl) ?_
        obtain ⟨u7, g8, hf⟩ := Option.bind_eq_some_iff.mp hf
        try dsimp only at hf
        refine ct_call (va_runV (As := [.int x3]) (rest := [.int x2, .ref (ad 40), .int u5, .ref (ad 40), .int x3, .ref (ra ad x1)]) ⟨hx, hb, hml, hown, hts⟩ (C_X2_get l D tys nw hn hnw hj htI htR (res := u7) g8) (cwV 1 hts (gu_V mw_71 mw_72 mw_73 mw_50 mw_65) rfl rfl rfl (by decide +kernel) ⟨Nat.le_of_ble_eq_true rfl, Nat.le_of_ble_eq_true rfl⟩) (ct_preV hn hP hK hN (ci := 2) (k := (20 + (x1).val)) rfl (ra_lt x1) (cl_row x1)) rfl rfl hl.1 rfl (lv_room (Nat.le_of_ble_eq_true rfl)) dX1_multiplyLinear_31 ⟨Nat.zero_le _, Nat.zero_le _⟩) hS (fun H locs hP hS => ?_)
        obtain ⟨u9, g10, hf⟩ := Option.bind_eq_some_iff.mp hf
        try dsimp only at hf
        refine ct_call (va_runV (As := [.int x2, .int u7]) (rest := [.int u5, .ref (ad 40), .int x3, .ref (ra ad x1)]) ⟨hx, hb, hml, hown, hts⟩ (C_X0_times l D tys nw hn hnw hj htI htR (res := u9) g10) (cwV 2 hts (gu_V mw_70 mw_16 mw_17 mw_18 mw_13) rfl rfl rfl (by decide +kernel) ⟨Nat.le_of_ble_eq_true rfl, Nat.le_of_ble_eq_true rfl⟩) (ct_preV hn hP hK hN (ci := 0) (k := 40) rfl (by decide) rfl) rfl rfl hl.1 rfl (lv_room (Nat.le_of_ble_eq_true rfl)) dX1_multiplyLinear_34 ⟨Nat.zero_le _, Nat.zero_le _⟩) hS (fun H locs hP hS => ?_)
        obtain ⟨u11, g12, hf⟩ := Option.bind_eq_some_iff.mp hf
        try dsimp only at hf
        refine ct_call (va_runV (As := [.int u5, .int u9]) (rest := [.int x3, .ref (ra ad x1)]) ⟨hx, hb, hml, hown, hts⟩ (C_X0_plus l D tys nw hn hnw hj htI htR (res := u11) g12) (cwV 2 hts (gu_V mw_74 mw_31 mw_32 mw_18 mw_27) rfl rfl rfl (by decide +kernel) ⟨Nat.le_of_ble_eq_true rfl, Nat.le_of_ble_eq_true rfl⟩) (ct_preV hn hP hK hN (ci := 0) (k := 40) rfl (by decide) rfl) rfl rfl hl.1 rfl (lv_room (Nat.le_of_ble_eq_true rfl)) dX1_multiplyLinear_37 ⟨Nat.zero_le _, Nat.zero_le _⟩) hS (fun H locs hP hS => ?_)
        obtain ⟨u13, g14, hf⟩ := Option.bind_eq_some_iff.mp hf
        try dsimp only at hf
        refine ct_call (va_runV (As := [.int x3, .int u11]) (rest := []) ⟨hx, hb, hml, hown, hts⟩ (C_X2_set l D tys nw hn hnw hj htI htR (res := u13) g14) (cwV 2 hts (gu_V mw_76 mw_77 mw_78 mw_50 mw_75) rfl rfl rfl (by decide +kernel) ⟨Nat.le_of_ble_eq_true rfl, Nat.le_of_ble_eq_true rfl⟩) (ct_preV hn hP hK hN (ci := 2) (k := (20 + (x1).val)) rfl (ra_lt x1) (cl_row x1)) rfl rfl hl.1 rfl (lv_room (Nat.le_of_ble_eq_true rfl)) dX1_multiplyLinear_40 ⟨Nat.zero_le _, Nat.zero_le _⟩) hS (fun H locs hP hS => ?_)
        refine lv_iinc (v := x3 + (-1)) (lv' := [(3, .int (x3 + (-1))), (0, .ref (ad 41)), (1, .ref (ra ad x1)), (2, .int x2)]) hx hb dX1_multiplyLinear_43 hl (k := 3) rfl rfl (by decide) rfl (fun ls hl => ?_)
        refine lv_goto (tgt := 7) hx hb dX1_multiplyLinear_46 (by decide) ?_
        exact ih (x3 + (-1)) u13 _ _ _ hP hS (lv_sub hl [1, 2, 3, 0] rfl) hf
  unfold f_X1_multiplyLinear at hf
  refine lv_aload_n hx hb dX1_multiplyLinear_0 rfl (lv_at hl 1 rfl) ?_
  obtain ⟨u1, g2, hf⟩ := Option.bind_eq_some_iff.mp hf
  try dsimp only at hf
  refine ct_call (va_runV (As := []) (rest := []) ⟨hx, hb, hml, hown, hts⟩ (C_X2_degree l D tys nw hn hnw hj htI htR (res := u1) g2) (cwV 0 hts (gu_V mw_67 mw_68 mw_69 mw_50 mw_64) rfl rfl rfl (by decide +kernel) ⟨Nat.le_of_ble_eq_true rfl, Nat.le_of_ble_eq_true rfl⟩) (ct_preV hn hP hK hN (ci := 2) (k := (20 + (p0).val)) rfl (ra_lt p0) (cl_row p0)) rfl rfl hl.1 rfl (lv_room (Nat.le_of_ble_eq_true rfl)) dX1_multiplyLinear_1 ⟨Nat.zero_le _, Nat.zero_le _⟩) hS (fun H locs hP hS => ?_)
  refine lv_iconst (v := 1) hx hb dX1_multiplyLinear_4 (by decide) ?_
  refine lv_iadd hx hb dX1_multiplyLinear_5 ?_
  obtain ⟨v3, ev3, hf⟩ := nm_elim hf
  try dsimp only at hf
  refine tp_I ev3 ?_
  refine lv_istore_n (lv' := [(3, .int v3), (0, .ref (ad 41)), (1, .ref (ra ad p0)), (2, .int p1)]) hx hb dX1_multiplyLinear_6 rfl hl (by decide) rfl (fun ls hl => ?_)
  refine L7 p0 p1 _ (fun y15 M16 H locs ls hP hS hl hf => ?_) fu v3 M _ _ _ hP hS (lv_sub hl [1, 2, 3, 0] rfl) hf
  try dsimp only at hf
  obtain rfl := Option.some.inj hf
  exact W.vret hx hb hr (fun t ht hW => ⟨rfl, by rw [ht]; exact hP, hS.F ht⟩) hS.2.2 dX1_multiplyLinear_49
def f_X1_divide_l52 (k52 : Int32 → (Fin 20 → Nat → Int32) → Option ((Fin 20 → Nat → Int32))) (fu : Nat) (E : Nat → Int32) (x1 : Fin 20) (x2 : Fin 20) (x3 : Int32) (x4 : Int32) (x5 : Int32) : Nat → Int32 → (Fin 20 → Nat → Int32) → Option ((Fin 20 → Nat → Int32))
  | 0, _, _ => none
  | n + 1, x6, M =>
    if x5 = 0 then
      k52 x6 M
    else
      if x3 < x6 then
        k52 x6 M
      else
        nm ((x4 - x3) + x6) (fun v15 =>
        (f_X2_get M x1 v15).bind (fun u16 =>
        (f_X2_get M x2 x6).bind (fun u18 =>
        (f_X0_times E x5 u18).bind (fun u20 =>
        (f_X0_minus u16 u20).bind (fun u22 =>
        (f_X2_set M x1 v15 u22).bind (fun u24 =>
        f_X1_divide_l52 k52 fu E x1 x2 x3 x4 x5 n (x6 + 1) u24))))))
def f_X1_divide_l18 (k18 : Int32 → (Fin 20 → Nat → Int32) → Option ((Fin 20 → Nat → Int32))) (fu : Nat) (E : Nat → Int32) (x1 : Fin 20) (x2 : Fin 20) (x3 : Int32) : Nat → Int32 → (Fin 20 → Nat → Int32) → Option ((Fin 20 → Nat → Int32))
  | 0, _, _ => none
  | n + 1, x4, M =>
    if x3 < 0 then
      k18 x4 M
    else
      if x4 < x3 then
        k18 x4 M
      else
        (f_X2_get M x1 x4).bind (fun u9 =>
        (f_X2_set M (2 : Fin 20) (x4 - x3) u9).bind (fun u11 =>
        f_X1_divide_l52 (fun y26 M27 =>
          f_X1_divide_l18 k18 fu E x1 x2 x3 n (x4 + (-1)) M27) fu E x1 x2 x3 x4 u9 fu 0 u11))
def f_X1_divide (fu : Nat) (M : Fin 20 → Nat → Int32) (E : Nat → Int32) (p0 : Fin 20) (p1 : Fin 20) : Option ((Fin 20 → Nat → Int32)) :=
  (f_X2_degree fu M p1).bind (fun u1 =>
  (f_X2_clear fu M (2 : Fin 20)).bind (fun u3 =>
  (f_X2_degree fu u3 p0).bind (fun u5 =>
  f_X1_divide_l18 (fun y28 M29 =>
    some M29) fu E p0 p1 u1 fu u5 u3)))
set_option maxHeartbeats 4000000 in
set_option maxRecDepth 100000 in
theorem C_X1_divide (l : Launch) (D : va_G) (tys : List (ClassId × FieldType)) (nw : List Cond) (hn : nw.all nw_kind = true) (hnw : ∀ w ∈ nw0, w ∈ nw) {ad : Nat → Nat} (hj : ww_inj 46 ad) {cI : ClassId} {cR : ClassId} (htI : tys[0]? = some (cI, .int)) (htR : tys[1]? = some (cR, .object RX2)) {fu : Nat} {M : Fin 20 → Nat → Int32} {E : Nat → Int32} {P : Nat → Fin 20} {C : Nat → Int32} {N : Nat → Int32} {p0 : Fin 20} {p1 : Fin 20} {res : (Fin 20 → Nat → Int32)} (hf : f_X1_divide fu M E p0 p1 = some res) :
    Met l yX1_divide usX1_divide ({ frames := 1, cells := 0, slots := 0, locals := 34 }) (va_Pc [.ref (ad 41), .ref (ra ad p0), .ref (ra ad p1)] (ws_B D tys nw (ww 46 ad (cellC cI cR ad M E P C N)))) (ct_Q D (ww 46 ad (cellC cI cR ad res E P C N)) (ww_A 46 ad) (none)) 0 0 (ww_A 46 ad) := by
  refine Met.ofW (cc := cX1_divide) (maxL := 8) (ret := none) (by decide) rfl ?_
  intro p e s m args below meth c s₁ B hml hv
  obtain ⟨rfl, hP, hK, hN⟩ := hv
  have hx := B.exec
  have hb := B.bytes
  have hr := B.returns
  have hts := atoms_spec (ws := usX1_divide) B.pre
  have hown : s.vm.findClass RX1 = some m.cls := findClass_of_methodNamed B.named
  have hlocks := B.notSynchronized
  have hS : va_S (ww_A 46 ad) s.heap s.heap [] := va_S.rf
  have hl := lv_entry ([.ref (ad 41), .ref (ra ad p0), .ref (ra ad p1)]) (n := 8) (Nat.le_of_ble_eq_true rfl)
  rw [lg_entry_eq]
  generalize (lg_sl ([.ref (ad 41), .ref (ra ad p0), .ref (ra ad p1)]) ++ List.replicate (8 - (lg_sl ([.ref (ad 41), .ref (ra ad p0), .ref (ra ad p1)])).length) Slot.unset).toArray = ls at hl ⊢
  have hl : lv_has ls 8 [(0, .ref (ad 41)), (1, .ref (ra ad p0)), (2, .ref (ra ad p1))] := hl
  have L52 : ∀ (x1 : Fin 20) (x2 : Fin 20) (x3 : Int32) (x4 : Int32) (x5 : Int32) (k52 : Int32 → (Fin 20 → Nat → Int32) → Option ((Fin 20 → Nat → Int32))), (∀ (x6 : Int32) (M : Fin 20 → Nat → Int32) (H : Heap) (locs : List Loc) (ls : Array Slot), va_P D vwCl (ww 46 ad (cellC cI cR ad M E P C N)) H → va_S (ww_A 46 ad) s.heap H locs → lv_has ls 8 [(0, .ref (ad 41)), (1, .ref (ra ad x1)), (2, .ref (ra ad x2)), (3, .int x3), (4, .int x4), (5, .int x5), (6, .int x6)] →  k52 x6 M = some res → W p l e (headSpec usX1_divide { frames := 1, cells := 0, slots := 0, locals := 34 }).room s m [.ref (ad 41), .ref (ra ad p0), .ref (ra ad p1)].toArray below meth c H locs 0 0 (MQ below (ct_Q D (ww 46 ad (cellC cI cR ad res E P C N)) (ww_A 46 ad) (none)) [.ref (ad 41), .ref (ra ad p0), .ref (ra ad p1)].toArray s 0 0 (ww_A 46 ad)) (F0 m 112 ls [])) → ∀ (n : Nat) (x6 : Int32) (M : Fin 20 → Nat → Int32) (H : Heap) (locs : List Loc) (ls : Array Slot), va_P D vwCl (ww 46 ad (cellC cI cR ad M E P C N)) H → va_S (ww_A 46 ad) s.heap H locs → lv_has ls 8 [(0, .ref (ad 41)), (1, .ref (ra ad x1)), (2, .ref (ra ad x2)), (3, .int x3), (4, .int x4), (5, .int x5), (6, .int x6)] →  f_X1_divide_l52 k52 fu E x1 x2 x3 x4 x5 n x6 M = some res → W p l e (headSpec usX1_divide { frames := 1, cells := 0, slots := 0, locals := 34 }).room s m [.ref (ad 41), .ref (ra ad p0), .ref (ra ad p1)].toArray below meth c H locs 0 0 (MQ below (ct_Q D (ww 46 ad (cellC cI cR ad res E P C N)) (ww_A 46 ad) (none)) [.ref (ad 41), .ref (ra ad p0), .ref (ra ad p1)].toArray s 0 0 (ww_A 46 ad)) (F0 m 52 ls []) := by
    intro x1 x2 x3 x4 x5 k52 hk_52 n
    induction n with
    | zero => intro x6 M H locs ls hP hS hl hf; rw [f_X1_divide_l52] at hf; cases hf
    | succ n ih =>
      intro x6 M H locs ls hP hS hl hf
      rw [f_X1_divide_l52] at hf
      refine lv_iload hx hb dX1_divide_52 (lv_at hl 5 rfl) ?_
      refine lv_if_eq (tgt := 112) hx hb dX1_divide_54 (by decide) (fun c13 => ?_) (fun c13 => ?_)
      · rw [if_pos c13] at hf
        exact hk_52 x6 M _ _ _ hP hS (lv_sub hl [0, 1, 2, 3, 4, 5, 6] rfl) hf
      · rw [if_neg c13] at hf
        refine lv_iload hx hb dX1_divide_57 (lv_at hl 6 rfl) ?_
        refine lv_iload_n hx hb dX1_divide_59 rfl (lv_at hl 3 rfl) ?_
        refine lv_icmp_gt (tgt := 112) hx hb dX1_divide_60 (by decide) (fun c14 => ?_) (fun c14 => ?_)
        · rw [if_pos c14] at hf
          exact hk_52 x6 M _ _ _ hP hS (lv_sub hl [0, 1, 2, 3, 4, 5, 6] rfl) hf
        · rw [if_neg c14] at hf
          refine lv_iload hx hb dX1_divide_63 (lv_at hl 4 rfl) ?_
          refine lv_iload_n hx hb dX1_divide_65 rfl (lv_at hl 3 rfl) ?_
          refine lv_isub hx hb dX1_divide_66 ?_
          refine lv_iload hx hb dX1_divide_67 (lv_at hl 6 rfl) ?_
          refine lv_iadd hx hb dX1_divide_69 ?_
          obtain ⟨v15, ev15, hf⟩ := nm_elim hf
          try dsimp only at hf
          refine tp_I ev15 ?_
          refine lv_istore (lv' := [(7, .int v15), (0, .ref (ad 41)), (1, .ref (ra ad x1)), (2, .ref (ra ad x2)), (3, .int x3), (4, .int x4), (5, .int x5), (6, .int x6)]) hx hb dX1_divide_70 hl (by decide) rfl (fun ls hl => ?_)
          refine lv_aload_n hx hb dX1_divide_72 rfl (lv_at hl 2 rfl) ?_
          refine lv_iload hx hb dX1_divide_73 (lv_at hl 0 rfl) ?_
          refine lv_aload_n hx hb dX1_divide_75 rfl (lv_at hl 1 rfl) ?_
          refine va_get (ci := 1) (v := .ref (ad 40)) (C := RX1) (T := TX1) (N := 11) hx hb hts (fun w h => BW_in (in_wsX10 w h)) hown hK hP 41 cc_ring rfl 0 (by decide) (hts (.fieldLink RX1 12 "NumberFieldFactors$Ring" "extension" "LNumberFieldFactors$Extension;") (BW_in mw_47)) (fun _ h9 => h9) rfl dX1_divide_76 ?_
          refine lv_aload_n hx hb dX1_divide_79 rfl (lv_at hl 2 rfl) ?_
          refine lv_iload hx hb dX1_divide_80 (lv_at hl 0 rfl) ?_
          obtain ⟨u16, g17, hf⟩ := Option.bind_eq_some_iff.mp hf
          try dsimp only at hf
          refine ct_call (va_runV (As := [.int v15]) (rest := [.ref (ad 40), .int v15, .ref (ra ad x1)]) ⟨hx, hb, hml, hown, hts⟩ (C_X2_get l D tys nw hn hnw hj htI htR (res := u16) g17) (cwV 1 hts (gu_V mw_71 mw_72 mw_73 mw_50 mw_65) rfl rfl rfl (by decide +kernel) ⟨Nat.le_of_ble_eq_true rfl, Nat.le_of_ble_eq_true rfl⟩) (ct_preV hn hP hK hN (ci := 2) (k := (20 + (x1).val)) rfl (ra_lt x1) (cl_row x1)) rfl rfl hl.1 rfl (lv_room (Nat.le_of_ble_eq_true rfl)) dX1_divide_82 ⟨Nat.zero_le _, Nat.zero_le _⟩) hS (fun H locs hP hS => ?_)
          refine lv_aload_n hx hb dX1_divide_85 rfl (lv_at hl 1 rfl) ?_
          refine va_get (ci := 1) (v := .ref (ad 40)) (C := RX1) (T := TX1) (N := 11) hx hb hts (fun w h => BW_in (in_wsX10 w h)) hown hK hP 41 cc_ring rfl 0 (by decide) (hts (.fieldLink RX1 12 "NumberFieldFactors$Ring" "extension" "LNumberFieldFactors$Extension;") (BW_in mw_47)) (fun _ h9 => h9) rfl dX1_divide_86 ?_
          refine lv_iload hx hb dX1_divide_89 (lv_at hl 6 rfl) ?_
          refine lv_aload_n hx hb dX1_divide_91 rfl (lv_at hl 3 rfl) ?_
          refine lv_iload hx hb dX1_divide_92 (lv_at hl 7 rfl) ?_
          obtain ⟨u18, g19, hf⟩ := Option.bind_eq_some_iff.mp hf
          try dsimp only at hf
          refine ct_call (va_runV (As := [.int x6]) (rest := [.int x5, .ref (ad 40), .int u16, .ref (ad 40), .int v15, .ref (ra ad x1)]) ⟨hx, hb, hml, hown, hts⟩ (C_X2_get l D tys nw hn hnw hj htI htR (res := u18) g19) (cwV 1 hts (gu_V mw_71 mw_72 mw_73 mw_50 mw_65) rfl rfl rfl (by decide +kernel) ⟨Nat.le_of_ble_eq_true rfl, Nat.le_of_ble_eq_true rfl⟩) (ct_preV hn hP hK hN (ci := 2) (k := (20 + (x2).val)) rfl (ra_lt x2) (cl_row x2)) rfl rfl hl.1 rfl (lv_room (Nat.le_of_ble_eq_true rfl)) dX1_divide_94 ⟨Nat.zero_le _, Nat.zero_le _⟩) hS (fun H locs hP hS => ?_)
          obtain ⟨u20, g21, hf⟩ := Option.bind_eq_some_iff.mp hf
          try dsimp only at hf
          refine ct_call (va_runV (As := [.int x5, .int u18]) (rest := [.int u16, .ref (ad 40), .int v15, .ref (ra ad x1)]) ⟨hx, hb, hml, hown, hts⟩ (C_X0_times l D tys nw hn hnw hj htI htR (res := u20) g21) (cwV 2 hts (gu_V mw_70 mw_16 mw_17 mw_18 mw_13) rfl rfl rfl (by decide +kernel) ⟨Nat.le_of_ble_eq_true rfl, Nat.le_of_ble_eq_true rfl⟩) (ct_preV hn hP hK hN (ci := 0) (k := 40) rfl (by decide) rfl) rfl rfl hl.1 rfl (lv_room (Nat.le_of_ble_eq_true rfl)) dX1_divide_97 ⟨Nat.zero_le _, Nat.zero_le _⟩) hS (fun H locs hP hS => ?_)
          obtain ⟨u22, g23, hf⟩ := Option.bind_eq_some_iff.mp hf
          try dsimp only at hf
          refine ct_call (va_runV (As := [.int u16, .int u20]) (rest := [.int v15, .ref (ra ad x1)]) ⟨hx, hb, hml, hown, hts⟩ (C_X0_minus l D tys nw hn hnw hj htI htR (res := u22) g23) (cwV 2 hts (gu_V mw_91 mw_92 mw_93 mw_18 mw_28) rfl rfl rfl (by decide +kernel) ⟨Nat.le_of_ble_eq_true rfl, Nat.le_of_ble_eq_true rfl⟩) (ct_preV hn hP hK hN (ci := 0) (k := 40) rfl (by decide) rfl) rfl rfl hl.1 rfl (lv_room (Nat.le_of_ble_eq_true rfl)) dX1_divide_100 ⟨Nat.zero_le _, Nat.zero_le _⟩) hS (fun H locs hP hS => ?_)
          obtain ⟨u24, g25, hf⟩ := Option.bind_eq_some_iff.mp hf
          try dsimp only at hf
          refine ct_call (va_runV (As := [.int v15, .int u22]) (rest := []) ⟨hx, hb, hml, hown, hts⟩ (C_X2_set l D tys nw hn hnw hj htI htR (res := u24) g25) (cwV 2 hts (gu_V mw_76 mw_77 mw_78 mw_50 mw_75) rfl rfl rfl (by decide +kernel) ⟨Nat.le_of_ble_eq_true rfl, Nat.le_of_ble_eq_true rfl⟩) (ct_preV hn hP hK hN (ci := 2) (k := (20 + (x1).val)) rfl (ra_lt x1) (cl_row x1)) rfl rfl hl.1 rfl (lv_room (Nat.le_of_ble_eq_true rfl)) dX1_divide_103 ⟨Nat.zero_le _, Nat.zero_le _⟩) hS (fun H locs hP hS => ?_)
          refine lv_iinc (v := x6 + 1) (lv' := [(6, .int (x6 + 1)), (7, .int v15), (0, .ref (ad 41)), (1, .ref (ra ad x1)), (2, .ref (ra ad x2)), (3, .int x3), (4, .int x4), (5, .int x5)]) hx hb dX1_divide_106 hl (k := 7) rfl rfl (by decide) rfl (fun ls hl => ?_)
          refine lv_goto (tgt := 52) hx hb dX1_divide_109 (by decide) ?_
          exact ih (x6 + 1) u24 _ _ _ hP hS (lv_sub hl [2, 3, 4, 5, 6, 7, 0] rfl) hf
  have L18 : ∀ (x1 : Fin 20) (x2 : Fin 20) (x3 : Int32) (k18 : Int32 → (Fin 20 → Nat → Int32) → Option ((Fin 20 → Nat → Int32))), (∀ (x4 : Int32) (M : Fin 20 → Nat → Int32) (H : Heap) (locs : List Loc) (ls : Array Slot), va_P D vwCl (ww 46 ad (cellC cI cR ad M E P C N)) H → va_S (ww_A 46 ad) s.heap H locs → lv_has ls 8 [(0, .ref (ad 41)), (1, .ref (ra ad x1)), (2, .ref (ra ad x2)), (3, .int x3), (4, .int x4)] →  k18 x4 M = some res → W p l e (headSpec usX1_divide { frames := 1, cells := 0, slots := 0, locals := 34 }).room s m [.ref (ad 41), .ref (ra ad p0), .ref (ra ad p1)].toArray below meth c H locs 0 0 (MQ below (ct_Q D (ww 46 ad (cellC cI cR ad res E P C N)) (ww_A 46 ad) (none)) [.ref (ad 41), .ref (ra ad p0), .ref (ra ad p1)].toArray s 0 0 (ww_A 46 ad)) (F0 m 118 ls [])) → ∀ (n : Nat) (x4 : Int32) (M : Fin 20 → Nat → Int32) (H : Heap) (locs : List Loc) (ls : Array Slot), va_P D vwCl (ww 46 ad (cellC cI cR ad M E P C N)) H → va_S (ww_A 46 ad) s.heap H locs → lv_has ls 8 [(0, .ref (ad 41)), (1, .ref (ra ad x1)), (2, .ref (ra ad x2)), (3, .int x3), (4, .int x4)] →  f_X1_divide_l18 k18 fu E x1 x2 x3 n x4 M = some res → W p l e (headSpec usX1_divide { frames := 1, cells := 0, slots := 0, locals := 34 }).room s m [.ref (ad 41), .ref (ra ad p0), .ref (ra ad p1)].toArray below meth c H locs 0 0 (MQ below (ct_Q D (ww 46 ad (cellC cI cR ad res E P C N)) (ww_A 46 ad) (none)) [.ref (ad 41), .ref (ra ad p0), .ref (ra ad p1)].toArray s 0 0 (ww_A 46 ad)) (F0 m 18 ls []) := by
    intro x1 x2 x3 k18 hk_18 n
    induction n with
    | zero => intro x4 M H locs ls hP hS hl hf; rw [f_X1_divide_l18] at hf; cases hf
    | succ n ih =>
      intro x4 M H locs ls hP hS hl hf
      rw [f_X1_divide_l18] at hf
      refine lv_iload_n hx hb dX1_divide_18 rfl (lv_at hl 3 rfl) ?_
      refine lv_if_lt (tgt := 118) hx hb dX1_divide_19 (by decide) (fun c7 => ?_) (fun c7 => ?_)
      · rw [if_pos c7] at hf
        exact hk_18 x4 M _ _ _ hP hS (lv_sub hl [0, 1, 2, 3, 4] rfl) hf
      · rw [if_neg c7] at hf
        refine lv_iload hx hb dX1_divide_22 (lv_at hl 4 rfl) ?_
        refine lv_iload_n hx hb dX1_divide_24 rfl (lv_at hl 3 rfl) ?_
        refine lv_icmp_lt (tgt := 118) hx hb dX1_divide_25 (by decide) (fun c8 => ?_) (fun c8 => ?_)
        · rw [if_pos c8] at hf
          exact hk_18 x4 M _ _ _ hP hS (lv_sub hl [0, 1, 2, 3, 4] rfl) hf
        · rw [if_neg c8] at hf
          refine lv_aload_n hx hb dX1_divide_28 rfl (lv_at hl 1 rfl) ?_
          refine lv_iload hx hb dX1_divide_29 (lv_at hl 4 rfl) ?_
          obtain ⟨u9, g10, hf⟩ := Option.bind_eq_some_iff.mp hf
          try dsimp only at hf
          refine ct_call (va_runV (As := [.int x4]) (rest := []) ⟨hx, hb, hml, hown, hts⟩ (C_X2_get l D tys nw hn hnw hj htI htR (res := u9) g10) (cwV 1 hts (gu_V mw_71 mw_72 mw_73 mw_50 mw_65) rfl rfl rfl (by decide +kernel) ⟨Nat.le_of_ble_eq_true rfl, Nat.le_of_ble_eq_true rfl⟩) (ct_preV hn hP hK hN (ci := 2) (k := (20 + (x1).val)) rfl (ra_lt x1) (cl_row x1)) rfl rfl hl.1 rfl (lv_room (Nat.le_of_ble_eq_true rfl)) dX1_divide_31 ⟨Nat.zero_le _, Nat.zero_le _⟩) hS (fun H locs hP hS => ?_)
          refine lv_istore (lv' := [(5, .int u9), (0, .ref (ad 41)), (1, .ref (ra ad x1)), (2, .ref (ra ad x2)), (3, .int x3), (4, .int x4)]) hx hb dX1_divide_34 hl (by decide) rfl (fun ls hl => ?_)
          refine lv_aload_n hx hb dX1_divide_36 rfl (lv_at hl 1 rfl) ?_
          refine va_get (ci := 1) (v := .ref (ra ad (2 : Fin 20))) (C := RX1) (T := TX1) (N := 11) hx hb hts (fun w h => BW_in (in_wsX10 w h)) hown hK hP 41 cc_ring rfl 2 (by decide) (hts (.fieldLink RX1 25 "NumberFieldFactors$Ring" "quotient" "LNumberFieldFactors$Row;") (BW_in mw_52)) (fun _ h9 => h9) rfl dX1_divide_37 ?_
          refine lv_iload hx hb dX1_divide_40 (lv_at hl 5 rfl) ?_
          refine lv_iload_n hx hb dX1_divide_42 rfl (lv_at hl 4 rfl) ?_
          refine lv_isub hx hb dX1_divide_43 ?_
          refine lv_iload hx hb dX1_divide_44 (lv_at hl 0 rfl) ?_
          obtain ⟨u11, g12, hf⟩ := Option.bind_eq_some_iff.mp hf
          try dsimp only at hf
          refine ct_call (va_runV (As := [.int (x4 - x3), .int u9]) (rest := []) ⟨hx, hb, hml, hown, hts⟩ (C_X2_set l D tys nw hn hnw hj htI htR (res := u11) g12) (cwV 2 hts (gu_V mw_76 mw_77 mw_78 mw_50 mw_75) rfl rfl rfl (by decide +kernel) ⟨Nat.le_of_ble_eq_true rfl, Nat.le_of_ble_eq_true rfl⟩) (ct_preV hn hP hK hN (ci := 2) (k := (20 + ((2 : Fin 20)).val)) rfl (ra_lt (2 : Fin 20)) (cl_row (2 : Fin 20))) rfl rfl hl.1 rfl (lv_room (Nat.le_of_ble_eq_true rfl)) dX1_divide_46 ⟨Nat.zero_le _, Nat.zero_le _⟩) hS (fun H locs hP hS => ?_)
          refine lv_iconst (v := 0) hx hb dX1_divide_49 (by decide) ?_
          refine lv_istore (lv' := [(6, .int 0), (5, .int u9), (0, .ref (ad 41)), (1, .ref (ra ad x1)), (2, .ref (ra ad x2)), (3, .int x3), (4, .int x4)]) hx hb dX1_divide_50 hl (by decide) rfl (fun ls hl => ?_)
          refine L52 x1 x2 x3 x4 u9 _ (fun y26 M27 H locs ls hP hS hl hf => ?_) fu 0 u11 _ _ _ hP hS (lv_sub hl [2, 3, 4, 5, 6, 1, 0] rfl) hf
          try dsimp only at hf
          refine lv_iinc (v := x4 + (-1)) (lv' := [(4, .int (x4 + (-1))), (0, .ref (ad 41)), (1, .ref (ra ad x1)), (2, .ref (ra ad x2)), (3, .int x3), (5, .int u9), (6, .int y26)]) hx hb dX1_divide_112 hl (k := 4) rfl rfl (by decide) rfl (fun ls hl => ?_)
          refine lv_goto (tgt := 18) hx hb dX1_divide_115 (by decide) ?_
          exact ih (x4 + (-1)) M27 _ _ _ hP hS (lv_sub hl [1, 2, 3, 4, 0] rfl) hf
  unfold f_X1_divide at hf
  refine lv_aload_n hx hb dX1_divide_0 rfl (lv_at hl 2 rfl) ?_
  obtain ⟨u1, g2, hf⟩ := Option.bind_eq_some_iff.mp hf
  try dsimp only at hf
  refine ct_call (va_runV (As := []) (rest := []) ⟨hx, hb, hml, hown, hts⟩ (C_X2_degree l D tys nw hn hnw hj htI htR (res := u1) g2) (cwV 0 hts (gu_V mw_67 mw_68 mw_69 mw_50 mw_64) rfl rfl rfl (by decide +kernel) ⟨Nat.le_of_ble_eq_true rfl, Nat.le_of_ble_eq_true rfl⟩) (ct_preV hn hP hK hN (ci := 2) (k := (20 + (p1).val)) rfl (ra_lt p1) (cl_row p1)) rfl rfl hl.1 rfl (lv_room (Nat.le_of_ble_eq_true rfl)) dX1_divide_1 ⟨Nat.zero_le _, Nat.zero_le _⟩) hS (fun H locs hP hS => ?_)
  refine lv_istore_n (lv' := [(3, .int u1), (0, .ref (ad 41)), (1, .ref (ra ad p0)), (2, .ref (ra ad p1))]) hx hb dX1_divide_4 rfl hl (by decide) rfl (fun ls hl => ?_)
  refine lv_aload_n hx hb dX1_divide_5 rfl (lv_at hl 1 rfl) ?_
  refine va_get (ci := 1) (v := .ref (ra ad (2 : Fin 20))) (C := RX1) (T := TX1) (N := 11) hx hb hts (fun w h => BW_in (in_wsX10 w h)) hown hK hP 41 cc_ring rfl 2 (by decide) (hts (.fieldLink RX1 25 "NumberFieldFactors$Ring" "quotient" "LNumberFieldFactors$Row;") (BW_in mw_52)) (fun _ h9 => h9) rfl dX1_divide_6 ?_
  obtain ⟨u3, g4, hf⟩ := Option.bind_eq_some_iff.mp hf
  try dsimp only at hf
  refine ct_call (va_runV (As := []) (rest := []) ⟨hx, hb, hml, hown, hts⟩ (C_X2_clear l D tys nw hn hnw hj htI htR (res := u3) g4) (cwV 0 hts (gu_V mw_83 mw_84 mw_85 mw_50 mw_80) rfl rfl rfl (by decide +kernel) ⟨Nat.le_of_ble_eq_true rfl, Nat.le_of_ble_eq_true rfl⟩) (ct_preV hn hP hK hN (ci := 2) (k := (20 + ((2 : Fin 20)).val)) rfl (ra_lt (2 : Fin 20)) (cl_row (2 : Fin 20))) rfl rfl hl.1 rfl (lv_room (Nat.le_of_ble_eq_true rfl)) dX1_divide_9 ⟨Nat.zero_le _, Nat.zero_le _⟩) hS (fun H locs hP hS => ?_)
  refine lv_aload_n hx hb dX1_divide_12 rfl (lv_at hl 2 rfl) ?_
  obtain ⟨u5, g6, hf⟩ := Option.bind_eq_some_iff.mp hf
  try dsimp only at hf
  refine ct_call (va_runV (As := []) (rest := []) ⟨hx, hb, hml, hown, hts⟩ (C_X2_degree l D tys nw hn hnw hj htI htR (res := u5) g6) (cwV 0 hts (gu_V mw_67 mw_68 mw_69 mw_50 mw_64) rfl rfl rfl (by decide +kernel) ⟨Nat.le_of_ble_eq_true rfl, Nat.le_of_ble_eq_true rfl⟩) (ct_preV hn hP hK hN (ci := 2) (k := (20 + (p0).val)) rfl (ra_lt p0) (cl_row p0)) rfl rfl hl.1 rfl (lv_room (Nat.le_of_ble_eq_true rfl)) dX1_divide_13 ⟨Nat.zero_le _, Nat.zero_le _⟩) hS (fun H locs hP hS => ?_)
  refine lv_istore (lv' := [(4, .int u5), (3, .int u1), (0, .ref (ad 41)), (1, .ref (ra ad p0)), (2, .ref (ra ad p1))]) hx hb dX1_divide_16 hl (by decide) rfl (fun ls hl => ?_)
  refine L18 p0 p1 u1 _ (fun y28 M29 H locs ls hP hS hl hf => ?_) fu u5 u3 _ _ _ hP hS (lv_sub hl [2, 3, 4, 1, 0] rfl) hf
  try dsimp only at hf
  obtain rfl := Option.some.inj hf
  exact W.vret hx hb hr (fun t ht hW => ⟨rfl, by rw [ht]; exact hP, hS.F ht⟩) hS.2.2 dX1_divide_118
def f_X1_makeMonic_l43 (k43 : Int32 → (Fin 20 → Nat → Int32) → Option ((Fin 20 → Nat → Int32))) (fu : Nat) (E : Nat → Int32) (x1 : Fin 20) (x2 : Int32) (x3 : Int32) (x4 : Int32) : Nat → Int32 → (Fin 20 → Nat → Int32) → Option ((Fin 20 → Nat → Int32))
  | 0, _, _ => none
  | n + 1, x5, M =>
    if x2 < x5 then
      k43 x5 M
    else
      (f_X2_get M x1 x5).bind (fun u10 =>
      (f_X0_times E u10 x4).bind (fun u12 =>
      (f_X2_set M x1 x5 u12).bind (fun u14 =>
      f_X1_makeMonic_l43 k43 fu E x1 x2 x3 x4 n (x5 + 1) u14)))
def f_X1_makeMonic (fu : Nat) (M : Fin 20 → Nat → Int32) (E : Nat → Int32) (p0 : Fin 20) : Option ((Fin 20 → Nat → Int32)) :=
  (f_X2_degree fu M p0).bind (fun u1 =>
  (f_X2_get M p0 u1).bind (fun u3 =>
  if u3 = 0 then
    some M
  else
    if u3 = 1 then
      some M
    else
      (f_X0_power fu E u3 ((E 1) - 2)).bind (fun u7 =>
      f_X1_makeMonic_l43 (fun y16 M17 =>
        some M17) fu E p0 u1 u3 u7 fu 0 M)))
set_option maxHeartbeats 4000000 in
set_option maxRecDepth 100000 in
theorem C_X1_makeMonic (l : Launch) (D : va_G) (tys : List (ClassId × FieldType)) (nw : List Cond) (hn : nw.all nw_kind = true) (hnw : ∀ w ∈ nw0, w ∈ nw) {ad : Nat → Nat} (hj : ww_inj 46 ad) {cI : ClassId} {cR : ClassId} (htI : tys[0]? = some (cI, .int)) (htR : tys[1]? = some (cR, .object RX2)) {fu : Nat} {M : Fin 20 → Nat → Int32} {E : Nat → Int32} {P : Nat → Fin 20} {C : Nat → Int32} {N : Nat → Int32} {p0 : Fin 20} {res : (Fin 20 → Nat → Int32)} (hf : f_X1_makeMonic fu M E p0 = some res) :
    Met l yX1_makeMonic usX1_makeMonic ({ frames := 2, cells := 0, slots := 0, locals := 59 }) (va_Pc [.ref (ad 41), .ref (ra ad p0)] (ws_B D tys nw (ww 46 ad (cellC cI cR ad M E P C N)))) (ct_Q D (ww 46 ad (cellC cI cR ad res E P C N)) (ww_A 46 ad) (none)) 0 0 (ww_A 46 ad) := by
  refine Met.ofW (cc := cX1_makeMonic) (maxL := 6) (ret := none) (by decide) rfl ?_
  intro p e s m args below meth c s₁ B hml hv
  obtain ⟨rfl, hP, hK, hN⟩ := hv
  have hx := B.exec
  have hb := B.bytes
  have hr := B.returns
  have hts := atoms_spec (ws := usX1_makeMonic) B.pre
  have hown : s.vm.findClass RX1 = some m.cls := findClass_of_methodNamed B.named
  have hlocks := B.notSynchronized
  have hS : va_S (ww_A 46 ad) s.heap s.heap [] := va_S.rf
  have hl := lv_entry ([.ref (ad 41), .ref (ra ad p0)]) (n := 6) (Nat.le_of_ble_eq_true rfl)
  rw [lg_entry_eq]
  generalize (lg_sl ([.ref (ad 41), .ref (ra ad p0)]) ++ List.replicate (6 - (lg_sl ([.ref (ad 41), .ref (ra ad p0)])).length) Slot.unset).toArray = ls at hl ⊢
  have hl : lv_has ls 6 [(0, .ref (ad 41)), (1, .ref (ra ad p0))] := hl
  have L43 : ∀ (x1 : Fin 20) (x2 : Int32) (x3 : Int32) (x4 : Int32) (k43 : Int32 → (Fin 20 → Nat → Int32) → Option ((Fin 20 → Nat → Int32))), (∀ (x5 : Int32) (M : Fin 20 → Nat → Int32) (H : Heap) (locs : List Loc) (ls : Array Slot), va_P D vwCl (ww 46 ad (cellC cI cR ad M E P C N)) H → va_S (ww_A 46 ad) s.heap H locs → lv_has ls 6 [(0, .ref (ad 41)), (1, .ref (ra ad x1)), (2, .int x2), (3, .int x3), (4, .int x4), (5, .int x5)] →  k43 x5 M = some res → W p l e (headSpec usX1_makeMonic { frames := 2, cells := 0, slots := 0, locals := 59 }).room s m [.ref (ad 41), .ref (ra ad p0)].toArray below meth c H locs 0 0 (MQ below (ct_Q D (ww 46 ad (cellC cI cR ad res E P C N)) (ww_A 46 ad) (none)) [.ref (ad 41), .ref (ra ad p0)].toArray s 0 0 (ww_A 46 ad)) (F0 m 76 ls [])) → ∀ (n : Nat) (x5 : Int32) (M : Fin 20 → Nat → Int32) (H : Heap) (locs : List Loc) (ls : Array Slot), va_P D vwCl (ww 46 ad (cellC cI cR ad M E P C N)) H → va_S (ww_A 46 ad) s.heap H locs → lv_has ls 6 [(0, .ref (ad 41)), (1, .ref (ra ad x1)), (2, .int x2), (3, .int x3), (4, .int x4), (5, .int x5)] →  f_X1_makeMonic_l43 k43 fu E x1 x2 x3 x4 n x5 M = some res → W p l e (headSpec usX1_makeMonic { frames := 2, cells := 0, slots := 0, locals := 59 }).room s m [.ref (ad 41), .ref (ra ad p0)].toArray below meth c H locs 0 0 (MQ below (ct_Q D (ww 46 ad (cellC cI cR ad res E P C N)) (ww_A 46 ad) (none)) [.ref (ad 41), .ref (ra ad p0)].toArray s 0 0 (ww_A 46 ad)) (F0 m 43 ls []) := by
    intro x1 x2 x3 x4 k43 hk_43 n
    induction n with
    | zero => intro x5 M H locs ls hP hS hl hf; rw [f_X1_makeMonic_l43] at hf; cases hf
    | succ n ih =>
      intro x5 M H locs ls hP hS hl hf
      rw [f_X1_makeMonic_l43] at hf
      refine lv_iload hx hb dX1_makeMonic_43 (lv_at hl 5 rfl) ?_
      refine lv_iload_n hx hb dX1_makeMonic_45 rfl (lv_at hl 2 rfl) ?_
      refine lv_icmp_gt (tgt := 76) hx hb dX1_makeMonic_46 (by decide) (fun c9 => ?_) (fun c9 => ?_)
      · rw [if_pos c9] at hf
        exact hk_43 x5 M _ _ _ hP hS (lv_sub hl [0, 1, 2, 3, 4, 5] rfl) hf
      · rw [if_neg c9] at hf
        refine lv_aload_n hx hb dX1_makeMonic_49 rfl (lv_at hl 1 rfl) ?_
        refine lv_iload hx hb dX1_makeMonic_50 (lv_at hl 5 rfl) ?_
        refine lv_aload_n hx hb dX1_makeMonic_52 rfl (lv_at hl 0 rfl) ?_
        refine va_get (ci := 1) (v := .ref (ad 40)) (C := RX1) (T := TX1) (N := 11) hx hb hts (fun w h => BW_in (in_wsX10 w h)) hown hK hP 41 cc_ring rfl 0 (by decide) (hts (.fieldLink RX1 12 "NumberFieldFactors$Ring" "extension" "LNumberFieldFactors$Extension;") (BW_in mw_47)) (fun _ h9 => h9) rfl dX1_makeMonic_53 ?_
        refine lv_aload_n hx hb dX1_makeMonic_56 rfl (lv_at hl 1 rfl) ?_
        refine lv_iload hx hb dX1_makeMonic_57 (lv_at hl 5 rfl) ?_
        obtain ⟨u10, g11, hf⟩ := Option.bind_eq_some_iff.mp hf
        try dsimp only at hf
        refine ct_call (va_runV (As := [.int x5]) (rest := [.ref (ad 40), .int x5, .ref (ra ad x1)]) ⟨hx, hb, hml, hown, hts⟩ (C_X2_get l D tys nw hn hnw hj htI htR (res := u10) g11) (cwV 1 hts (gu_V mw_71 mw_72 mw_73 mw_50 mw_65) rfl rfl rfl (by decide +kernel) ⟨Nat.le_of_ble_eq_true rfl, Nat.le_of_ble_eq_true rfl⟩) (ct_preV hn hP hK hN (ci := 2) (k := (20 + (x1).val)) rfl (ra_lt x1) (cl_row x1)) rfl rfl hl.1 rfl (lv_room (Nat.le_of_ble_eq_true rfl)) dX1_makeMonic_59 ⟨Nat.zero_le _, Nat.zero_le _⟩) hS (fun H locs hP hS => ?_)
        refine lv_iload hx hb dX1_makeMonic_62 (lv_at hl 4 rfl) ?_
        obtain ⟨u12, g13, hf⟩ := Option.bind_eq_some_iff.mp hf
        try dsimp only at hf
        refine ct_call (va_runV (As := [.int u10, .int x4]) (rest := [.int x5, .ref (ra ad x1)]) ⟨hx, hb, hml, hown, hts⟩ (C_X0_times l D tys nw hn hnw hj htI htR (res := u12) g13) (cwV 2 hts (gu_V mw_70 mw_16 mw_17 mw_18 mw_13) rfl rfl rfl (by decide +kernel) ⟨Nat.le_of_ble_eq_true rfl, Nat.le_of_ble_eq_true rfl⟩) (ct_preV hn hP hK hN (ci := 0) (k := 40) rfl (by decide) rfl) rfl rfl hl.1 rfl (lv_room (Nat.le_of_ble_eq_true rfl)) dX1_makeMonic_64 ⟨Nat.zero_le _, Nat.zero_le _⟩) hS (fun H locs hP hS => ?_)
        obtain ⟨u14, g15, hf⟩ := Option.bind_eq_some_iff.mp hf
        try dsimp only at hf
        refine ct_call (va_runV (As := [.int x5, .int u12]) (rest := []) ⟨hx, hb, hml, hown, hts⟩ (C_X2_set l D tys nw hn hnw hj htI htR (res := u14) g15) (cwV 2 hts (gu_V mw_76 mw_77 mw_78 mw_50 mw_75) rfl rfl rfl (by decide +kernel) ⟨Nat.le_of_ble_eq_true rfl, Nat.le_of_ble_eq_true rfl⟩) (ct_preV hn hP hK hN (ci := 2) (k := (20 + (x1).val)) rfl (ra_lt x1) (cl_row x1)) rfl rfl hl.1 rfl (lv_room (Nat.le_of_ble_eq_true rfl)) dX1_makeMonic_67 ⟨Nat.zero_le _, Nat.zero_le _⟩) hS (fun H locs hP hS => ?_)
        refine lv_iinc (v := x5 + 1) (lv' := [(5, .int (x5 + 1)), (0, .ref (ad 41)), (1, .ref (ra ad x1)), (2, .int x2), (3, .int x3), (4, .int x4)]) hx hb dX1_makeMonic_70 hl (k := 5) rfl rfl (by decide) rfl (fun ls hl => ?_)
        refine lv_goto (tgt := 43) hx hb dX1_makeMonic_73 (by decide) ?_
        exact ih (x5 + 1) u14 _ _ _ hP hS (lv_sub hl [1, 2, 3, 4, 5, 0] rfl) hf
  unfold f_X1_makeMonic at hf
  refine lv_aload_n hx hb dX1_makeMonic_0 rfl (lv_at hl 1 rfl) ?_
  obtain ⟨u1, g2, hf⟩ := Option.bind_eq_some_iff.mp hf
  try dsimp only at hf
  refine ct_call (va_runV (As := []) (rest := []) ⟨hx, hb, hml, hown, hts⟩ (C_X2_degree l D tys nw hn hnw hj htI htR (res := u1) g2) (cwV 0 hts (gu_V mw_67 mw_68 mw_69 mw_50 mw_64) rfl rfl rfl (by decide +kernel) ⟨Nat.le_of_ble_eq_true rfl, Nat.le_of_ble_eq_true rfl⟩) (ct_preV hn hP hK hN (ci := 2) (k := (20 + (p0).val)) rfl (ra_lt p0) (cl_row p0)) rfl rfl hl.1 rfl (lv_room (Nat.le_of_ble_eq_true rfl)) dX1_makeMonic_1 ⟨Nat.zero_le _, Nat.zero_le _⟩) hS (fun H locs hP hS => ?_)
  refine lv_istore_n (lv' := [(2, .int u1), (0, .ref (ad 41)), (1, .ref (ra ad p0))]) hx hb dX1_makeMonic_4 rfl hl (by decide) rfl (fun ls hl => ?_)
  refine lv_aload_n hx hb dX1_makeMonic_5 rfl (lv_at hl 2 rfl) ?_
  refine lv_iload_n hx hb dX1_makeMonic_6 rfl (lv_at hl 0 rfl) ?_
  obtain ⟨u3, g4, hf⟩ := Option.bind_eq_some_iff.mp hf
  try dsimp only at hf
  refine ct_call (va_runV (As := [.int u1]) (rest := []) ⟨hx, hb, hml, hown, hts⟩ (C_X2_get l D tys nw hn hnw hj htI htR (res := u3) g4) (cwV 1 hts (gu_V mw_71 mw_72 mw_73 mw_50 mw_65) rfl rfl rfl (by decide +kernel) ⟨Nat.le_of_ble_eq_true rfl, Nat.le_of_ble_eq_true rfl⟩) (ct_preV hn hP hK hN (ci := 2) (k := (20 + (p0).val)) rfl (ra_lt p0) (cl_row p0)) rfl rfl hl.1 rfl (lv_room (Nat.le_of_ble_eq_true rfl)) dX1_makeMonic_7 ⟨Nat.zero_le _, Nat.zero_le _⟩) hS (fun H locs hP hS => ?_)
  refine lv_istore_n (lv' := [(3, .int u3), (2, .int u1), (0, .ref (ad 41)), (1, .ref (ra ad p0))]) hx hb dX1_makeMonic_10 rfl hl (by decide) rfl (fun ls hl => ?_)
  refine lv_iload_n hx hb dX1_makeMonic_11 rfl (lv_at hl 0 rfl) ?_
  refine lv_if_eq (tgt := 20) hx hb dX1_makeMonic_12 (by decide) (fun c5 => ?_) (fun c5 => ?_)
  · rw [if_pos c5] at hf
    obtain rfl := Option.some.inj hf
    exact W.vret hx hb hr (fun t ht hW => ⟨rfl, by rw [ht]; exact hP, hS.F ht⟩) hS.2.2 dX1_makeMonic_20
  · rw [if_neg c5] at hf
    refine lv_iload_n hx hb dX1_makeMonic_15 rfl (lv_at hl 0 rfl) ?_
    refine lv_iconst (v := 1) hx hb dX1_makeMonic_16 (by decide) ?_
    refine lv_icmp_ne (tgt := 21) hx hb dX1_makeMonic_17 (by decide) (fun c6 => ?_) (fun c6 => ?_)
    · rw [if_neg c6] at hf
      refine lv_aload_n hx hb dX1_makeMonic_21 rfl (lv_at hl 2 rfl) ?_
      refine va_get (ci := 1) (v := .ref (ad 40)) (C := RX1) (T := TX1) (N := 11) hx hb hts (fun w h => BW_in (in_wsX10 w h)) hown hK hP 41 cc_ring rfl 0 (by decide) (hts (.fieldLink RX1 12 "NumberFieldFactors$Ring" "extension" "LNumberFieldFactors$Extension;") (BW_in mw_47)) (fun _ h9 => h9) rfl dX1_makeMonic_22 ?_
      refine lv_iload_n hx hb dX1_makeMonic_25 rfl (lv_at hl 0 rfl) ?_
      refine lv_aload_n hx hb dX1_makeMonic_26 rfl (lv_at hl 2 rfl) ?_
      refine va_get (ci := 1) (v := .ref (ad 40)) (C := RX1) (T := TX1) (N := 11) hx hb hts (fun w h => BW_in (in_wsX10 w h)) hown hK hP 41 cc_ring rfl 0 (by decide) (hts (.fieldLink RX1 12 "NumberFieldFactors$Ring" "extension" "LNumberFieldFactors$Extension;") (BW_in mw_47)) (fun _ h9 => h9) rfl dX1_makeMonic_27 ?_
      refine va_getN (ci := 0) (v := .int (E 1)) (C := RX0) (T := TX0) (N := 8) (host := "NumberFieldFactors") hx hb hts (fun w h => BW_in (in_wsX00 w h)) hown hK hP 40 cc_ext rfl 1 (by decide) (va_Nw.use rfl (hN (.fieldLinkNest RX1 81 "NumberFieldFactors$Extension" "size" "I" "NumberFieldFactors") (hnw _ (by decide +kernel)))) (fun _ h9 => h9) rfl dX1_makeMonic_30 ?_
      refine lv_iconst (v := 2) hx hb dX1_makeMonic_33 (by decide) ?_
      refine lv_isub hx hb dX1_makeMonic_34 ?_
      obtain ⟨u7, g8, hf⟩ := Option.bind_eq_some_iff.mp hf
      try dsimp only at hf
      refine ct_call (va_runV (As := [.int u3, .int ((E 1) - 2)]) (rest := []) ⟨hx, hb, hml, hown, hts⟩ (C_X0_power l D tys nw hn hnw hj htI htR (res := u7) g8) (cwV 2 hts (gu_V mw_95 mw_24 mw_25 mw_18 mw_14) rfl rfl rfl (by decide +kernel) ⟨Nat.le_of_ble_eq_true rfl, Nat.le_of_ble_eq_true rfl⟩) (ct_preV hn hP hK hN (ci := 0) (k := 40) rfl (by decide) rfl) rfl rfl hl.1 rfl (lv_room (Nat.le_of_ble_eq_true rfl)) dX1_makeMonic_35 ⟨Nat.zero_le _, Nat.zero_le _⟩) hS (fun H locs hP hS => ?_)
      refine lv_istore (lv' := [(4, .int u7), (3, .int u3), (2, .int u1), (0, .ref (ad 41)), (1, .ref (ra ad p0))]) hx hb dX1_makeMonic_38 hl (by decide) rfl (fun ls hl => ?_)
      refine lv_iconst (v := 0) hx hb dX1_makeMonic_40 (by decide) ?_
      refine lv_istore (lv' := [(5, .int 0), (4, .int u7), (3, .int u3), (2, .int u1), (0, .ref (ad 41)), (1, .ref (ra ad p0))]) hx hb dX1_makeMonic_41 hl (by decide) rfl (fun ls hl => ?_)
      refine L43 p0 u1 u3 u7 _ (fun y16 M17 H locs ls hP hS hl hf => ?_) fu 0 M _ _ _ hP hS (lv_sub hl [4, 5, 3, 2, 1, 0] rfl) hf
      try dsimp only at hf
      obtain rfl := Option.some.inj hf
      exact W.vret hx hb hr (fun t ht hW => ⟨rfl, by rw [ht]; exact hP, hS.F ht⟩) hS.2.2 dX1_makeMonic_76
    · rw [if_pos c6] at hf
      obtain rfl := Option.some.inj hf
      exact W.vret hx hb hr (fun t ht hW => ⟨rfl, by rw [ht]; exact hP, hS.F ht⟩) hS.2.2 dX1_makeMonic_20
def f_X1_findCommon_l31 (k31 : Fin 20 → Fin 20 → Int32 → (Fin 20 → Nat → Int32) → Option ((Fin 20 → Nat → Int32))) (fu : Nat) (E : Nat → Int32) (x1 : Fin 20) (x2 : Fin 20) (x3 : Fin 20) : Nat → Fin 20 → Fin 20 → Int32 → (Fin 20 → Nat → Int32) → Option ((Fin 20 → Nat → Int32))
  | 0, _, _, _, _ => none
  | n + 1, x4, x5, x6, M =>
    if 17 < x6 then
      k31 x4 x5 x6 M
    else
      (f_X2_degree fu M x5).bind (fun u6 =>
      if u6 < 0 then
        k31 x4 x5 x6 M
      else
        (f_X1_makeMonic fu M E x5).bind (fun u9 =>
        (f_X1_divide fu u9 E x4 x5).bind (fun u11 =>
        f_X1_findCommon_l31 k31 fu E x1 x2 x3 n x5 x4 (x6 + 1) u11)))
def f_X1_findCommon (fu : Nat) (M : Fin 20 → Nat → Int32) (E : Nat → Int32) (p0 : Fin 20) (p1 : Fin 20) (p2 : Fin 20) : Option ((Fin 20 → Nat → Int32)) :=
  (f_X2_copy fu M (3 : Fin 20) p0).bind (fun u1 =>
  (f_X2_copy fu u1 (4 : Fin 20) p1).bind (fun u3 =>
  f_X1_findCommon_l31 (fun y13 y14 y15 M16 =>
    (f_X1_makeMonic fu M16 E y13).bind (fun u17 =>
    (f_X2_copy fu u17 p2 y13).bind (fun u19 =>
    some u19))) fu E p0 p1 p2 fu (3 : Fin 20) (4 : Fin 20) 0 u3))
set_option maxHeartbeats 4000000 in
set_option maxRecDepth 100000 in
theorem C_X1_findCommon (l : Launch) (D : va_G) (tys : List (ClassId × FieldType)) (nw : List Cond) (hn : nw.all nw_kind = true) (hnw : ∀ w ∈ nw0, w ∈ nw) {ad : Nat → Nat} (hj : ww_inj 46 ad) {cI : ClassId} {cR : ClassId} (htI : tys[0]? = some (cI, .int)) (htR : tys[1]? = some (cR, .object RX2)) {fu : Nat} {M : Fin 20 → Nat → Int32} {E : Nat → Int32} {P : Nat → Fin 20} {C : Nat → Int32} {N : Nat → Int32} {p0 : Fin 20} {p1 : Fin 20} {p2 : Fin 20} {res : (Fin 20 → Nat → Int32)} (hf : f_X1_findCommon fu M E p0 p1 p2 = some res) :
    Met l yX1_findCommon usX1_findCommon ({ frames := 3, cells := 0, slots := 0, locals := 84 }) (va_Pc [.ref (ad 41), .ref (ra ad p0), .ref (ra ad p1), .ref (ra ad p2)] (ws_B D tys nw (ww 46 ad (cellC cI cR ad M E P C N)))) (ct_Q D (ww 46 ad (cellC cI cR ad res E P C N)) (ww_A 46 ad) (none)) 0 0 (ww_A 46 ad) := by
  refine Met.ofW (cc := cX1_findCommon) (maxL := 8) (ret := none) (by decide) rfl ?_
  intro p e s m args below meth c s₁ B hml hv
  obtain ⟨rfl, hP, hK, hN⟩ := hv
  have hx := B.exec
  have hb := B.bytes
  have hr := B.returns
  have hts := atoms_spec (ws := usX1_findCommon) B.pre
  have hown : s.vm.findClass RX1 = some m.cls := findClass_of_methodNamed B.named
  have hlocks := B.notSynchronized
  have hS : va_S (ww_A 46 ad) s.heap s.heap [] := va_S.rf
  have hl := lv_entry ([.ref (ad 41), .ref (ra ad p0), .ref (ra ad p1), .ref (ra ad p2)]) (n := 8) (Nat.le_of_ble_eq_true rfl)
  rw [lg_entry_eq]
  generalize (lg_sl ([.ref (ad 41), .ref (ra ad p0), .ref (ra ad p1), .ref (ra ad p2)]) ++ List.replicate (8 - (lg_sl ([.ref (ad 41), .ref (ra ad p0), .ref (ra ad p1), .ref (ra ad p2)])).length) Slot.unset).toArray = ls at hl ⊢
  have hl : lv_has ls 8 [(0, .ref (ad 41)), (1, .ref (ra ad p0)), (2, .ref (ra ad p1)), (3, .ref (ra ad p2))] := hl
  have L31 : ∀ (x1 : Fin 20) (x2 : Fin 20) (x3 : Fin 20) (k31 : Fin 20 → Fin 20 → Int32 → (Fin 20 → Nat → Int32) → Option ((Fin 20 → Nat → Int32))), (∀ (x4 : Fin 20) (x5 : Fin 20) (x6 : Int32) (M : Fin 20 → Nat → Int32) (H : Heap) (locs : List Loc) (ls : Array Slot), va_P D vwCl (ww 46 ad (cellC cI cR ad M E P C N)) H → va_S (ww_A 46 ad) s.heap H locs → lv_has ls 8 [(0, .ref (ad 41)), (1, .ref (ra ad x1)), (2, .ref (ra ad x2)), (3, .ref (ra ad x3)), (4, .ref (ra ad x4)), (5, .ref (ra ad x5)), (6, .int x6)] →  k31 x4 x5 x6 M = some res → W p l e (headSpec usX1_findCommon { frames := 3, cells := 0, slots := 0, locals := 84 }).room s m [.ref (ad 41), .ref (ra ad p0), .ref (ra ad p1), .ref (ra ad p2)].toArray below meth c H locs 0 0 (MQ below (ct_Q D (ww 46 ad (cellC cI cR ad res E P C N)) (ww_A 46 ad) (none)) [.ref (ad 41), .ref (ra ad p0), .ref (ra ad p1), .ref (ra ad p2)].toArray s 0 0 (ww_A 46 ad)) (F0 m 78 ls [])) → ∀ (n : Nat) (x4 : Fin 20) (x5 : Fin 20) (x6 : Int32) (M : Fin 20 → Nat → Int32) (H : Heap) (locs : List Loc) (ls : Array Slot), va_P D vwCl (ww 46 ad (cellC cI cR ad M E P C N)) H → va_S (ww_A 46 ad) s.heap H locs → lv_has ls 8 [(0, .ref (ad 41)), (1, .ref (ra ad x1)), (2, .ref (ra ad x2)), (3, .ref (ra ad x3)), (4, .ref (ra ad x4)), (5, .ref (ra ad x5)), (6, .int x6)] →  f_X1_findCommon_l31 k31 fu E x1 x2 x3 n x4 x5 x6 M = some res → W p l e (headSpec usX1_findCommon { frames := 3, cells := 0, slots := 0, locals := 84 }).room s m [.ref (ad 41), .ref (ra ad p0), .ref (ra ad p1), .ref (ra ad p2)].toArray below meth c H locs 0 0 (MQ below (ct_Q D (ww 46 ad (cellC cI cR ad res E P C N)) (ww_A 46 ad) (none)) [.ref (ad 41), .ref (ra ad p0), .ref (ra ad p1), .ref (ra ad p2)].toArray s 0 0 (ww_A 46 ad)) (F0 m 31 ls []) := by
    intro x1 x2 x3 k31 hk_31 n
    induction n with
    | zero => intro x4 x5 x6 M H locs ls hP hS hl hf; rw [f_X1_findCommon_l31] at hf; cases hf
    | succ n ih =>
      intro x4 x5 x6 M H locs ls hP hS hl hf
      rw [f_X1_findCommon_l31] at hf
      refine lv_iload hx hb dX1_findCommon_31 (lv_at hl 6 rfl) ?_
      refine lv_bipush (v := 17) hx hb dX1_findCommon_33 (by decide) ?_
      refine lv_icmp_gt (tgt := 78) hx hb dX1_findCommon_35 (by decide) (fun c5 => ?_) (fun c5 => ?_)
      · rw [if_pos c5] at hf
        exact hk_31 x4 x5 x6 M _ _ _ hP hS (lv_sub hl [0, 1, 2, 3, 4, 5, 6] rfl) hf
      · rw [if_neg c5] at hf
        refine lv_aload hx hb dX1_findCommon_38 (lv_at hl 5 rfl) ?_
        obtain ⟨u6, g7, hf⟩ := Option.bind_eq_some_iff.mp hf
        try dsimp only at hf
        refine ct_call (va_runV (As := []) (rest := []) ⟨hx, hb, hml, hown, hts⟩ (C_X2_degree l D tys nw hn hnw hj htI htR (res := u6) g7) (cwV 0 hts (gu_V mw_67 mw_68 mw_69 mw_50 mw_64) rfl rfl rfl (by decide +kernel) ⟨Nat.le_of_ble_eq_true rfl, Nat.le_of_ble_eq_true rfl⟩) (ct_preV hn hP hK hN (ci := 2) (k := (20 + (x5).val)) rfl (ra_lt x5) (cl_row x5)) rfl rfl hl.1 rfl (lv_room (Nat.le_of_ble_eq_true rfl)) dX1_findCommon_40 ⟨Nat.zero_le _, Nat.zero_le _⟩) hS (fun H locs hP hS => ?_)
        refine lv_if_lt (tgt := 78) hx hb dX1_findCommon_43 (by decide) (fun c8 => ?_) (fun c8 => ?_)
        · rw [if_pos c8] at hf
          exact hk_31 x4 x5 x6 M _ _ _ hP hS (lv_sub hl [0, 1, 2, 3, 4, 5, 6] rfl) hf
        · rw [if_neg c8] at hf
          refine lv_aload_n hx hb dX1_findCommon_46 rfl (lv_at hl 0 rfl) ?_
          refine lv_aload hx hb dX1_findCommon_47 (lv_at hl 5 rfl) ?_
          obtain ⟨u9, g10, hf⟩ := Option.bind_eq_some_iff.mp hf
          try dsimp only at hf
          refine ct_call (va_runV (As := [.ref (ra ad x5)]) (rest := []) ⟨hx, hb, hml, hown, hts⟩ (C_X1_makeMonic l D tys nw hn hnw hj htI htR (res := u9) g10) (cwV 1 hts (gu_V mw_97 mw_98 mw_99 mw_100 mw_96) rfl rfl rfl (by decide +kernel) ⟨Nat.le_of_ble_eq_true rfl, Nat.le_of_ble_eq_true rfl⟩) (ct_preV hn hP hK hN (ci := 1) (k := 41) rfl (by decide) rfl) rfl rfl hl.1 rfl (lv_room (Nat.le_of_ble_eq_true rfl)) dX1_findCommon_49 ⟨Nat.zero_le _, Nat.zero_le _⟩) hS (fun H locs hP hS => ?_)
          refine lv_aload_n hx hb dX1_findCommon_52 rfl (lv_at hl 0 rfl) ?_
          refine lv_aload hx hb dX1_findCommon_53 (lv_at hl 4 rfl) ?_
          refine lv_aload hx hb dX1_findCommon_55 (lv_at hl 5 rfl) ?_
          obtain ⟨u11, g12, hf⟩ := Option.bind_eq_some_iff.mp hf
          try dsimp only at hf
          refine ct_call (va_runV (As := [.ref (ra ad x4), .ref (ra ad x5)]) (rest := []) ⟨hx, hb, hml, hown, hts⟩ (C_X1_divide l D tys nw hn hnw hj htI htR (res := u11) g12) (cwV 2 hts (gu_V mw_101 mw_102 mw_103 mw_100 mw_94) rfl rfl rfl (by decide +kernel) ⟨Nat.le_of_ble_eq_true rfl, Nat.le_of_ble_eq_true rfl⟩) (ct_preV hn hP hK hN (ci := 1) (k := 41) rfl (by decide) rfl) rfl rfl hl.1 rfl (lv_room (Nat.le_of_ble_eq_true rfl)) dX1_findCommon_57 ⟨Nat.zero_le _, Nat.zero_le _⟩) hS (fun H locs hP hS => ?_)
          refine lv_aload hx hb dX1_findCommon_60 (lv_at hl 4 rfl) ?_
          refine lv_astore (lv' := [(7, .ref (ra ad x4)), (0, .ref (ad 41)), (1, .ref (ra ad x1)), (2, .ref (ra ad x2)), (3, .ref (ra ad x3)), (4, .ref (ra ad x4)), (5, .ref (ra ad x5)), (6, .int x6)]) hx hb dX1_findCommon_62 hl (by decide) rfl (fun ls hl => ?_)
          refine lv_aload hx hb dX1_findCommon_64 (lv_at hl 6 rfl) ?_
          refine lv_astore (lv' := [(4, .ref (ra ad x5)), (7, .ref (ra ad x4)), (0, .ref (ad 41)), (1, .ref (ra ad x1)), (2, .ref (ra ad x2)), (3, .ref (ra ad x3)), (5, .ref (ra ad x5)), (6, .int x6)]) hx hb dX1_findCommon_66 hl (by decide) rfl (fun ls hl => ?_)
          refine lv_aload hx hb dX1_findCommon_68 (lv_at hl 1 rfl) ?_
          refine lv_astore (lv' := [(5, .ref (ra ad x4)), (4, .ref (ra ad x5)), (7, .ref (ra ad x4)), (0, .ref (ad 41)), (1, .ref (ra ad x1)), (2, .ref (ra ad x2)), (3, .ref (ra ad x3)), (6, .int x6)]) hx hb dX1_findCommon_70 hl (by decide) rfl (fun ls hl => ?_)
          refine lv_iinc (v := x6 + 1) (lv' := [(6, .int (x6 + 1)), (5, .ref (ra ad x4)), (4, .ref (ra ad x5)), (7, .ref (ra ad x4)), (0, .ref (ad 41)), (1, .ref (ra ad x1)), (2, .ref (ra ad x2)), (3, .ref (ra ad x3))]) hx hb dX1_findCommon_72 hl (k := 7) rfl rfl (by decide) rfl (fun ls hl => ?_)
          refine lv_goto (tgt := 31) hx hb dX1_findCommon_75 (by decide) ?_
          exact ih x5 x4 (x6 + 1) u11 _ _ _ hP hS (lv_sub hl [4, 5, 6, 7, 2, 1, 0] rfl) hf
  unfold f_X1_findCommon at hf
  refine lv_aload_n hx hb dX1_findCommon_0 rfl (lv_at hl 0 rfl) ?_
  refine va_get (ci := 1) (v := .ref (ra ad (3 : Fin 20))) (C := RX1) (T := TX1) (N := 11) hx hb hts (fun w h => BW_in (in_wsX10 w h)) hown hK hP 41 cc_ring rfl 3 (by decide) (hts (.fieldLink RX1 28 "NumberFieldFactors$Ring" "older" "LNumberFieldFactors$Row;") (BW_in mw_53)) (fun _ h9 => h9) rfl dX1_findCommon_1 ?_
  refine lv_aload_n hx hb dX1_findCommon_4 rfl (lv_at hl 1 rfl) ?_
  obtain ⟨u1, g2, hf⟩ := Option.bind_eq_some_iff.mp hf
  try dsimp only at hf
  refine ct_call (va_runV (As := [.ref (ra ad p0)]) (rest := []) ⟨hx, hb, hml, hown, hts⟩ (C_X2_copy l D tys nw hn hnw hj htI htR (res := u1) g2) (cwV 1 hts (gu_V mw_86 mw_87 mw_88 mw_50 mw_81) rfl rfl rfl (by decide +kernel) ⟨Nat.le_of_ble_eq_true rfl, Nat.le_of_ble_eq_true rfl⟩) (ct_preV hn hP hK hN (ci := 2) (k := (20 + ((3 : Fin 20)).val)) rfl (ra_lt (3 : Fin 20)) (cl_row (3 : Fin 20))) rfl rfl hl.1 rfl (lv_room (Nat.le_of_ble_eq_true rfl)) dX1_findCommon_5 ⟨Nat.zero_le _, Nat.zero_le _⟩) hS (fun H locs hP hS => ?_)
  refine lv_aload_n hx hb dX1_findCommon_8 rfl (lv_at hl 0 rfl) ?_
  refine va_get (ci := 1) (v := .ref (ra ad (4 : Fin 20))) (C := RX1) (T := TX1) (N := 11) hx hb hts (fun w h => BW_in (in_wsX10 w h)) hown hK hP 41 cc_ring rfl 4 (by decide) (hts (.fieldLink RX1 31 "NumberFieldFactors$Ring" "newer" "LNumberFieldFactors$Row;") (BW_in mw_54)) (fun _ h9 => h9) rfl dX1_findCommon_9 ?_
  refine lv_aload_n hx hb dX1_findCommon_12 rfl (lv_at hl 2 rfl) ?_
  obtain ⟨u3, g4, hf⟩ := Option.bind_eq_some_iff.mp hf
  try dsimp only at hf
  refine ct_call (va_runV (As := [.ref (ra ad p1)]) (rest := []) ⟨hx, hb, hml, hown, hts⟩ (C_X2_copy l D tys nw hn hnw hj htI htR (res := u3) g4) (cwV 1 hts (gu_V mw_86 mw_87 mw_88 mw_50 mw_81) rfl rfl rfl (by decide +kernel) ⟨Nat.le_of_ble_eq_true rfl, Nat.le_of_ble_eq_true rfl⟩) (ct_preV hn hP hK hN (ci := 2) (k := (20 + ((4 : Fin 20)).val)) rfl (ra_lt (4 : Fin 20)) (cl_row (4 : Fin 20))) rfl rfl hl.1 rfl (lv_room (Nat.le_of_ble_eq_true rfl)) dX1_findCommon_13 ⟨Nat.zero_le _, Nat.zero_le _⟩) hS (fun H locs hP hS => ?_)
  refine lv_aload_n hx hb dX1_findCommon_16 rfl (lv_at hl 0 rfl) ?_
  refine va_get (ci := 1) (v := .ref (ra ad (3 : Fin 20))) (C := RX1) (T := TX1) (N := 11) hx hb hts (fun w h => BW_in (in_wsX10 w h)) hown hK hP 41 cc_ring rfl 3 (by decide) (hts (.fieldLink RX1 28 "NumberFieldFactors$Ring" "older" "LNumberFieldFactors$Row;") (BW_in mw_53)) (fun _ h9 => h9) rfl dX1_findCommon_17 ?_
  refine lv_astore (lv' := [(4, .ref (ra ad (3 : Fin 20))), (0, .ref (ad 41)), (1, .ref (ra ad p0)), (2, .ref (ra ad p1)), (3, .ref (ra ad p2))]) hx hb dX1_findCommon_20 hl (by decide) rfl (fun ls hl => ?_)
  refine lv_aload_n hx hb dX1_findCommon_22 rfl (lv_at hl 1 rfl) ?_
  refine va_get (ci := 1) (v := .ref (ra ad (4 : Fin 20))) (C := RX1) (T := TX1) (N := 11) hx hb hts (fun w h => BW_in (in_wsX10 w h)) hown hK hP 41 cc_ring rfl 4 (by decide) (hts (.fieldLink RX1 31 "NumberFieldFactors$Ring" "newer" "LNumberFieldFactors$Row;") (BW_in mw_54)) (fun _ h9 => h9) rfl dX1_findCommon_23 ?_
  refine lv_astore (lv' := [(5, .ref (ra ad (4 : Fin 20))), (4, .ref (ra ad (3 : Fin 20))), (0, .ref (ad 41)), (1, .ref (ra ad p0)), (2, .ref (ra ad p1)), (3, .ref (ra ad p2))]) hx hb dX1_findCommon_26 hl (by decide) rfl (fun ls hl => ?_)
  refine lv_iconst (v := 0) hx hb dX1_findCommon_28 (by decide) ?_
  refine lv_istore (lv' := [(6, .int 0), (5, .ref (ra ad (4 : Fin 20))), (4, .ref (ra ad (3 : Fin 20))), (0, .ref (ad 41)), (1, .ref (ra ad p0)), (2, .ref (ra ad p1)), (3, .ref (ra ad p2))]) hx hb dX1_findCommon_29 hl (by decide) rfl (fun ls hl => ?_)
  refine L31 p0 p1 p2 _ (fun y13 y14 y15 M16 H locs ls hP hS hl hf => ?_) fu (3 : Fin 20) (4 : Fin 20) 0 u3 _ _ _ hP hS (lv_sub hl [3, 4, 5, 6, 2, 1, 0] rfl) hf
  try dsimp only at hf
  refine lv_aload_n hx hb dX1_findCommon_78 rfl (lv_at hl 0 rfl) ?_
  refine lv_aload hx hb dX1_findCommon_79 (lv_at hl 4 rfl) ?_
  obtain ⟨u17, g18, hf⟩ := Option.bind_eq_some_iff.mp hf
  try dsimp only at hf
  refine ct_call (va_runV (As := [.ref (ra ad y13)]) (rest := []) ⟨hx, hb, hml, hown, hts⟩ (C_X1_makeMonic l D tys nw hn hnw hj htI htR (res := u17) g18) (cwV 1 hts (gu_V mw_97 mw_98 mw_99 mw_100 mw_96) rfl rfl rfl (by decide +kernel) ⟨Nat.le_of_ble_eq_true rfl, Nat.le_of_ble_eq_true rfl⟩) (ct_preV hn hP hK hN (ci := 1) (k := 41) rfl (by decide) rfl) rfl rfl hl.1 rfl (lv_room (Nat.le_of_ble_eq_true rfl)) dX1_findCommon_81 ⟨Nat.zero_le _, Nat.zero_le _⟩) hS (fun H locs hP hS => ?_)
  refine lv_aload_n hx hb dX1_findCommon_84 rfl (lv_at hl 3 rfl) ?_
  refine lv_aload hx hb dX1_findCommon_85 (lv_at hl 4 rfl) ?_
  obtain ⟨u19, g20, hf⟩ := Option.bind_eq_some_iff.mp hf
  try dsimp only at hf
  refine ct_call (va_runV (As := [.ref (ra ad y13)]) (rest := []) ⟨hx, hb, hml, hown, hts⟩ (C_X2_copy l D tys nw hn hnw hj htI htR (res := u19) g20) (cwV 1 hts (gu_V mw_86 mw_87 mw_88 mw_50 mw_81) rfl rfl rfl (by decide +kernel) ⟨Nat.le_of_ble_eq_true rfl, Nat.le_of_ble_eq_true rfl⟩) (ct_preV hn hP hK hN (ci := 2) (k := (20 + (p2).val)) rfl (ra_lt p2) (cl_row p2)) rfl rfl hl.1 rfl (lv_room (Nat.le_of_ble_eq_true rfl)) dX1_findCommon_87 ⟨Nat.zero_le _, Nat.zero_le _⟩) hS (fun H locs hP hS => ?_)
  obtain rfl := Option.some.inj hf
  exact W.vret hx hb hr (fun t ht hW => ⟨rfl, by rw [ht]; exact hP, hS.F ht⟩) hS.2.2 dX1_findCommon_90
def f_X1_findSquares_l12 (k12 : Int32 → (Fin 20 → Nat → Int32) → Option ((Fin 20 → Nat → Int32))) (fu : Nat) (E : Nat → Int32) (x1 : Fin 20) (x2 : Fin 20) : Nat → Int32 → (Fin 20 → Nat → Int32) → Option ((Fin 20 → Nat → Int32))
  | 0, _, _ => none
  | n + 1, x3, M =>
    if x3 ≤ 0 then
      k12 x3 M
    else
      (f_X2_get M x1 x3).bind (fun u6 =>
      (f_X0_times E x3 u6).bind (fun u8 =>
      (f_X2_set M (5 : Fin 20) (x3 - 1) u8).bind (fun u10 =>
      f_X1_findSquares_l12 k12 fu E x1 x2 n (x3 + (-1)) u10)))
def f_X1_findSquares (fu : Nat) (M : Fin 20 → Nat → Int32) (E : Nat → Int32) (p0 : Fin 20) (p1 : Fin 20) : Option ((Fin 20 → Nat → Int32)) :=
  (f_X2_clear fu M (5 : Fin 20)).bind (fun u1 =>
  (f_X2_degree fu u1 p0).bind (fun u3 =>
  f_X1_findSquares_l12 (fun y12 M13 =>
    (f_X1_findCommon fu M13 E p0 (5 : Fin 20) p1).bind (fun u14 =>
    some u14)) fu E p0 p1 fu u3 u1))
set_option maxHeartbeats 4000000 in
set_option maxRecDepth 100000 in
theorem C_X1_findSquares (l : Launch) (D : va_G) (tys : List (ClassId × FieldType)) (nw : List Cond) (hn : nw.all nw_kind = true) (hnw : ∀ w ∈ nw0, w ∈ nw) {ad : Nat → Nat} (hj : ww_inj 46 ad) {cI : ClassId} {cR : ClassId} (htI : tys[0]? = some (cI, .int)) (htR : tys[1]? = some (cR, .object RX2)) {fu : Nat} {M : Fin 20 → Nat → Int32} {E : Nat → Int32} {P : Nat → Fin 20} {C : Nat → Int32} {N : Nat → Int32} {p0 : Fin 20} {p1 : Fin 20} {res : (Fin 20 → Nat → Int32)} (hf : f_X1_findSquares fu M E p0 p1 = some res) :
    Met l yX1_findSquares usX1_findSquares ({ frames := 4, cells := 0, slots := 0, locals := 111 }) (va_Pc [.ref (ad 41), .ref (ra ad p0), .ref (ra ad p1)] (ws_B D tys nw (ww 46 ad (cellC cI cR ad M E P C N)))) (ct_Q D (ww 46 ad (cellC cI cR ad res E P C N)) (ww_A 46 ad) (none)) 0 0 (ww_A 46 ad) := by
  refine Met.ofW (cc := cX1_findSquares) (maxL := 4) (ret := none) (by decide) rfl ?_
  intro p e s m args below meth c s₁ B hml hv
  obtain ⟨rfl, hP, hK, hN⟩ := hv
  have hx := B.exec
  have hb := B.bytes
  have hr := B.returns
  have hts := atoms_spec (ws := usX1_findSquares) B.pre
  have hown : s.vm.findClass RX1 = some m.cls := findClass_of_methodNamed B.named
  have hlocks := B.notSynchronized
  have hS : va_S (ww_A 46 ad) s.heap s.heap [] := va_S.rf
  have hl := lv_entry ([.ref (ad 41), .ref (ra ad p0), .ref (ra ad p1)]) (n := 4) (Nat.le_of_ble_eq_true rfl)
  rw [lg_entry_eq]
  generalize (lg_sl ([.ref (ad 41), .ref (ra ad p0), .ref (ra ad p1)]) ++ List.replicate (4 - (lg_sl ([.ref (ad 41), .ref (ra ad p0), .ref (ra ad p1)])).length) Slot.unset).toArray = ls at hl ⊢
  have hl : lv_has ls 4 [(0, .ref (ad 41)), (1, .ref (ra ad p0)), (2, .ref (ra ad p1))] := hl
  have L12 : ∀ (x1 : Fin 20) (x2 : Fin 20) (k12 : Int32 → (Fin 20 → Nat → Int32) → Option ((Fin 20 → Nat → Int32))), (∀ (x3 : Int32) (M : Fin 20 → Nat → Int32) (H : Heap) (locs : List Loc) (ls : Array Slot), va_P D vwCl (ww 46 ad (cellC cI cR ad M E P C N)) H → va_S (ww_A 46 ad) s.heap H locs → lv_has ls 4 [(0, .ref (ad 41)), (1, .ref (ra ad x1)), (2, .ref (ra ad x2)), (3, .int x3)] →  k12 x3 M = some res → W p l e (headSpec usX1_findSquares { frames := 4, cells := 0, slots := 0, locals := 111 }).room s m [.ref (ad 41), .ref (ra ad p0), .ref (ra ad p1)].toArray below meth c H locs 0 0 (MQ below (ct_Q D (ww 46 ad (cellC cI cR ad res E P C N)) (ww_A 46 ad) (none)) [.ref (ad 41), .ref (ra ad p0), .ref (ra ad p1)].toArray s 0 0 (ww_A 46 ad)) (F0 m 45 ls [])) → ∀ (n : Nat) (x3 : Int32) (M : Fin 20 → Nat → Int32) (H : Heap) (locs : List Loc) (ls : Array Slot), va_P D vwCl (ww 46 ad (cellC cI cR ad M E P C N)) H → va_S (ww_A 46 ad) s.heap H locs → lv_has ls 4 [(0, .ref (ad 41)), (1, .ref (ra ad x1)), (2, .ref (ra ad x2)), (3, .int x3)] →  f_X1_findSquares_l12 k12 fu E x1 x2 n x3 M = some res → W p l e (headSpec usX1_findSquares { frames := 4, cells := 0, slots := 0, locals := 111 }).room s m [.ref (ad 41), .ref (ra ad p0), .ref (ra ad p1)].toArray below meth c H locs 0 0 (MQ below (ct_Q D (ww 46 ad (cellC cI cR ad res E P C N)) (ww_A 46 ad) (none)) [.ref (ad 41), .ref (ra ad p0), .ref (ra ad p1)].toArray s 0 0 (ww_A 46 ad)) (F0 m 12 ls []) := by
    intro x1 x2 k12 hk_12 n
    induction n with
    | zero => intro x3 M H locs ls hP hS hl hf; rw [f_X1_findSquares_l12] at hf; cases hf
    | succ n ih =>
      intro x3 M H locs ls hP hS hl hf
      rw [f_X1_findSquares_l12] at hf
      refine lv_iload_n hx hb dX1_findSquares_12 rfl (lv_at hl 3 rfl) ?_
      refine lv_if_le (tgt := 45) hx hb dX1_findSquares_13 (by decide) (fun c5 => ?_) (fun c5 => ?_)
      · rw [if_pos c5] at hf
        exact hk_12 x3 M _ _ _ hP hS (lv_sub hl [0, 1, 2, 3] rfl) hf
      · rw [if_neg c5] at hf
        refine lv_aload_n hx hb dX1_findSquares_16 rfl (lv_at hl 0 rfl) ?_
        refine va_get (ci := 1) (v := .ref (ra ad (5 : Fin 20))) (C := RX1) (T := TX1) (N := 11) hx hb hts (fun w h => BW_in (in_wsX10 w h)) hown hK hP 41 cc_ring rfl 5 (by decide) (hts (.fieldLink RX1 34 "NumberFieldFactors$Ring" "derived" "LNumberFieldFactors$Row;") (BW_in mw_55)) (fun _ h9 => h9) rfl dX1_findSquares_17 ?_
        refine lv_iload_n hx hb dX1_findSquares_20 rfl (lv_at hl 3 rfl) ?_
        refine lv_iconst (v := 1) hx hb dX1_findSquares_21 (by decide) ?_
        refine lv_isub hx hb dX1_findSquares_22 ?_
        refine lv_aload_n hx hb dX1_findSquares_23 rfl (lv_at hl 0 rfl) ?_
        refine va_get (ci := 1) (v := .ref (ad 40)) (C := RX1) (T := TX1) (N := 11) hx hb hts (fun w h => BW_in (in_wsX10 w h)) hown hK hP 41 cc_ring rfl 0 (by decide) (hts (.fieldLink RX1 12 "NumberFieldFactors$Ring" "extension" "LNumberFieldFactors$Extension;") (BW_in mw_47)) (fun _ h9 => h9) rfl dX1_findSquares_24 ?_
        refine lv_iload_n hx hb dX1_findSquares_27 rfl (lv_at hl 3 rfl) ?_
        refine lv_aload_n hx hb dX1_findSquares_28 rfl (lv_at hl 1 rfl) ?_
        refine lv_iload_n hx hb dX1_findSquares_29 rfl (lv_at hl 3 rfl) ?_
        obtain ⟨u6, g7, hf⟩ := Option.bind_eq_some_iff.mp hf
        try dsimp only at hf
        refine ct_call (va_runV (As := [.int x3]) (rest := [.int x3, .ref (ad 40), .int (x3 - 1), .ref (ra ad (5 : Fin 20))]) ⟨hx, hb, hml, hown, hts⟩ (C_X2_get l D tys nw hn hnw hj htI htR (res := u6) g7) (cwV 1 hts (gu_V mw_71 mw_72 mw_73 mw_50 mw_65) rfl rfl rfl (by decide +kernel) ⟨Nat.le_of_ble_eq_true rfl, Nat.le_of_ble_eq_true rfl⟩) (ct_preV hn hP hK hN (ci := 2) (k := (20 + (x1).val)) rfl (ra_lt x1) (cl_row x1)) rfl rfl hl.1 rfl (lv_room (Nat.le_of_ble_eq_true rfl)) dX1_findSquares_30 ⟨Nat.zero_le _, Nat.zero_le _⟩) hS (fun H locs hP hS => ?_)
        obtain ⟨u8, g9, hf⟩ := Option.bind_eq_some_iff.mp hf
        try dsimp only at hf
        refine ct_call (va_runV (As := [.int x3, .int u6]) (rest := [.int (x3 - 1), .ref (ra ad (5 : Fin 20))]) ⟨hx, hb, hml, hown, hts⟩ (C_X0_times l D tys nw hn hnw hj htI htR (res := u8) g9) (cwV 2 hts (gu_V mw_70 mw_16 mw_17 mw_18 mw_13) rfl rfl rfl (by decide +kernel) ⟨Nat.le_of_ble_eq_true rfl, Nat.le_of_ble_eq_true rfl⟩) (ct_preV hn hP hK hN (ci := 0) (k := 40) rfl (by decide) rfl) rfl rfl hl.1 rfl (lv_room (Nat.le_of_ble_eq_true rfl)) dX1_findSquares_33 ⟨Nat.zero_le _, Nat.zero_le _⟩) hS (fun H locs hP hS => ?_)
        obtain ⟨u10, g11, hf⟩ := Option.bind_eq_some_iff.mp hf
        try dsimp only at hf
        refine ct_call (va_runV (As := [.int (x3 - 1), .int u8]) (rest := []) ⟨hx, hb, hml, hown, hts⟩ (C_X2_set l D tys nw hn hnw hj htI htR (res := u10) g11) (cwV 2 hts (gu_V mw_76 mw_77 mw_78 mw_50 mw_75) rfl rfl rfl (by decide +kernel) ⟨Nat.le_of_ble_eq_true rfl, Nat.le_of_ble_eq_true rfl⟩) (ct_preV hn hP hK hN (ci := 2) (k := (20 + ((5 : Fin 20)).val)) rfl (ra_lt (5 : Fin 20)) (cl_row (5 : Fin 20))) rfl rfl hl.1 rfl (lv_room (Nat.le_of_ble_eq_true rfl)) dX1_findSquares_36 ⟨Nat.zero_le _, Nat.zero_le _⟩) hS (fun H locs hP hS => ?_)
        refine lv_iinc (v := x3 + (-1)) (lv' := [(3, .int (x3 + (-1))), (0, .ref (ad 41)), (1, .ref (ra ad x1)), (2, .ref (ra ad x2))]) hx hb dX1_findSquares_39 hl (k := 3) rfl rfl (by decide) rfl (fun ls hl => ?_)
        refine lv_goto (tgt := 12) hx hb dX1_findSquares_42 (by decide) ?_
        exact ih (x3 + (-1)) u10 _ _ _ hP hS (lv_sub hl [1, 2, 3, 0] rfl) hf
  unfold f_X1_findSquares at hf
  refine lv_aload_n hx hb dX1_findSquares_0 rfl (lv_at hl 0 rfl) ?_
  refine va_get (ci := 1) (v := .ref (ra ad (5 : Fin 20))) (C := RX1) (T := TX1) (N := 11) hx hb hts (fun w h => BW_in (in_wsX10 w h)) hown hK hP 41 cc_ring rfl 5 (by decide) (hts (.fieldLink RX1 34 "NumberFieldFactors$Ring" "derived" "LNumberFieldFactors$Row;") (BW_in mw_55)) (fun _ h9 => h9) rfl dX1_findSquares_1 ?_
  obtain ⟨u1, g2, hf⟩ := Option.bind_eq_some_iff.mp hf
  try dsimp only at hf
  refine ct_call (va_runV (As := []) (rest := []) ⟨hx, hb, hml, hown, hts⟩ (C_X2_clear l D tys nw hn hnw hj htI htR (res := u1) g2) (cwV 0 hts (gu_V mw_83 mw_84 mw_85 mw_50 mw_80) rfl rfl rfl (by decide +kernel) ⟨Nat.le_of_ble_eq_true rfl, Nat.le_of_ble_eq_true rfl⟩) (ct_preV hn hP hK hN (ci := 2) (k := (20 + ((5 : Fin 20)).val)) rfl (ra_lt (5 : Fin 20)) (cl_row (5 : Fin 20))) rfl rfl hl.1 rfl (lv_room (Nat.le_of_ble_eq_true rfl)) dX1_findSquares_4 ⟨Nat.zero_le _, Nat.zero_le _⟩) hS (fun H locs hP hS => ?_)
  refine lv_aload_n hx hb dX1_findSquares_7 rfl (lv_at hl 1 rfl) ?_
  obtain ⟨u3, g4, hf⟩ := Option.bind_eq_some_iff.mp hf
  try dsimp only at hf
  refine ct_call (va_runV (As := []) (rest := []) ⟨hx, hb, hml, hown, hts⟩ (C_X2_degree l D tys nw hn hnw hj htI htR (res := u3) g4) (cwV 0 hts (gu_V mw_67 mw_68 mw_69 mw_50 mw_64) rfl rfl rfl (by decide +kernel) ⟨Nat.le_of_ble_eq_true rfl, Nat.le_of_ble_eq_true rfl⟩) (ct_preV hn hP hK hN (ci := 2) (k := (20 + (p0).val)) rfl (ra_lt p0) (cl_row p0)) rfl rfl hl.1 rfl (lv_room (Nat.le_of_ble_eq_true rfl)) dX1_findSquares_8 ⟨Nat.zero_le _, Nat.zero_le _⟩) hS (fun H locs hP hS => ?_)
  refine lv_istore_n (lv' := [(3, .int u3), (0, .ref (ad 41)), (1, .ref (ra ad p0)), (2, .ref (ra ad p1))]) hx hb dX1_findSquares_11 rfl hl (by decide) rfl (fun ls hl => ?_)
  refine L12 p0 p1 _ (fun y12 M13 H locs ls hP hS hl hf => ?_) fu u3 u1 _ _ _ hP hS (lv_sub hl [1, 2, 3, 0] rfl) hf
  try dsimp only at hf
  refine lv_aload_n hx hb dX1_findSquares_45 rfl (lv_at hl 0 rfl) ?_
  refine lv_aload_n hx hb dX1_findSquares_46 rfl (lv_at hl 1 rfl) ?_
  refine lv_aload_n hx hb dX1_findSquares_47 rfl (lv_at hl 0 rfl) ?_
  refine va_get (ci := 1) (v := .ref (ra ad (5 : Fin 20))) (C := RX1) (T := TX1) (N := 11) hx hb hts (fun w h => BW_in (in_wsX10 w h)) hown hK hP 41 cc_ring rfl 5 (by decide) (hts (.fieldLink RX1 34 "NumberFieldFactors$Ring" "derived" "LNumberFieldFactors$Row;") (BW_in mw_55)) (fun _ h9 => h9) rfl dX1_findSquares_48 ?_
  refine lv_aload_n hx hb dX1_findSquares_51 rfl (lv_at hl 2 rfl) ?_
  obtain ⟨u14, g15, hf⟩ := Option.bind_eq_some_iff.mp hf
  try dsimp only at hf
  refine ct_call (va_runV (As := [.ref (ra ad p0), .ref (ra ad (5 : Fin 20)), .ref (ra ad p1)]) (rest := []) ⟨hx, hb, hml, hown, hts⟩ (C_X1_findCommon l D tys nw hn hnw hj htI htR (res := u14) g15) (cwV 3 hts (gu_V mw_105 mw_106 mw_107 mw_100 mw_104) rfl rfl rfl (by decide +kernel) ⟨Nat.le_of_ble_eq_true rfl, Nat.le_of_ble_eq_true rfl⟩) (ct_preV hn hP hK hN (ci := 1) (k := 41) rfl (by decide) rfl) rfl rfl hl.1 rfl (lv_room (Nat.le_of_ble_eq_true rfl)) dX1_findSquares_52 ⟨Nat.zero_le _, Nat.zero_le _⟩) hS (fun H locs hP hS => ?_)
  obtain rfl := Option.some.inj hf
  exact W.vret hx hb hr (fun t ht hW => ⟨rfl, by rw [ht]; exact hP, hS.F ht⟩) hS.2.2 dX1_findSquares_55
def f_X1_raiseLinear_l9 (k9 : Int32 → (Fin 20 → Nat → Int32) → Option ((Fin 20 → Nat → Int32))) (fu : Nat) (E : Nat → Int32) (x1 : Int32) (x2 : Int64) (x4 : Fin 20) (x5 : Fin 20) : Nat → Int32 → (Fin 20 → Nat → Int32) → Option ((Fin 20 → Nat → Int32))
  | 0, _, _ => none
  | n + 1, x6, M =>
    if x6 < 0 then
      k9 x6 M
    else
      ((
        if (lg_cmp (x2 >>> (x6.toInt64 &&& 63)) 0) = 0 then
          some M
        else
          (f_X1_multiply fu M E x5 x5).bind (fun u6 =>
          ((
            if (lg_cmp ((x2 >>> (x6.toInt64 &&& 63)) &&& 1) 1) = 0 then
              (f_X1_multiplyLinear fu u6 E x5 x1).bind (fun u10 =>
              some u10)
            else
              some u6 : Option ((Fin 20 → Nat → Int32)))).bind (fun w8 =>
          (f_X1_divide fu w8 E x5 x4).bind (fun u12 =>
          some u12))) : Option ((Fin 20 → Nat → Int32)))).bind (fun w4 =>
      f_X1_raiseLinear_l9 k9 fu E x1 x2 x4 x5 n (x6 + (-1)) w4)
def f_X1_raiseLinear (fu : Nat) (M : Fin 20 → Nat → Int32) (E : Nat → Int32) (p0 : Int32) (p1 : Int64) (p2 : Fin 20) (p3 : Fin 20) : Option ((Fin 20 → Nat → Int32)) :=
  (f_X2_becomeOne fu M p3).bind (fun u1 =>
  f_X1_raiseLinear_l9 (fun y14 M15 =>
    some M15) fu E p0 p1 p2 p3 fu 40 u1)
set_option maxHeartbeats 4000000 in
set_option maxRecDepth 100000 in
theorem C_X1_raiseLinear (l : Launch) (D : va_G) (tys : List (ClassId × FieldType)) (nw : List Cond) (hn : nw.all nw_kind = true) (hnw : ∀ w ∈ nw0, w ∈ nw) {ad : Nat → Nat} (hj : ww_inj 46 ad) {cI : ClassId} {cR : ClassId} (htI : tys[0]? = some (cI, .int)) (htR : tys[1]? = some (cR, .object RX2)) {fu : Nat} {M : Fin 20 → Nat → Int32} {E : Nat → Int32} {P : Nat → Fin 20} {C : Nat → Int32} {N : Nat → Int32} {p0 : Int32} {p1 : Int64} {p2 : Fin 20} {p3 : Fin 20} {res : (Fin 20 → Nat → Int32)} (hf : f_X1_raiseLinear fu M E p0 p1 p2 p3 = some res) :
    Met l yX1_raiseLinear usX1_raiseLinear ({ frames := 3, cells := 0, slots := 0, locals := 70 }) (va_Pc [.ref (ad 41), .int p0, .long p1, .ref (ra ad p2), .ref (ra ad p3)] (ws_B D tys nw (ww 46 ad (cellC cI cR ad M E P C N)))) (ct_Q D (ww 46 ad (cellC cI cR ad res E P C N)) (ww_A 46 ad) (none)) 0 0 (ww_A 46 ad) := by
  refine Met.ofW (cc := cX1_raiseLinear) (maxL := 7) (ret := none) (by decide) rfl ?_
  intro p e s m args below meth c s₁ B hml hv
  obtain ⟨rfl, hP, hK, hN⟩ := hv
  have hx := B.exec
  have hb := B.bytes
  have hr := B.returns
  have hts := atoms_spec (ws := usX1_raiseLinear) B.pre
  have hown : s.vm.findClass RX1 = some m.cls := findClass_of_methodNamed B.named
  have hlocks := B.notSynchronized
  have hS : va_S (ww_A 46 ad) s.heap s.heap [] := va_S.rf
  have hl := lv_entry ([.ref (ad 41), .int p0, .long p1, .ref (ra ad p2), .ref (ra ad p3)]) (n := 7) (Nat.le_of_ble_eq_true rfl)
  rw [lg_entry_eq]
  generalize (lg_sl ([.ref (ad 41), .int p0, .long p1, .ref (ra ad p2), .ref (ra ad p3)]) ++ List.replicate (7 - (lg_sl ([.ref (ad 41), .int p0, .long p1, .ref (ra ad p2), .ref (ra ad p3)])).length) Slot.unset).toArray = ls at hl ⊢
  have hl : lv_has ls 7 [(0, .ref (ad 41)), (1, .int p0), (2, .long p1), (4, .ref (ra ad p2)), (5, .ref (ra ad p3))] := hl
  have L9 : ∀ (x1 : Int32) (x2 : Int64) (x4 : Fin 20) (x5 : Fin 20) (k9 : Int32 → (Fin 20 → Nat → Int32) → Option ((Fin 20 → Nat → Int32))), (∀ (x6 : Int32) (M : Fin 20 → Nat → Int32) (H : Heap) (locs : List Loc) (ls : Array Slot), va_P D vwCl (ww 46 ad (cellC cI cR ad M E P C N)) H → va_S (ww_A 46 ad) s.heap H locs → lv_has ls 7 [(0, .ref (ad 41)), (1, .int x1), (2, .long x2), (4, .ref (ra ad x4)), (5, .ref (ra ad x5)), (6, .int x6)] →  k9 x6 M = some res → W p l e (headSpec usX1_raiseLinear { frames := 3, cells := 0, slots := 0, locals := 70 }).room s m [.ref (ad 41), .int p0, .long p1, .ref (ra ad p2), .ref (ra ad p3)].toArray below meth c H locs 0 0 (MQ below (ct_Q D (ww 46 ad (cellC cI cR ad res E P C N)) (ww_A 46 ad) (none)) [.ref (ad 41), .int p0, .long p1, .ref (ra ad p2), .ref (ra ad p3)].toArray s 0 0 (ww_A 46 ad)) (F0 m 66 ls [])) → ∀ (n : Nat) (x6 : Int32) (M : Fin 20 → Nat → Int32) (H : Heap) (locs : List Loc) (ls : Array Slot), va_P D vwCl (ww 46 ad (cellC cI cR ad M E P C N)) H → va_S (ww_A 46 ad) s.heap H locs → lv_has ls 7 [(0, .ref (ad 41)), (1, .int x1), (2, .long x2), (4, .ref (ra ad x4)), (5, .ref (ra ad x5)), (6, .int x6)] →  f_X1_raiseLinear_l9 k9 fu E x1 x2 x4 x5 n x6 M = some res → W p l e (headSpec usX1_raiseLinear { frames := 3, cells := 0, slots := 0, locals := 70 }).room s m [.ref (ad 41), .int p0, .long p1, .ref (ra ad p2), .ref (ra ad p3)].toArray below meth c H locs 0 0 (MQ below (ct_Q D (ww 46 ad (cellC cI cR ad res E P C N)) (ww_A 46 ad) (none)) [.ref (ad 41), .int p0, .long p1, .ref (ra ad p2), .ref (ra ad p3)].toArray s 0 0 (ww_A 46 ad)) (F0 m 9 ls []) := by
    intro x1 x2 x4 x5 k9 hk_9 n
    induction n with
    | zero => intro x6 M H locs ls hP hS hl hf; rw [f_X1_raiseLinear_l9] at hf; cases hf
    | succ n ih =>
      intro x6 M H locs ls hP hS hl hf
      rw [f_X1_raiseLinear_l9] at hf
      refine lv_iload hx hb dX1_raiseLinear_9 (lv_at hl 5 rfl) ?_
      refine lv_if_lt (tgt := 66) hx hb dX1_raiseLinear_11 (by decide) (fun c3 => ?_) (fun c3 => ?_)
      · rw [if_pos c3] at hf
        exact hk_9 x6 M _ _ _ hP hS (lv_sub hl [0, 1, 2, 3, 4, 5] rfl) hf
      · rw [if_neg c3] at hf
        refine lv_lload_n hx hb dX1_raiseLinear_14 rfl (lv_at hl 2 rfl) ?_
        refine lv_iload hx hb dX1_raiseLinear_15 (lv_at hl 5 rfl) ?_
        refine lv_lshr hx hb dX1_raiseLinear_17 rfl ?_
        refine lv_lconst (v := 0) hx hb dX1_raiseLinear_18 (by decide) ?_
        refine W.lcmp hx hb dX1_raiseLinear_19 ?_
        obtain ⟨w4, gw4, hf⟩ := Option.bind_eq_some_iff.mp hf
        try dsimp only at hf
        have hJ60_w4 : ∀ (H : Heap) (locs : List Loc) (ls : Array Slot), va_P D vwCl (ww 46 ad (cellC cI cR ad w4 E P C N)) H → va_S (ww_A 46 ad) s.heap H locs → lv_has ls 7 [(0, .ref (ad 41)), (1, .int x1), (2, .long x2), (4, .ref (ra ad x4)), (5, .ref (ra ad x5)), (6, .int x6)] → W p l e (headSpec usX1_raiseLinear { frames := 3, cells := 0, slots := 0, locals := 70 }).room s m [.ref (ad 41), .int p0, .long p1, .ref (ra ad p2), .ref (ra ad p3)].toArray below meth c H locs 0 0 (MQ below (ct_Q D (ww 46 ad (cellC cI cR ad res E P C N)) (ww_A 46 ad) (none)) [.ref (ad 41), .int p0, .long p1, .ref (ra ad p2), .ref (ra ad p3)].toArray s 0 0 (ww_A 46 ad)) (F0 m 60 ls []) := by
          intro H locs ls hP hS hl
          refine lv_iinc (v := x6 + (-1)) (lv' := [(6, .int (x6 + (-1))), (0, .ref (ad 41)), (1, .int x1), (2, .long x2), (4, .ref (ra ad x4)), (5, .ref (ra ad x5))]) hx hb dX1_raiseLinear_60 hl (k := 5) rfl rfl (by decide) rfl (fun ls hl => ?_)
          refine lv_goto (tgt := 9) hx hb dX1_raiseLinear_63 (by decide) ?_
          exact ih (x6 + (-1)) w4 _ _ _ hP hS (lv_sub hl [1, 2, 3, 4, 5, 0] rfl) hf
        refine lv_if_ne (tgt := 26) hx hb dX1_raiseLinear_20 (by decide) (fun c5 => ?_) (fun c5 => ?_)
        · rw [if_neg c5] at gw4
          refine lv_aload_n hx hb dX1_raiseLinear_26 rfl (lv_at hl 0 rfl) ?_
          refine lv_aload hx hb dX1_raiseLinear_27 (lv_at hl 4 rfl) ?_
          refine lv_aload hx hb dX1_raiseLinear_29 (lv_at hl 4 rfl) ?_
          obtain ⟨u6, g7, gw4⟩ := Option.bind_eq_some_iff.mp gw4
          try dsimp only at gw4
          refine ct_call (va_runV (As := [.ref (ra ad x5), .ref (ra ad x5)]) (rest := []) ⟨hx, hb, hml, hown, hts⟩ (C_X1_multiply l D tys nw hn hnw hj htI htR (res := u6) g7) (cwV 2 hts (gu_V mw_115 mw_116 mw_117 mw_100 mw_89) rfl rfl rfl (by decide +kernel) ⟨Nat.le_of_ble_eq_true rfl, Nat.le_of_ble_eq_true rfl⟩) (ct_preV hn hP hK hN (ci := 1) (k := 41) rfl (by decide) rfl) rfl rfl hl.1 rfl (lv_room (Nat.le_of_ble_eq_true rfl)) dX1_raiseLinear_31 ⟨Nat.zero_le _, Nat.zero_le _⟩) hS (fun H locs hP hS => ?_)
          refine lv_lload_n hx hb dX1_raiseLinear_34 rfl (lv_at hl 2 rfl) ?_
          refine lv_iload hx hb dX1_raiseLinear_35 (lv_at hl 5 rfl) ?_
          refine lv_lshr hx hb dX1_raiseLinear_37 rfl ?_
          refine lv_lconst (v := 1) hx hb dX1_raiseLinear_38 (by decide) ?_
          refine lv_land hx hb dX1_raiseLinear_39 ?_
          refine lv_lconst (v := 1) hx hb dX1_raiseLinear_40 (by decide) ?_
          refine W.lcmp hx hb dX1_raiseLinear_41 ?_
          obtain ⟨w8, gw8, gw4⟩ := Option.bind_eq_some_iff.mp gw4
          try dsimp only at gw4
          have hJ52_w8 : ∀ (H : Heap) (locs : List Loc) (ls : Array Slot), va_P D vwCl (ww 46 ad (cellC cI cR ad w8 E P C N)) H → va_S (ww_A 46 ad) s.heap H locs → lv_has ls 7 [(0, .ref (ad 41)), (1, .int x1), (2, .long x2), (4, .ref (ra ad x4)), (5, .ref (ra ad x5)), (6, .int x6)] → W p l e (headSpec usX1_raiseLinear { frames := 3, cells := 0, slots := 0, locals := 70 }).room s m [.ref (ad 41), .int p0, .long p1, .ref (ra ad p2), .ref (ra ad p3)].toArray below meth c H locs 0 0 (MQ below (ct_Q D (ww 46 ad (cellC cI cR ad res E P C N)) (ww_A 46 ad) (none)) [.ref (ad 41), .int p0, .long p1, .ref (ra ad p2), .ref (ra ad p3)].toArray s 0 0 (ww_A 46 ad)) (F0 m 52 ls []) := by
            intro H locs ls hP hS hl
            refine lv_aload_n hx hb dX1_raiseLinear_52 rfl (lv_at hl 0 rfl) ?_
            refine lv_aload hx hb dX1_raiseLinear_53 (lv_at hl 4 rfl) ?_
            refine lv_aload hx hb dX1_raiseLinear_55 (lv_at hl 3 rfl) ?_
            obtain ⟨u12, g13, gw4⟩ := Option.bind_eq_some_iff.mp gw4
            try dsimp only at gw4
            refine ct_call (va_runV (As := [.ref (ra ad x5), .ref (ra ad x4)]) (rest := []) ⟨hx, hb, hml, hown, hts⟩ (C_X1_divide l D tys nw hn hnw hj htI htR (res := u12) g13) (cwV 2 hts (gu_V mw_101 mw_102 mw_103 mw_100 mw_94) rfl rfl rfl (by decide +kernel) ⟨Nat.le_of_ble_eq_true rfl, Nat.le_of_ble_eq_true rfl⟩) (ct_preV hn hP hK hN (ci := 1) (k := 41) rfl (by decide) rfl) rfl rfl hl.1 rfl (lv_room (Nat.le_of_ble_eq_true rfl)) dX1_raiseLinear_57 ⟨Nat.zero_le _, Nat.zero_le _⟩) hS (fun H locs hP hS => ?_)
            obtain rfl := Option.some.inj gw4
            exact hJ60_w4 _ _ _ hP hS (lv_sub hl [0, 1, 2, 3, 4, 5] rfl)
          refine lv_if_ne (tgt := 52) hx hb dX1_raiseLinear_42 (by decide) (fun c9 => ?_) (fun c9 => ?_)
          · rw [if_neg c9] at gw8
            obtain rfl := Option.some.inj gw8
            exact hJ52_w8 _ _ _ hP hS (lv_sub hl [0, 1, 2, 3, 4, 5] rfl)
          · rw [if_pos c9] at gw8
            refine lv_aload_n hx hb dX1_raiseLinear_45 rfl (lv_at hl 0 rfl) ?_
            refine lv_aload hx hb dX1_raiseLinear_46 (lv_at hl 4 rfl) ?_
            refine lv_iload_n hx hb dX1_raiseLinear_48 rfl (lv_at hl 1 rfl) ?_
            obtain ⟨u10, g11, gw8⟩ := Option.bind_eq_some_iff.mp gw8
            try dsimp only at gw8
            refine ct_call (va_runV (As := [.ref (ra ad x5), .int x1]) (rest := []) ⟨hx, hb, hml, hown, hts⟩ (C_X1_multiplyLinear l D tys nw hn hnw hj htI htR (res := u10) g11) (cwV 2 hts (gu_V mw_118 mw_119 mw_120 mw_100 mw_90) rfl rfl rfl (by decide +kernel) ⟨Nat.le_of_ble_eq_true rfl, Nat.le_of_ble_eq_true rfl⟩) (ct_preV hn hP hK hN (ci := 1) (k := 41) rfl (by decide) rfl) rfl rfl hl.1 rfl (lv_room (Nat.le_of_ble_eq_true rfl)) dX1_raiseLinear_49 ⟨Nat.zero_le _, Nat.zero_le _⟩) hS (fun H locs hP hS => ?_)
            obtain rfl := Option.some.inj gw8
            exact hJ52_w8 _ _ _ hP hS (lv_sub hl [0, 1, 2, 3, 4, 5] rfl)
        · rw [if_pos c5] at gw4
          refine lv_goto (tgt := 60) hx hb dX1_raiseLinear_23 (by decide) ?_
          obtain rfl := Option.some.inj gw4
          exact hJ60_w4 _ _ _ hP hS (lv_sub hl [0, 1, 2, 3, 4, 5] rfl)
  unfold f_X1_raiseLinear at hf
  refine lv_aload hx hb dX1_raiseLinear_0 (lv_at hl 4 rfl) ?_
  obtain ⟨u1, g2, hf⟩ := Option.bind_eq_some_iff.mp hf
  try dsimp only at hf
  refine ct_call (va_runV (As := []) (rest := []) ⟨hx, hb, hml, hown, hts⟩ (C_X2_becomeOne l D tys nw hn hnw hj htI htR (res := u1) g2) (cwV 0 hts (gu_V mw_112 mw_113 mw_114 mw_50 mw_109) rfl rfl rfl (by decide +kernel) ⟨Nat.le_of_ble_eq_true rfl, Nat.le_of_ble_eq_true rfl⟩) (ct_preV hn hP hK hN (ci := 2) (k := (20 + (p3).val)) rfl (ra_lt p3) (cl_row p3)) rfl rfl hl.1 rfl (lv_room (Nat.le_of_ble_eq_true rfl)) dX1_raiseLinear_2 ⟨Nat.zero_le _, Nat.zero_le _⟩) hS (fun H locs hP hS => ?_)
  refine lv_bipush (v := 40) hx hb dX1_raiseLinear_5 (by decide) ?_
  refine lv_istore (lv' := [(6, .int 40), (0, .ref (ad 41)), (1, .int p0), (2, .long p1), (4, .ref (ra ad p2)), (5, .ref (ra ad p3))]) hx hb dX1_raiseLinear_7 hl (by decide) rfl (fun ls hl => ?_)
  refine L9 p0 p1 p2 p3 _ (fun y14 M15 H locs ls hP hS hl hf => ?_) fu 40 u1 _ _ _ hP hS (lv_sub hl [1, 2, 3, 4, 5, 0] rfl) hf
  try dsimp only at hf
  obtain rfl := Option.some.inj hf
  exact W.vret hx hb hr (fun t ht hW => ⟨rfl, by rw [ht]; exact hP, hS.F ht⟩) hS.2.2 dX1_raiseLinear_66
def f_X1_normOf_l37 (k37 : Int32 → (Fin 20 → Nat → Int32) → Option (Fin 20 × (Fin 20 → Nat → Int32))) (fu : Nat) (E : Nat → Int32) (x1 : Fin 20) (x2 : Int32) (x3 : Int32) : Nat → Int32 → (Fin 20 → Nat → Int32) → Option (Fin 20 × (Fin 20 → Nat → Int32))
  | 0, _, _ => none
  | n + 1, x4, M =>
    if x2 < x4 then
      k37 x4 M
    else
      (f_X2_get M (6 : Fin 20) x4).bind (fun u9 =>
      (f_X0_mate E u9).bind (fun u11 =>
      (f_X2_set M (6 : Fin 20) x4 u11).bind (fun u13 =>
      f_X1_normOf_l37 k37 fu E x1 x2 x3 n (x4 + 1) u13)))
def f_X1_normOf_l23 (k23 : Int32 → (Fin 20 → Nat → Int32) → Option (Fin 20 × (Fin 20 → Nat → Int32))) (fu : Nat) (E : Nat → Int32) (x1 : Fin 20) (x2 : Int32) : Nat → Int32 → (Fin 20 → Nat → Int32) → Option (Fin 20 × (Fin 20 → Nat → Int32))
  | 0, _, _ => none
  | n + 1, x3, M =>
    if (E 0) ≤ x3 then
      k23 x3 M
    else
      f_X1_normOf_l37 (fun y15 M16 =>
        (f_X1_multiply fu M16 E (7 : Fin 20) (6 : Fin 20)).bind (fun u17 =>
        f_X1_normOf_l23 k23 fu E x1 x2 n (x3 + 1) u17)) fu E x1 x2 x3 fu 0 M
def f_X1_normOf (fu : Nat) (M : Fin 20 → Nat → Int32) (E : Nat → Int32) (p0 : Fin 20) : Option (Fin 20 × (Fin 20 → Nat → Int32)) :=
  (f_X2_copy fu M (7 : Fin 20) p0).bind (fun u1 =>
  (f_X2_copy fu u1 (6 : Fin 20) p0).bind (fun u3 =>
  (f_X2_degree fu u3 p0).bind (fun u5 =>
  f_X1_normOf_l23 (fun y19 M20 =>
    some ((7 : Fin 20), M20)) fu E p0 u5 fu 1 u3)))
set_option maxHeartbeats 4000000 in
set_option maxRecDepth 100000 in
theorem C_X1_normOf (l : Launch) (D : va_G) (tys : List (ClassId × FieldType)) (nw : List Cond) (hn : nw.all nw_kind = true) (hnw : ∀ w ∈ nw0, w ∈ nw) {ad : Nat → Nat} (hj : ww_inj 46 ad) {cI : ClassId} {cR : ClassId} (htI : tys[0]? = some (cI, .int)) (htR : tys[1]? = some (cR, .object RX2)) {fu : Nat} {M : Fin 20 → Nat → Int32} {E : Nat → Int32} {P : Nat → Fin 20} {C : Nat → Int32} {N : Nat → Int32} {p0 : Fin 20} {res : Fin 20 × (Fin 20 → Nat → Int32)} (hf : f_X1_normOf fu M E p0 = some res) :
    Met l yX1_normOf usX1_normOf ({ frames := 3, cells := 0, slots := 0, locals := 70 }) (va_Pc [.ref (ad 41), .ref (ra ad p0)] (ws_B D tys nw (ww 46 ad (cellC cI cR ad M E P C N)))) (ct_Q D (ww 46 ad (cellC cI cR ad res.2 E P C N)) (ww_A 46 ad) (some (.ref (ra ad res.1)))) 0 0 (ww_A 46 ad) := by
  refine Met.ofW (cc := cX1_normOf) (maxL := 5) (ret := (some (.object "NumberFieldFactors$Row"))) (by decide) rfl ?_
  intro p e s m args below meth c s₁ B hml hv
  obtain ⟨rfl, hP, hK, hN⟩ := hv
  have hx := B.exec
  have hb := B.bytes
  have hr := B.returns
  have hts := atoms_spec (ws := usX1_normOf) B.pre
  have hown : s.vm.findClass RX1 = some m.cls := findClass_of_methodNamed B.named
  have hlocks := B.notSynchronized
  have hS : va_S (ww_A 46 ad) s.heap s.heap [] := va_S.rf
  have hl := lv_entry ([.ref (ad 41), .ref (ra ad p0)]) (n := 5) (Nat.le_of_ble_eq_true rfl)
  rw [lg_entry_eq]
  generalize (lg_sl ([.ref (ad 41), .ref (ra ad p0)]) ++ List.replicate (5 - (lg_sl ([.ref (ad 41), .ref (ra ad p0)])).length) Slot.unset).toArray = ls at hl ⊢
  have hl : lv_has ls 5 [(0, .ref (ad 41)), (1, .ref (ra ad p0))] := hl
  have L37 : ∀ (x1 : Fin 20) (x2 : Int32) (x3 : Int32) (k37 : Int32 → (Fin 20 → Nat → Int32) → Option (Fin 20 × (Fin 20 → Nat → Int32))), (∀ (x4 : Int32) (M : Fin 20 → Nat → Int32) (H : Heap) (locs : List Loc) (ls : Array Slot), va_P D vwCl (ww 46 ad (cellC cI cR ad M E P C N)) H → va_S (ww_A 46 ad) s.heap H locs → lv_has ls 5 [(0, .ref (ad 41)), (1, .ref (ra ad x1)), (2, .int x2), (3, .int x3), (4, .int x4)] →  k37 x4 M = some res → W p l e (headSpec usX1_normOf { frames := 3, cells := 0, slots := 0, locals := 70 }).room s m [.ref (ad 41), .ref (ra ad p0)].toArray below meth c H locs 0 0 (MQ below (ct_Q D (ww 46 ad (cellC cI cR ad res.2 E P C N)) (ww_A 46 ad) (some (.ref (ra ad res.1)))) [.ref (ad 41), .ref (ra ad p0)].toArray s 0 0 (ww_A 46 ad)) (F0 m 74 ls [])) → ∀ (n : Nat) (x4 : Int32) (M : Fin 20 → Nat → Int32) (H : Heap) (locs : List Loc) (ls : Array Slot), va_P D vwCl (ww 46 ad (cellC cI cR ad M E P C N)) H → va_S (ww_A 46 ad) s.heap H locs → lv_has ls 5 [(0, .ref (ad 41)), (1, .ref (ra ad x1)), (2, .int x2), (3, .int x3), (4, .int x4)] →  f_X1_normOf_l37 k37 fu E x1 x2 x3 n x4 M = some res → W p l e (headSpec usX1_normOf { frames := 3, cells := 0, slots := 0, locals := 70 }).room s m [.ref (ad 41), .ref (ra ad p0)].toArray below meth c H locs 0 0 (MQ below (ct_Q D (ww 46 ad (cellC cI cR ad res.2 E P C N)) (ww_A 46 ad) (some (.ref (ra ad res.1)))) [.ref (ad 41), .ref (ra ad p0)].toArray s 0 0 (ww_A 46 ad)) (F0 m 37 ls []) := by
    intro x1 x2 x3 k37 hk_37 n
    induction n with
    | zero => intro x4 M H locs ls hP hS hl hf; rw [f_X1_normOf_l37] at hf; cases hf
    | succ n ih =>
      intro x4 M H locs ls hP hS hl hf
      rw [f_X1_normOf_l37] at hf
      refine lv_iload hx hb dX1_normOf_37 (lv_at hl 4 rfl) ?_
      refine lv_iload_n hx hb dX1_normOf_39 rfl (lv_at hl 2 rfl) ?_
      refine lv_icmp_gt (tgt := 74) hx hb dX1_normOf_40 (by decide) (fun c8 => ?_) (fun c8 => ?_)
      · rw [if_pos c8] at hf
        exact hk_37 x4 M _ _ _ hP hS (lv_sub hl [0, 1, 2, 3, 4] rfl) hf
      · rw [if_neg c8] at hf
        refine lv_aload_n hx hb dX1_normOf_43 rfl (lv_at hl 0 rfl) ?_
        refine va_get (ci := 1) (v := .ref (ra ad (6 : Fin 20))) (C := RX1) (T := TX1) (N := 11) hx hb hts (fun w h => BW_in (in_wsX10 w h)) hown hK hP 41 cc_ring rfl 6 (by decide) (hts (.fieldLink RX1 37 "NumberFieldFactors$Ring" "mates" "LNumberFieldFactors$Row;") (BW_in mw_56)) (fun _ h9 => h9) rfl dX1_normOf_44 ?_
        refine lv_iload hx hb dX1_normOf_47 (lv_at hl 4 rfl) ?_
        refine lv_aload_n hx hb dX1_normOf_49 rfl (lv_at hl 0 rfl) ?_
        refine va_get (ci := 1) (v := .ref (ad 40)) (C := RX1) (T := TX1) (N := 11) hx hb hts (fun w h => BW_in (in_wsX10 w h)) hown hK hP 41 cc_ring rfl 0 (by decide) (hts (.fieldLink RX1 12 "NumberFieldFactors$Ring" "extension" "LNumberFieldFactors$Extension;") (BW_in mw_47)) (fun _ h9 => h9) rfl dX1_normOf_50 ?_
        refine lv_aload_n hx hb dX1_normOf_53 rfl (lv_at hl 0 rfl) ?_
        refine va_get (ci := 1) (v := .ref (ra ad (6 : Fin 20))) (C := RX1) (T := TX1) (N := 11) hx hb hts (fun w h => BW_in (in_wsX10 w h)) hown hK hP 41 cc_ring rfl 6 (by decide) (hts (.fieldLink RX1 37 "NumberFieldFactors$Ring" "mates" "LNumberFieldFactors$Row;") (BW_in mw_56)) (fun _ h9 => h9) rfl dX1_normOf_54 ?_
        refine lv_iload hx hb dX1_normOf_57 (lv_at hl 4 rfl) ?_
        obtain ⟨u9, g10, hf⟩ := Option.bind_eq_some_iff.mp hf
        try dsimp only at hf
        refine ct_call (va_runV (As := [.int x4]) (rest := [.ref (ad 40), .int x4, .ref (ra ad (6 : Fin 20))]) ⟨hx, hb, hml, hown, hts⟩ (C_X2_get l D tys nw hn hnw hj htI htR (res := u9) g10) (cwV 1 hts (gu_V mw_71 mw_72 mw_73 mw_50 mw_65) rfl rfl rfl (by decide +kernel) ⟨Nat.le_of_ble_eq_true rfl, Nat.le_of_ble_eq_true rfl⟩) (ct_preV hn hP hK hN (ci := 2) (k := (20 + ((6 : Fin 20)).val)) rfl (ra_lt (6 : Fin 20)) (cl_row (6 : Fin 20))) rfl rfl hl.1 rfl (lv_room (Nat.le_of_ble_eq_true rfl)) dX1_normOf_59 ⟨Nat.zero_le _, Nat.zero_le _⟩) hS (fun H locs hP hS => ?_)
        obtain ⟨u11, g12, hf⟩ := Option.bind_eq_some_iff.mp hf
        try dsimp only at hf
        refine ct_call (va_runV (As := [.int u9]) (rest := [.int x4, .ref (ra ad (6 : Fin 20))]) ⟨hx, hb, hml, hown, hts⟩ (C_X0_mate l D tys nw hn hnw hj htI htR (res := u11) g12) (cwV 1 hts (gu_V mw_122 mw_36 mw_37 mw_18 mw_29) rfl rfl rfl (by decide +kernel) ⟨Nat.le_of_ble_eq_true rfl, Nat.le_of_ble_eq_true rfl⟩) (ct_preV hn hP hK hN (ci := 0) (k := 40) rfl (by decide) rfl) rfl rfl hl.1 rfl (lv_room (Nat.le_of_ble_eq_true rfl)) dX1_normOf_62 ⟨Nat.zero_le _, Nat.zero_le _⟩) hS (fun H locs hP hS => ?_)
        obtain ⟨u13, g14, hf⟩ := Option.bind_eq_some_iff.mp hf
        try dsimp only at hf
        refine ct_call (va_runV (As := [.int x4, .int u11]) (rest := []) ⟨hx, hb, hml, hown, hts⟩ (C_X2_set l D tys nw hn hnw hj htI htR (res := u13) g14) (cwV 2 hts (gu_V mw_76 mw_77 mw_78 mw_50 mw_75) rfl rfl rfl (by decide +kernel) ⟨Nat.le_of_ble_eq_true rfl, Nat.le_of_ble_eq_true rfl⟩) (ct_preV hn hP hK hN (ci := 2) (k := (20 + ((6 : Fin 20)).val)) rfl (ra_lt (6 : Fin 20)) (cl_row (6 : Fin 20))) rfl rfl hl.1 rfl (lv_room (Nat.le_of_ble_eq_true rfl)) dX1_normOf_65 ⟨Nat.zero_le _, Nat.zero_le _⟩) hS (fun H locs hP hS => ?_)
        refine lv_iinc (v := x4 + 1) (lv' := [(4, .int (x4 + 1)), (0, .ref (ad 41)), (1, .ref (ra ad x1)), (2, .int x2), (3, .int x3)]) hx hb dX1_normOf_68 hl (k := 4) rfl rfl (by decide) rfl (fun ls hl => ?_)
        refine lv_goto (tgt := 37) hx hb dX1_normOf_71 (by decide) ?_
        exact ih (x4 + 1) u13 _ _ _ hP hS (lv_sub hl [1, 2, 3, 4, 0] rfl) hf
  have L23 : ∀ (x1 : Fin 20) (x2 : Int32) (k23 : Int32 → (Fin 20 → Nat → Int32) → Option (Fin 20 × (Fin 20 → Nat → Int32))), (∀ (x3 : Int32) (M : Fin 20 → Nat → Int32) (H : Heap) (locs : List Loc) (ls : Array Slot), va_P D vwCl (ww 46 ad (cellC cI cR ad M E P C N)) H → va_S (ww_A 46 ad) s.heap H locs → lv_has ls 5 [(0, .ref (ad 41)), (1, .ref (ra ad x1)), (2, .int x2), (3, .int x3)] →  k23 x3 M = some res → W p l e (headSpec usX1_normOf { frames := 3, cells := 0, slots := 0, locals := 70 }).room s m [.ref (ad 41), .ref (ra ad p0)].toArray below meth c H locs 0 0 (MQ below (ct_Q D (ww 46 ad (cellC cI cR ad res.2 E P C N)) (ww_A 46 ad) (some (.ref (ra ad res.1)))) [.ref (ad 41), .ref (ra ad p0)].toArray s 0 0 (ww_A 46 ad)) (F0 m 92 ls [])) → ∀ (n : Nat) (x3 : Int32) (M : Fin 20 → Nat → Int32) (H : Heap) (locs : List Loc) (ls : Array Slot), va_P D vwCl (ww 46 ad (cellC cI cR ad M E P C N)) H → va_S (ww_A 46 ad) s.heap H locs → lv_has ls 5 [(0, .ref (ad 41)), (1, .ref (ra ad x1)), (2, .int x2), (3, .int x3)] →  f_X1_normOf_l23 k23 fu E x1 x2 n x3 M = some res → W p l e (headSpec usX1_normOf { frames := 3, cells := 0, slots := 0, locals := 70 }).room s m [.ref (ad 41), .ref (ra ad p0)].toArray below meth c H locs 0 0 (MQ below (ct_Q D (ww 46 ad (cellC cI cR ad res.2 E P C N)) (ww_A 46 ad) (some (.ref (ra ad res.1)))) [.ref (ad 41), .ref (ra ad p0)].toArray s 0 0 (ww_A 46 ad)) (F0 m 23 ls []) := by
    intro x1 x2 k23 hk_23 n
    induction n with
    | zero => intro x3 M H locs ls hP hS hl hf; rw [f_X1_normOf_l23] at hf; cases hf
    | succ n ih =>
      intro x3 M H locs ls hP hS hl hf
      rw [f_X1_normOf_l23] at hf
      refine lv_iload_n hx hb dX1_normOf_23 rfl (lv_at hl 3 rfl) ?_
      refine lv_aload_n hx hb dX1_normOf_24 rfl (lv_at hl 0 rfl) ?_
      refine va_get (ci := 1) (v := .ref (ad 40)) (C := RX1) (T := TX1) (N := 11) hx hb hts (fun w h => BW_in (in_wsX10 w h)) hown hK hP 41 cc_ring rfl 0 (by decide) (hts (.fieldLink RX1 12 "NumberFieldFactors$Ring" "extension" "LNumberFieldFactors$Extension;") (BW_in mw_47)) (fun _ h9 => h9) rfl dX1_normOf_25 ?_
      refine va_getN (ci := 0) (v := .int (E 0)) (C := RX0) (T := TX0) (N := 8) (host := "NumberFieldFactors") hx hb hts (fun w h => BW_in (in_wsX00 w h)) hown hK hP 40 cc_ext rfl 0 (by decide) (va_Nw.use rfl (hN (.fieldLinkNest RX1 109 "NumberFieldFactors$Extension" "degree" "I" "NumberFieldFactors") (hnw _ (by decide +kernel)))) (fun _ h9 => h9) rfl dX1_normOf_28 ?_
      refine lv_icmp_ge (tgt := 92) hx hb dX1_normOf_31 (by decide) (fun c7 => ?_) (fun c7 => ?_)
      · rw [if_pos c7] at hf
        exact hk_23 x3 M _ _ _ hP hS (lv_sub hl [0, 1, 2, 3] rfl) hf
      · rw [if_neg c7] at hf
        refine lv_iconst (v := 0) hx hb dX1_normOf_34 (by decide) ?_
        refine lv_istore (lv' := [(4, .int 0), (0, .ref (ad 41)), (1, .ref (ra ad x1)), (2, .int x2), (3, .int x3)]) hx hb dX1_normOf_35 hl (by decide) rfl (fun ls hl => ?_)
        refine L37 x1 x2 x3 _ (fun y15 M16 H locs ls hP hS hl hf => ?_) fu 0 M _ _ _ hP hS (lv_sub hl [1, 2, 3, 4, 0] rfl) hf
        try dsimp only at hf
        refine lv_aload_n hx hb dX1_normOf_74 rfl (lv_at hl 0 rfl) ?_
        refine lv_aload_n hx hb dX1_normOf_75 rfl (lv_at hl 0 rfl) ?_
        refine va_get (ci := 1) (v := .ref (ra ad (7 : Fin 20))) (C := RX1) (T := TX1) (N := 11) hx hb hts (fun w h => BW_in (in_wsX10 w h)) hown hK hP 41 cc_ring rfl 7 (by decide) (hts (.fieldLink RX1 40 "NumberFieldFactors$Ring" "product" "LNumberFieldFactors$Row;") (BW_in mw_57)) (fun _ h9 => h9) rfl dX1_normOf_76 ?_
        refine lv_aload_n hx hb dX1_normOf_79 rfl (lv_at hl 0 rfl) ?_
        refine va_get (ci := 1) (v := .ref (ra ad (6 : Fin 20))) (C := RX1) (T := TX1) (N := 11) hx hb hts (fun w h => BW_in (in_wsX10 w h)) hown hK hP 41 cc_ring rfl 6 (by decide) (hts (.fieldLink RX1 37 "NumberFieldFactors$Ring" "mates" "LNumberFieldFactors$Row;") (BW_in mw_56)) (fun _ h9 => h9) rfl dX1_normOf_80 ?_
        obtain ⟨u17, g18, hf⟩ := Option.bind_eq_some_iff.mp hf
        try dsimp only at hf
        refine ct_call (va_runV (As := [.ref (ra ad (7 : Fin 20)), .ref (ra ad (6 : Fin 20))]) (rest := []) ⟨hx, hb, hml, hown, hts⟩ (C_X1_multiply l D tys nw hn hnw hj htI htR (res := u17) g18) (cwV 2 hts (gu_V mw_115 mw_116 mw_117 mw_100 mw_89) rfl rfl rfl (by decide +kernel) ⟨Nat.le_of_ble_eq_true rfl, Nat.le_of_ble_eq_true rfl⟩) (ct_preV hn hP hK hN (ci := 1) (k := 41) rfl (by decide) rfl) rfl rfl hl.1 rfl (lv_room (Nat.le_of_ble_eq_true rfl)) dX1_normOf_83 ⟨Nat.zero_le _, Nat.zero_le _⟩) hS (fun H locs hP hS => ?_)
        refine lv_iinc (v := x3 + 1) (lv' := [(3, .int (x3 + 1)), (0, .ref (ad 41)), (1, .ref (ra ad x1)), (2, .int x2), (4, .int y15)]) hx hb dX1_normOf_86 hl (k := 3) rfl rfl (by decide) rfl (fun ls hl => ?_)
        refine lv_goto (tgt := 23) hx hb dX1_normOf_89 (by decide) ?_
        exact ih (x3 + 1) u17 _ _ _ hP hS (lv_sub hl [1, 2, 3, 0] rfl) hf
  unfold f_X1_normOf at hf
  refine lv_aload_n hx hb dX1_normOf_0 rfl (lv_at hl 0 rfl) ?_
  refine va_get (ci := 1) (v := .ref (ra ad (7 : Fin 20))) (C := RX1) (T := TX1) (N := 11) hx hb hts (fun w h => BW_in (in_wsX10 w h)) hown hK hP 41 cc_ring rfl 7 (by decide) (hts (.fieldLink RX1 40 "NumberFieldFactors$Ring" "product" "LNumberFieldFactors$Row;") (BW_in mw_57)) (fun _ h9 => h9) rfl dX1_normOf_1 ?_
  refine lv_aload_n hx hb dX1_normOf_4 rfl (lv_at hl 1 rfl) ?_
  obtain ⟨u1, g2, hf⟩ := Option.bind_eq_some_iff.mp hf
  try dsimp only at hf
  refine ct_call (va_runV (As := [.ref (ra ad p0)]) (rest := []) ⟨hx, hb, hml, hown, hts⟩ (C_X2_copy l D tys nw hn hnw hj htI htR (res := u1) g2) (cwV 1 hts (gu_V mw_86 mw_87 mw_88 mw_50 mw_81) rfl rfl rfl (by decide +kernel) ⟨Nat.le_of_ble_eq_true rfl, Nat.le_of_ble_eq_true rfl⟩) (ct_preV hn hP hK hN (ci := 2) (k := (20 + ((7 : Fin 20)).val)) rfl (ra_lt (7 : Fin 20)) (cl_row (7 : Fin 20))) rfl rfl hl.1 rfl (lv_room (Nat.le_of_ble_eq_true rfl)) dX1_normOf_5 ⟨Nat.zero_le _, Nat.zero_le _⟩) hS (fun H locs hP hS => ?_)
  refine lv_aload_n hx hb dX1_normOf_8 rfl (lv_at hl 0 rfl) ?_
  refine va_get (ci := 1) (v := .ref (ra ad (6 : Fin 20))) (C := RX1) (T := TX1) (N := 11) hx hb hts (fun w h => BW_in (in_wsX10 w h)) hown hK hP 41 cc_ring rfl 6 (by decide) (hts (.fieldLink RX1 37 "NumberFieldFactors$Ring" "mates" "LNumberFieldFactors$Row;") (BW_in mw_56)) (fun _ h9 => h9) rfl dX1_normOf_9 ?_
  refine lv_aload_n hx hb dX1_normOf_12 rfl (lv_at hl 1 rfl) ?_
  obtain ⟨u3, g4, hf⟩ := Option.bind_eq_some_iff.mp hf
  try dsimp only at hf
  refine ct_call (va_runV (As := [.ref (ra ad p0)]) (rest := []) ⟨hx, hb, hml, hown, hts⟩ (C_X2_copy l D tys nw hn hnw hj htI htR (res := u3) g4) (cwV 1 hts (gu_V mw_86 mw_87 mw_88 mw_50 mw_81) rfl rfl rfl (by decide +kernel) ⟨Nat.le_of_ble_eq_true rfl, Nat.le_of_ble_eq_true rfl⟩) (ct_preV hn hP hK hN (ci := 2) (k := (20 + ((6 : Fin 20)).val)) rfl (ra_lt (6 : Fin 20)) (cl_row (6 : Fin 20))) rfl rfl hl.1 rfl (lv_room (Nat.le_of_ble_eq_true rfl)) dX1_normOf_13 ⟨Nat.zero_le _, Nat.zero_le _⟩) hS (fun H locs hP hS => ?_)
  refine lv_aload_n hx hb dX1_normOf_16 rfl (lv_at hl 1 rfl) ?_
  obtain ⟨u5, g6, hf⟩ := Option.bind_eq_some_iff.mp hf
  try dsimp only at hf
  refine ct_call (va_runV (As := []) (rest := []) ⟨hx, hb, hml, hown, hts⟩ (C_X2_degree l D tys nw hn hnw hj htI htR (res := u5) g6) (cwV 0 hts (gu_V mw_67 mw_68 mw_69 mw_50 mw_64) rfl rfl rfl (by decide +kernel) ⟨Nat.le_of_ble_eq_true rfl, Nat.le_of_ble_eq_true rfl⟩) (ct_preV hn hP hK hN (ci := 2) (k := (20 + (p0).val)) rfl (ra_lt p0) (cl_row p0)) rfl rfl hl.1 rfl (lv_room (Nat.le_of_ble_eq_true rfl)) dX1_normOf_17 ⟨Nat.zero_le _, Nat.zero_le _⟩) hS (fun H locs hP hS => ?_)
  refine lv_istore_n (lv' := [(2, .int u5), (0, .ref (ad 41)), (1, .ref (ra ad p0))]) hx hb dX1_normOf_20 rfl hl (by decide) rfl (fun ls hl => ?_)
  refine lv_iconst (v := 1) hx hb dX1_normOf_21 (by decide) ?_
  refine lv_istore_n (lv' := [(3, .int 1), (2, .int u5), (0, .ref (ad 41)), (1, .ref (ra ad p0))]) hx hb dX1_normOf_22 rfl hl (by decide) rfl (fun ls hl => ?_)
  refine L23 p0 u5 _ (fun y19 M20 H locs ls hP hS hl hf => ?_) fu 1 u3 _ _ _ hP hS (lv_sub hl [2, 3, 1, 0] rfl) hf
  try dsimp only at hf
  refine lv_aload_n hx hb dX1_normOf_92 rfl (lv_at hl 0 rfl) ?_
  refine va_get (ci := 1) (v := .ref (ra ad (7 : Fin 20))) (C := RX1) (T := TX1) (N := 11) hx hb hts (fun w h => BW_in (in_wsX10 w h)) hown hK hP 41 cc_ring rfl 7 (by decide) (hts (.fieldLink RX1 40 "NumberFieldFactors$Ring" "product" "LNumberFieldFactors$Row;") (BW_in mw_57)) (fun _ h9 => h9) rfl dX1_normOf_93 ?_
  obtain rfl := Option.some.inj hf
  exact W.aret (v := .ref (ra ad (7 : Fin 20))) hx hb hr (Or.inl ⟨_, rfl⟩) (Or.inr ⟨_, rfl⟩) (fun t ht hW => ⟨rfl, by rw [ht]; exact hP, hS.F ht⟩) hS.2.2 dX1_normOf_96
def f_X1_leastPolynomial_l21 (k21 : Int32 → Int32 → (Fin 20 → Nat → Int32) → Option (Fin 20 × (Fin 20 → Nat → Int32))) (fu : Nat) (E : Nat → Int32) (x1 : Int32) (x2 : Int32) : Nat → Int32 → Int32 → (Fin 20 → Nat → Int32) → Option (Fin 20 × (Fin 20 → Nat → Int32))
  | 0, _, _, _ => none
  | n + 1, x3, x4, M =>
    if x2 ≤ x4 then
      k21 x3 x4 M
    else
      (f_X0_minus 0 x3).bind (fun u6 =>
      (f_X1_multiplyLinear fu M E (9 : Fin 20) u6).bind (fun u8 =>
      (f_X0_mate E x3).bind (fun u10 =>
      f_X1_leastPolynomial_l21 k21 fu E x1 x2 n u10 (x4 + 1) u8)))
def f_X1_leastPolynomial (fu : Nat) (M : Fin 20 → Nat → Int32) (E : Nat → Int32) (p0 : Int32) : Option (Fin 20 × (Fin 20 → Nat → Int32)) :=
  (f_X0_differentMates E p0).bind (fun u1 =>
  (f_X2_becomeOne fu M (9 : Fin 20)).bind (fun u3 =>
  f_X1_leastPolynomial_l21 (fun y12 y13 M14 =>
    some ((9 : Fin 20), M14)) fu E p0 u1 fu p0 0 u3))
set_option maxHeartbeats 4000000 in
set_option maxRecDepth 100000 in
theorem C_X1_leastPolynomial (l : Launch) (D : va_G) (tys : List (ClassId × FieldType)) (nw : List Cond) (hn : nw.all nw_kind = true) (hnw : ∀ w ∈ nw0, w ∈ nw) {ad : Nat → Nat} (hj : ww_inj 46 ad) {cI : ClassId} {cR : ClassId} (htI : tys[0]? = some (cI, .int)) (htR : tys[1]? = some (cR, .object RX2)) {fu : Nat} {M : Fin 20 → Nat → Int32} {E : Nat → Int32} {P : Nat → Fin 20} {C : Nat → Int32} {N : Nat → Int32} {p0 : Int32} {res : Fin 20 × (Fin 20 → Nat → Int32)} (hf : f_X1_leastPolynomial fu M E p0 = some res) :
    Met l yX1_leastPolynomial usX1_leastPolynomial ({ frames := 3, cells := 0, slots := 0, locals := 78 }) (va_Pc [.ref (ad 41), .int p0] (ws_B D tys nw (ww 46 ad (cellC cI cR ad M E P C N)))) (ct_Q D (ww 46 ad (cellC cI cR ad res.2 E P C N)) (ww_A 46 ad) (some (.ref (ra ad res.1)))) 0 0 (ww_A 46 ad) := by
  refine Met.ofW (cc := cX1_leastPolynomial) (maxL := 5) (ret := (some (.object "NumberFieldFactors$Row"))) (by decide) rfl ?_
  intro p e s m args below meth c s₁ B hml hv
  obtain ⟨rfl, hP, hK, hN⟩ := hv
  have hx := B.exec
  have hb := B.bytes
  have hr := B.returns
  have hts := atoms_spec (ws := usX1_leastPolynomial) B.pre
  have hown : s.vm.findClass RX1 = some m.cls := findClass_of_methodNamed B.named
  have hlocks := B.notSynchronized
  have hS : va_S (ww_A 46 ad) s.heap s.heap [] := va_S.rf
  have hl := lv_entry ([.ref (ad 41), .int p0]) (n := 5) (Nat.le_of_ble_eq_true rfl)
  rw [lg_entry_eq]
  generalize (lg_sl ([.ref (ad 41), .int p0]) ++ List.replicate (5 - (lg_sl ([.ref (ad 41), .int p0])).length) Slot.unset).toArray = ls at hl ⊢
  have hl : lv_has ls 5 [(0, .ref (ad 41)), (1, .int p0)] := hl
  have L21 : ∀ (x1 : Int32) (x2 : Int32) (k21 : Int32 → Int32 → (Fin 20 → Nat → Int32) → Option (Fin 20 × (Fin 20 → Nat → Int32))), (∀ (x3 : Int32) (x4 : Int32) (M : Fin 20 → Nat → Int32) (H : Heap) (locs : List Loc) (ls : Array Slot), va_P D vwCl (ww 46 ad (cellC cI cR ad M E P C N)) H → va_S (ww_A 46 ad) s.heap H locs → lv_has ls 5 [(0, .ref (ad 41)), (1, .int x1), (2, .int x2), (3, .int x3), (4, .int x4)] →  k21 x3 x4 M = some res → W p l e (headSpec usX1_leastPolynomial { frames := 3, cells := 0, slots := 0, locals := 78 }).room s m [.ref (ad 41), .int p0].toArray below meth c H locs 0 0 (MQ below (ct_Q D (ww 46 ad (cellC cI cR ad res.2 E P C N)) (ww_A 46 ad) (some (.ref (ra ad res.1)))) [.ref (ad 41), .int p0].toArray s 0 0 (ww_A 46 ad)) (F0 m 59 ls [])) → ∀ (n : Nat) (x3 : Int32) (x4 : Int32) (M : Fin 20 → Nat → Int32) (H : Heap) (locs : List Loc) (ls : Array Slot), va_P D vwCl (ww 46 ad (cellC cI cR ad M E P C N)) H → va_S (ww_A 46 ad) s.heap H locs → lv_has ls 5 [(0, .ref (ad 41)), (1, .int x1), (2, .int x2), (3, .int x3), (4, .int x4)] →  f_X1_leastPolynomial_l21 k21 fu E x1 x2 n x3 x4 M = some res → W p l e (headSpec usX1_leastPolynomial { frames := 3, cells := 0, slots := 0, locals := 78 }).room s m [.ref (ad 41), .int p0].toArray below meth c H locs 0 0 (MQ below (ct_Q D (ww 46 ad (cellC cI cR ad res.2 E P C N)) (ww_A 46 ad) (some (.ref (ra ad res.1)))) [.ref (ad 41), .int p0].toArray s 0 0 (ww_A 46 ad)) (F0 m 21 ls []) := by
    intro x1 x2 k21 hk_21 n
    induction n with
    | zero => intro x3 x4 M H locs ls hP hS hl hf; rw [f_X1_leastPolynomial_l21] at hf; cases hf
    | succ n ih =>
      intro x3 x4 M H locs ls hP hS hl hf
      rw [f_X1_leastPolynomial_l21] at hf
      refine lv_iload hx hb dX1_leastPolynomial_21 (lv_at hl 4 rfl) ?_
      refine lv_iload_n hx hb dX1_leastPolynomial_23 rfl (lv_at hl 2 rfl) ?_
      refine lv_icmp_ge (tgt := 59) hx hb dX1_leastPolynomial_24 (by decide) (fun c5 => ?_) (fun c5 => ?_)
      · rw [if_pos c5] at hf
        exact hk_21 x3 x4 M _ _ _ hP hS (lv_sub hl [0, 1, 2, 3, 4] rfl) hf
      · rw [if_neg c5] at hf
        refine lv_aload_n hx hb dX1_leastPolynomial_27 rfl (lv_at hl 0 rfl) ?_
        refine lv_aload_n hx hb dX1_leastPolynomial_28 rfl (lv_at hl 0 rfl) ?_
        refine va_get (ci := 1) (v := .ref (ra ad (9 : Fin 20))) (C := RX1) (T := TX1) (N := 11) hx hb hts (fun w h => BW_in (in_wsX10 w h)) hown hK hP 41 cc_ring rfl 9 (by decide) (hts (.fieldLink RX1 46 "NumberFieldFactors$Ring" "least" "LNumberFieldFactors$Row;") (BW_in mw_59)) (fun _ h9 => h9) rfl dX1_leastPolynomial_29 ?_
        refine lv_aload_n hx hb dX1_leastPolynomial_32 rfl (lv_at hl 0 rfl) ?_
        refine va_get (ci := 1) (v := .ref (ad 40)) (C := RX1) (T := TX1) (N := 11) hx hb hts (fun w h => BW_in (in_wsX10 w h)) hown hK hP 41 cc_ring rfl 0 (by decide) (hts (.fieldLink RX1 12 "NumberFieldFactors$Ring" "extension" "LNumberFieldFactors$Extension;") (BW_in mw_47)) (fun _ h9 => h9) rfl dX1_leastPolynomial_33 ?_
        refine lv_iconst (v := 0) hx hb dX1_leastPolynomial_36 (by decide) ?_
        refine lv_iload_n hx hb dX1_leastPolynomial_37 rfl (lv_at hl 3 rfl) ?_
        obtain ⟨u6, g7, hf⟩ := Option.bind_eq_some_iff.mp hf
        try dsimp only at hf
        refine ct_call (va_runV (As := [.int 0, .int x3]) (rest := [.ref (ra ad (9 : Fin 20)), .ref (ad 41)]) ⟨hx, hb, hml, hown, hts⟩ (C_X0_minus l D tys nw hn hnw hj htI htR (res := u6) g7) (cwV 2 hts (gu_V mw_91 mw_92 mw_93 mw_18 mw_28) rfl rfl rfl (by decide +kernel) ⟨Nat.le_of_ble_eq_true rfl, Nat.le_of_ble_eq_true rfl⟩) (ct_preV hn hP hK hN (ci := 0) (k := 40) rfl (by decide) rfl) rfl rfl hl.1 rfl (lv_room (Nat.le_of_ble_eq_true rfl)) dX1_leastPolynomial_38 ⟨Nat.zero_le _, Nat.zero_le _⟩) hS (fun H locs hP hS => ?_)
        obtain ⟨u8, g9, hf⟩ := Option.bind_eq_some_iff.mp hf
        try dsimp only at hf
        refine ct_call (va_runV (As := [.ref (ra ad (9 : Fin 20)), .int u6]) (rest := []) ⟨hx, hb, hml, hown, hts⟩ (C_X1_multiplyLinear l D tys nw hn hnw hj htI htR (res := u8) g9) (cwV 2 hts (gu_V mw_118 mw_119 mw_120 mw_100 mw_90) rfl rfl rfl (by decide +kernel) ⟨Nat.le_of_ble_eq_true rfl, Nat.le_of_ble_eq_true rfl⟩) (ct_preV hn hP hK hN (ci := 1) (k := 41) rfl (by decide) rfl) rfl rfl hl.1 rfl (lv_room (Nat.le_of_ble_eq_true rfl)) dX1_leastPolynomial_41 ⟨Nat.zero_le _, Nat.zero_le _⟩) hS (fun H locs hP hS => ?_)
        refine lv_aload_n hx hb dX1_leastPolynomial_44 rfl (lv_at hl 0 rfl) ?_
        refine va_get (ci := 1) (v := .ref (ad 40)) (C := RX1) (T := TX1) (N := 11) hx hb hts (fun w h => BW_in (in_wsX10 w h)) hown hK hP 41 cc_ring rfl 0 (by decide) (hts (.fieldLink RX1 12 "NumberFieldFactors$Ring" "extension" "LNumberFieldFactors$Extension;") (BW_in mw_47)) (fun _ h9 => h9) rfl dX1_leastPolynomial_45 ?_
        refine lv_iload_n hx hb dX1_leastPolynomial_48 rfl (lv_at hl 3 rfl) ?_
        obtain ⟨u10, g11, hf⟩ := Option.bind_eq_some_iff.mp hf
        try dsimp only at hf
        refine ct_call (va_runV (As := [.int x3]) (rest := []) ⟨hx, hb, hml, hown, hts⟩ (C_X0_mate l D tys nw hn hnw hj htI htR (res := u10) g11) (cwV 1 hts (gu_V mw_122 mw_36 mw_37 mw_18 mw_29) rfl rfl rfl (by decide +kernel) ⟨Nat.le_of_ble_eq_true rfl, Nat.le_of_ble_eq_true rfl⟩) (ct_preV hn hP hK hN (ci := 0) (k := 40) rfl (by decide) rfl) rfl rfl hl.1 rfl (lv_room (Nat.le_of_ble_eq_true rfl)) dX1_leastPolynomial_49 ⟨Nat.zero_le _, Nat.zero_le _⟩) hS (fun H locs hP hS => ?_)
        refine lv_istore_n (lv' := [(3, .int u10), (0, .ref (ad 41)), (1, .int x1), (2, .int x2), (4, .int x4)]) hx hb dX1_leastPolynomial_52 rfl hl (by decide) rfl (fun ls hl => ?_)
        refine lv_iinc (v := x4 + 1) (lv' := [(4, .int (x4 + 1)), (3, .int u10), (0, .ref (ad 41)), (1, .int x1), (2, .int x2)]) hx hb dX1_leastPolynomial_53 hl (k := 4) rfl rfl (by decide) rfl (fun ls hl => ?_)
        refine lv_goto (tgt := 21) hx hb dX1_leastPolynomial_56 (by decide) ?_
        exact ih u10 (x4 + 1) u8 _ _ _ hP hS (lv_sub hl [2, 3, 4, 1, 0] rfl) hf
  unfold f_X1_leastPolynomial at hf
  refine lv_aload_n hx hb dX1_leastPolynomial_0 rfl (lv_at hl 0 rfl) ?_
  refine va_get (ci := 1) (v := .ref (ad 40)) (C := RX1) (T := TX1) (N := 11) hx hb hts (fun w h => BW_in (in_wsX10 w h)) hown hK hP 41 cc_ring rfl 0 (by decide) (hts (.fieldLink RX1 12 "NumberFieldFactors$Ring" "extension" "LNumberFieldFactors$Extension;") (BW_in mw_47)) (fun _ h9 => h9) rfl dX1_leastPolynomial_1 ?_
  refine lv_iload_n hx hb dX1_leastPolynomial_4 rfl (lv_at hl 1 rfl) ?_
  obtain ⟨u1, g2, hf⟩ := Option.bind_eq_some_iff.mp hf
  try dsimp only at hf
  refine ct_call (va_runV (As := [.int p0]) (rest := []) ⟨hx, hb, hml, hown, hts⟩ (C_X0_differentMates l D tys nw hn hnw hj htI htR (res := u1) g2) (cwV 1 hts (gu_V mw_124 mw_125 mw_126 mw_18 mw_39) rfl rfl rfl (by decide +kernel) ⟨Nat.le_of_ble_eq_true rfl, Nat.le_of_ble_eq_true rfl⟩) (ct_preV hn hP hK hN (ci := 0) (k := 40) rfl (by decide) rfl) rfl rfl hl.1 rfl (lv_room (Nat.le_of_ble_eq_true rfl)) dX1_leastPolynomial_5 ⟨Nat.zero_le _, Nat.zero_le _⟩) hS (fun H locs hP hS => ?_)
  refine lv_istore_n (lv' := [(2, .int u1), (0, .ref (ad 41)), (1, .int p0)]) hx hb dX1_leastPolynomial_8 rfl hl (by decide) rfl (fun ls hl => ?_)
  refine lv_iload_n hx hb dX1_leastPolynomial_9 rfl (lv_at hl 2 rfl) ?_
  refine lv_istore_n (lv' := [(3, .int p0), (2, .int u1), (0, .ref (ad 41)), (1, .int p0)]) hx hb dX1_leastPolynomial_10 rfl hl (by decide) rfl (fun ls hl => ?_)
  refine lv_aload_n hx hb dX1_leastPolynomial_11 rfl (lv_at hl 2 rfl) ?_
  refine va_get (ci := 1) (v := .ref (ra ad (9 : Fin 20))) (C := RX1) (T := TX1) (N := 11) hx hb hts (fun w h => BW_in (in_wsX10 w h)) hown hK hP 41 cc_ring rfl 9 (by decide) (hts (.fieldLink RX1 46 "NumberFieldFactors$Ring" "least" "LNumberFieldFactors$Row;") (BW_in mw_59)) (fun _ h9 => h9) rfl dX1_leastPolynomial_12 ?_
  obtain ⟨u3, g4, hf⟩ := Option.bind_eq_some_iff.mp hf
  try dsimp only at hf
  refine ct_call (va_runV (As := []) (rest := []) ⟨hx, hb, hml, hown, hts⟩ (C_X2_becomeOne l D tys nw hn hnw hj htI htR (res := u3) g4) (cwV 0 hts (gu_V mw_112 mw_113 mw_114 mw_50 mw_109) rfl rfl rfl (by decide +kernel) ⟨Nat.le_of_ble_eq_true rfl, Nat.le_of_ble_eq_true rfl⟩) (ct_preV hn hP hK hN (ci := 2) (k := (20 + ((9 : Fin 20)).val)) rfl (ra_lt (9 : Fin 20)) (cl_row (9 : Fin 20))) rfl rfl hl.1 rfl (lv_room (Nat.le_of_ble_eq_true rfl)) dX1_leastPolynomial_15 ⟨Nat.zero_le _, Nat.zero_le _⟩) hS (fun H locs hP hS => ?_)
  refine lv_iconst (v := 0) hx hb dX1_leastPolynomial_18 (by decide) ?_
  refine lv_istore (lv' := [(4, .int 0), (3, .int p0), (2, .int u1), (0, .ref (ad 41)), (1, .int p0)]) hx hb dX1_leastPolynomial_19 hl (by decide) rfl (fun ls hl => ?_)
  refine L21 p0 u1 _ (fun y12 y13 M14 H locs ls hP hS hl hf => ?_) fu p0 0 u3 _ _ _ hP hS (lv_sub hl [3, 4, 2, 1, 0] rfl) hf
  try dsimp only at hf
  refine lv_aload_n hx hb dX1_leastPolynomial_59 rfl (lv_at hl 0 rfl) ?_
  refine va_get (ci := 1) (v := .ref (ra ad (9 : Fin 20))) (C := RX1) (T := TX1) (N := 11) hx hb hts (fun w h => BW_in (in_wsX10 w h)) hown hK hP 41 cc_ring rfl 9 (by decide) (hts (.fieldLink RX1 46 "NumberFieldFactors$Ring" "least" "LNumberFieldFactors$Row;") (BW_in mw_59)) (fun _ h9 => h9) rfl dX1_leastPolynomial_60 ?_
  obtain rfl := Option.some.inj hf
  exact W.aret (v := .ref (ra ad (9 : Fin 20))) hx hb hr (Or.inl ⟨_, rfl⟩) (Or.inr ⟨_, rfl⟩) (fun t ht hW => ⟨rfl, by rw [ht]; exact hP, hS.F ht⟩) hS.2.2 dX1_leastPolynomial_63
def f_X1_leastShift_l2 (k2 : Int32 → (Fin 20 → Nat → Int32) → Option (Int32 × (Fin 20 → Nat → Int32))) (fu : Nat) (E : Nat → Int32) (x1 : Fin 20) : Nat → Int32 → (Fin 20 → Nat → Int32) → Option (Int32 × (Fin 20 → Nat → Int32))
  | 0, _, _ => none
  | n + 1, x2, M =>
    if 101 ≤ x2 then
      k2 x2 M
    else
      (f_X2_copy fu M (8 : Fin 20) x1).bind (fun u2 =>
      (f_X0_times E x2 (E 5)).bind (fun u4 =>
      (f_X0_minus 0 u4).bind (fun u6 =>
      (f_X1_displace fu u2 E (8 : Fin 20) u6).bind (fun u8 =>
      (f_X1_normOf fu u8 E (8 : Fin 20)).bind (fun u10 =>
      (f_X1_findSquares fu u10.2 E u10.1 (10 : Fin 20)).bind (fun u12 =>
      (f_X2_degree fu u12 (10 : Fin 20)).bind (fun u14 =>
      if 0 < u14 then
        f_X1_leastShift_l2 k2 fu E x1 n (x2 + 1) u12
      else
        some (x2, u12))))))))
def f_X1_leastShift (fu : Nat) (M : Fin 20 → Nat → Int32) (E : Nat → Int32) (p0 : Fin 20) : Option (Int32 × (Fin 20 → Nat → Int32)) :=
  f_X1_leastShift_l2 (fun y17 M18 =>
    some (0, M18)) fu E p0 fu 0 M
set_option maxHeartbeats 4000000 in
set_option maxRecDepth 100000 in
theorem C_X1_leastShift (l : Launch) (D : va_G) (tys : List (ClassId × FieldType)) (nw : List Cond) (hn : nw.all nw_kind = true) (hnw : ∀ w ∈ nw0, w ∈ nw) {ad : Nat → Nat} (hj : ww_inj 46 ad) {cI : ClassId} {cR : ClassId} (htI : tys[0]? = some (cI, .int)) (htR : tys[1]? = some (cR, .object RX2)) {fu : Nat} {M : Fin 20 → Nat → Int32} {E : Nat → Int32} {P : Nat → Fin 20} {C : Nat → Int32} {N : Nat → Int32} {p0 : Fin 20} {res : Int32 × (Fin 20 → Nat → Int32)} (hf : f_X1_leastShift fu M E p0 = some res) :
    Met l yX1_leastShift usX1_leastShift ({ frames := 5, cells := 0, slots := 0, locals := 134 }) (va_Pc [.ref (ad 41), .ref (ra ad p0)] (ws_B D tys nw (ww 46 ad (cellC cI cR ad M E P C N)))) (ct_Q D (ww 46 ad (cellC cI cR ad res.2 E P C N)) (ww_A 46 ad) (some (.int res.1))) 0 0 (ww_A 46 ad) := by
  refine Met.ofW (cc := cX1_leastShift) (maxL := 3) (ret := (some .int)) (by decide) rfl ?_
  intro p e s m args below meth c s₁ B hml hv
  obtain ⟨rfl, hP, hK, hN⟩ := hv
  have hx := B.exec
  have hb := B.bytes
  have hr := B.returns
  have hts := atoms_spec (ws := usX1_leastShift) B.pre
  have hown : s.vm.findClass RX1 = some m.cls := findClass_of_methodNamed B.named
  have hlocks := B.notSynchronized
  have hS : va_S (ww_A 46 ad) s.heap s.heap [] := va_S.rf
  have hl := lv_entry ([.ref (ad 41), .ref (ra ad p0)]) (n := 3) (Nat.le_of_ble_eq_true rfl)
  rw [lg_entry_eq]
  generalize (lg_sl ([.ref (ad 41), .ref (ra ad p0)]) ++ List.replicate (3 - (lg_sl ([.ref (ad 41), .ref (ra ad p0)])).length) Slot.unset).toArray = ls at hl ⊢
  have hl : lv_has ls 3 [(0, .ref (ad 41)), (1, .ref (ra ad p0))] := hl
  have L2 : ∀ (x1 : Fin 20) (k2 : Int32 → (Fin 20 → Nat → Int32) → Option (Int32 × (Fin 20 → Nat → Int32))), (∀ (x2 : Int32) (M : Fin 20 → Nat → Int32) (H : Heap) (locs : List Loc) (ls : Array Slot), va_P D vwCl (ww 46 ad (cellC cI cR ad M E P C N)) H → va_S (ww_A 46 ad) s.heap H locs → lv_has ls 3 [(0, .ref (ad 41)), (1, .ref (ra ad x1)), (2, .int x2)] →  k2 x2 M = some res → W p l e (headSpec usX1_leastShift { frames := 5, cells := 0, slots := 0, locals := 134 }).room s m [.ref (ad 41), .ref (ra ad p0)].toArray below meth c H locs 0 0 (MQ below (ct_Q D (ww 46 ad (cellC cI cR ad res.2 E P C N)) (ww_A 46 ad) (some (.int res.1))) [.ref (ad 41), .ref (ra ad p0)].toArray s 0 0 (ww_A 46 ad)) (F0 m 81 ls [])) → ∀ (n : Nat) (x2 : Int32) (M : Fin 20 → Nat → Int32) (H : Heap) (locs : List Loc) (ls : Array Slot), va_P D vwCl (ww 46 ad (cellC cI cR ad M E P C N)) H → va_S (ww_A 46 ad) s.heap H locs → lv_has ls 3 [(0, .ref (ad 41)), (1, .ref (ra ad x1)), (2, .int x2)] →  f_X1_leastShift_l2 k2 fu E x1 n x2 M = some res → W p l e (headSpec usX1_leastShift { frames := 5, cells := 0, slots := 0, locals := 134 }).room s m [.ref (ad 41), .ref (ra ad p0)].toArray below meth c H locs 0 0 (MQ below (ct_Q D (ww 46 ad (cellC cI cR ad res.2 E P C N)) (ww_A 46 ad) (some (.int res.1))) [.ref (ad 41), .ref (ra ad p0)].toArray s 0 0 (ww_A 46 ad)) (F0 m 2 ls []) := by
    intro x1 k2 hk_2 n
    induction n with
    | zero => intro x2 M H locs ls hP hS hl hf; rw [f_X1_leastShift_l2] at hf; cases hf
    | succ n ih =>
      intro x2 M H locs ls hP hS hl hf
      rw [f_X1_leastShift_l2] at hf
      refine lv_iload_n hx hb dX1_leastShift_2 rfl (lv_at hl 2 rfl) ?_
      refine lv_bipush (v := 101) hx hb dX1_leastShift_3 (by decide) ?_
      refine lv_icmp_ge (tgt := 81) hx hb dX1_leastShift_5 (by decide) (fun c1 => ?_) (fun c1 => ?_)
      · rw [if_pos c1] at hf
        exact hk_2 x2 M _ _ _ hP hS (lv_sub hl [0, 1, 2] rfl) hf
      · rw [if_neg c1] at hf
        refine lv_aload_n hx hb dX1_leastShift_8 rfl (lv_at hl 0 rfl) ?_
        refine va_get (ci := 1) (v := .ref (ra ad (8 : Fin 20))) (C := RX1) (T := TX1) (N := 11) hx hb hts (fun w h => BW_in (in_wsX10 w h)) hown hK hP 41 cc_ring rfl 8 (by decide) (hts (.fieldLink RX1 43 "NumberFieldFactors$Ring" "moved" "LNumberFieldFactors$Row;") (BW_in mw_58)) (fun _ h9 => h9) rfl dX1_leastShift_9 ?_
        refine lv_aload_n hx hb dX1_leastShift_12 rfl (lv_at hl 1 rfl) ?_
        obtain ⟨u2, g3, hf⟩ := Option.bind_eq_some_iff.mp hf
        try dsimp only at hf
        refine ct_call (va_runV (As := [.ref (ra ad x1)]) (rest := []) ⟨hx, hb, hml, hown, hts⟩ (C_X2_copy l D tys nw hn hnw hj htI htR (res := u2) g3) (cwV 1 hts (gu_V mw_86 mw_87 mw_88 mw_50 mw_81) rfl rfl rfl (by decide +kernel) ⟨Nat.le_of_ble_eq_true rfl, Nat.le_of_ble_eq_true rfl⟩) (ct_preV hn hP hK hN (ci := 2) (k := (20 + ((8 : Fin 20)).val)) rfl (ra_lt (8 : Fin 20)) (cl_row (8 : Fin 20))) rfl rfl hl.1 rfl (lv_room (Nat.le_of_ble_eq_true rfl)) dX1_leastShift_13 ⟨Nat.zero_le _, Nat.zero_le _⟩) hS (fun H locs hP hS => ?_)
        refine lv_aload_n hx hb dX1_leastShift_16 rfl (lv_at hl 0 rfl) ?_
        refine lv_aload_n hx hb dX1_leastShift_17 rfl (lv_at hl 0 rfl) ?_
        refine va_get (ci := 1) (v := .ref (ra ad (8 : Fin 20))) (C := RX1) (T := TX1) (N := 11) hx hb hts (fun w h => BW_in (in_wsX10 w h)) hown hK hP 41 cc_ring rfl 8 (by decide) (hts (.fieldLink RX1 43 "NumberFieldFactors$Ring" "moved" "LNumberFieldFactors$Row;") (BW_in mw_58)) (fun _ h9 => h9) rfl dX1_leastShift_18 ?_
        refine lv_aload_n hx hb dX1_leastShift_21 rfl (lv_at hl 0 rfl) ?_
        refine va_get (ci := 1) (v := .ref (ad 40)) (C := RX1) (T := TX1) (N := 11) hx hb hts (fun w h => BW_in (in_wsX10 w h)) hown hK hP 41 cc_ring rfl 0 (by decide) (hts (.fieldLink RX1 12 "NumberFieldFactors$Ring" "extension" "LNumberFieldFactors$Extension;") (BW_in mw_47)) (fun _ h9 => h9) rfl dX1_leastShift_22 ?_
        refine lv_iconst (v := 0) hx hb dX1_leastShift_25 (by decide) ?_
        refine lv_aload_n hx hb dX1_leastShift_26 rfl (lv_at hl 0 rfl) ?_
        refine va_get (ci := 1) (v := .ref (ad 40)) (C := RX1) (T := TX1) (N := 11) hx hb hts (fun w h => BW_in (in_wsX10 w h)) hown hK hP 41 cc_ring rfl 0 (by decide) (hts (.fieldLink RX1 12 "NumberFieldFactors$Ring" "extension" "LNumberFieldFactors$Extension;") (BW_in mw_47)) (fun _ h9 => h9) rfl dX1_leastShift_27 ?_
        refine lv_iload_n hx hb dX1_leastShift_30 rfl (lv_at hl 2 rfl) ?_
        refine lv_aload_n hx hb dX1_leastShift_31 rfl (lv_at hl 0 rfl) ?_
        refine va_get (ci := 1) (v := .ref (ad 40)) (C := RX1) (T := TX1) (N := 11) hx hb hts (fun w h => BW_in (in_wsX10 w h)) hown hK hP 41 cc_ring rfl 0 (by decide) (hts (.fieldLink RX1 12 "NumberFieldFactors$Ring" "extension" "LNumberFieldFactors$Extension;") (BW_in mw_47)) (fun _ h9 => h9) rfl dX1_leastShift_32 ?_
        refine va_getN (ci := 0) (v := .int (E 5)) (C := RX0) (T := TX0) (N := 8) (host := "NumberFieldFactors") hx hb hts (fun w h => BW_in (in_wsX00 w h)) hown hK hP 40 cc_ext rfl 5 (by decide) (va_Nw.use rfl (hN (.fieldLinkNest RX1 117 "NumberFieldFactors$Extension" "t" "I" "NumberFieldFactors") (hnw _ (by decide +kernel)))) (fun _ h9 => h9) rfl dX1_leastShift_35 ?_
        obtain ⟨u4, g5, hf⟩ := Option.bind_eq_some_iff.mp hf
        try dsimp only at hf
        refine ct_call (va_runV (As := [.int x2, .int (E 5)]) (rest := [.int 0, .ref (ad 40), .ref (ra ad (8 : Fin 20)), .ref (ad 41)]) ⟨hx, hb, hml, hown, hts⟩ (C_X0_times l D tys nw hn hnw hj htI htR (res := u4) g5) (cwV 2 hts (gu_V mw_70 mw_16 mw_17 mw_18 mw_13) rfl rfl rfl (by decide +kernel) ⟨Nat.le_of_ble_eq_true rfl, Nat.le_of_ble_eq_true rfl⟩) (ct_preV hn hP hK hN (ci := 0) (k := 40) rfl (by decide) rfl) rfl rfl hl.1 rfl (lv_room (Nat.le_of_ble_eq_true rfl)) dX1_leastShift_38 ⟨Nat.zero_le _, Nat.zero_le _⟩) hS (fun H locs hP hS => ?_)
        obtain ⟨u6, g7, hf⟩ := Option.bind_eq_some_iff.mp hf
        try dsimp only at hf
        refine ct_call (va_runV (As := [.int 0, .int u4]) (rest := [.ref (ra ad (8 : Fin 20)), .ref (ad 41)]) ⟨hx, hb, hml, hown, hts⟩ (C_X0_minus l D tys nw hn hnw hj htI htR (res := u6) g7) (cwV 2 hts (gu_V mw_91 mw_92 mw_93 mw_18 mw_28) rfl rfl rfl (by decide +kernel) ⟨Nat.le_of_ble_eq_true rfl, Nat.le_of_ble_eq_true rfl⟩) (ct_preV hn hP hK hN (ci := 0) (k := 40) rfl (by decide) rfl) rfl rfl hl.1 rfl (lv_room (Nat.le_of_ble_eq_true rfl)) dX1_leastShift_41 ⟨Nat.zero_le _, Nat.zero_le _⟩) hS (fun H locs hP hS => ?_)
        obtain ⟨u8, g9, hf⟩ := Option.bind_eq_some_iff.mp hf
        try dsimp only at hf
        refine ct_call (va_runV (As := [.ref (ra ad (8 : Fin 20)), .int u6]) (rest := []) ⟨hx, hb, hml, hown, hts⟩ (C_X1_displace l D tys nw hn hnw hj htI htR (res := u8) g9) (cwV 2 hts (gu_V mw_128 mw_129 mw_130 mw_100 mw_79) rfl rfl rfl (by decide +kernel) ⟨Nat.le_of_ble_eq_true rfl, Nat.le_of_ble_eq_true rfl⟩) (ct_preV hn hP hK hN (ci := 1) (k := 41) rfl (by decide) rfl) rfl rfl hl.1 rfl (lv_room (Nat.le_of_ble_eq_true rfl)) dX1_leastShift_44 ⟨Nat.zero_le _, Nat.zero_le _⟩) hS (fun H locs hP hS => ?_)
        refine lv_aload_n hx hb dX1_leastShift_47 rfl (lv_at hl 0 rfl) ?_
        refine lv_aload_n hx hb dX1_leastShift_48 rfl (lv_at hl 0 rfl) ?_
        refine lv_aload_n hx hb dX1_leastShift_49 rfl (lv_at hl 0 rfl) ?_
        refine va_get (ci := 1) (v := .ref (ra ad (8 : Fin 20))) (C := RX1) (T := TX1) (N := 11) hx hb hts (fun w h => BW_in (in_wsX10 w h)) hown hK hP 41 cc_ring rfl 8 (by decide) (hts (.fieldLink RX1 43 "NumberFieldFactors$Ring" "moved" "LNumberFieldFactors$Row;") (BW_in mw_58)) (fun _ h9 => h9) rfl dX1_leastShift_50 ?_
        obtain ⟨u10, g11, hf⟩ := Option.bind_eq_some_iff.mp hf
        try dsimp only at hf
        refine ct_call (va_runV (As := [.ref (ra ad (8 : Fin 20))]) (rest := [.ref (ad 41)]) ⟨hx, hb, hml, hown, hts⟩ (C_X1_normOf l D tys nw hn hnw hj htI htR (res := u10) g11) (cwV 1 hts (gu_V mw_131 mw_132 mw_133 mw_100 mw_123) rfl rfl rfl (by decide +kernel) ⟨Nat.le_of_ble_eq_true rfl, Nat.le_of_ble_eq_true rfl⟩) (ct_preV hn hP hK hN (ci := 1) (k := 41) rfl (by decide) rfl) rfl rfl hl.1 rfl (lv_room (Nat.le_of_ble_eq_true rfl)) dX1_leastShift_53 ⟨Nat.zero_le _, Nat.zero_le _⟩) hS (fun H locs hP hS => ?_)
        refine lv_aload_n hx hb dX1_leastShift_56 rfl (lv_at hl 0 rfl) ?_
        refine va_get (ci := 1) (v := .ref (ra ad (10 : Fin 20))) (C := RX1) (T := TX1) (N := 11) hx hb hts (fun w h => BW_in (in_wsX10 w h)) hown hK hP 41 cc_ring rfl 10 (by decide) (hts (.fieldLink RX1 49 "NumberFieldFactors$Ring" "common" "LNumberFieldFactors$Row;") (BW_in mw_60)) (fun _ h9 => h9) rfl dX1_leastShift_57 ?_
        obtain ⟨u12, g13, hf⟩ := Option.bind_eq_some_iff.mp hf
        try dsimp only at hf
        refine ct_call (va_runV (As := [.ref (ra ad u10.1), .ref (ra ad (10 : Fin 20))]) (rest := []) ⟨hx, hb, hml, hown, hts⟩ (C_X1_findSquares l D tys nw hn hnw hj htI htR (res := u12) g13) (cwV 2 hts (gu_V mw_134 mw_135 mw_136 mw_100 mw_108) rfl rfl rfl (by decide +kernel) ⟨Nat.le_of_ble_eq_true rfl, Nat.le_of_ble_eq_true rfl⟩) (ct_preV hn hP hK hN (ci := 1) (k := 41) rfl (by decide) rfl) rfl rfl hl.1 rfl (lv_room (Nat.le_of_ble_eq_true rfl)) dX1_leastShift_60 ⟨Nat.zero_le _, Nat.zero_le _⟩) hS (fun H locs hP hS => ?_)
        refine lv_aload_n hx hb dX1_leastShift_63 rfl (lv_at hl 0 rfl) ?_
        refine va_get (ci := 1) (v := .ref (ra ad (10 : Fin 20))) (C := RX1) (T := TX1) (N := 11) hx hb hts (fun w h => BW_in (in_wsX10 w h)) hown hK hP 41 cc_ring rfl 10 (by decide) (hts (.fieldLink RX1 49 "NumberFieldFactors$Ring" "common" "LNumberFieldFactors$Row;") (BW_in mw_60)) (fun _ h9 => h9) rfl dX1_leastShift_64 ?_
        obtain ⟨u14, g15, hf⟩ := Option.bind_eq_some_iff.mp hf
        try dsimp only at hf
        refine ct_call (va_runV (As := []) (rest := []) ⟨hx, hb, hml, hown, hts⟩ (C_X2_degree l D tys nw hn hnw hj htI htR (res := u14) g15) (cwV 0 hts (gu_V mw_67 mw_68 mw_69 mw_50 mw_64) rfl rfl rfl (by decide +kernel) ⟨Nat.le_of_ble_eq_true rfl, Nat.le_of_ble_eq_true rfl⟩) (ct_preV hn hP hK hN (ci := 2) (k := (20 + ((10 : Fin 20)).val)) rfl (ra_lt (10 : Fin 20)) (cl_row (10 : Fin 20))) rfl rfl hl.1 rfl (lv_room (Nat.le_of_ble_eq_true rfl)) dX1_leastShift_67 ⟨Nat.zero_le _, Nat.zero_le _⟩) hS (fun H locs hP hS => ?_)
        refine lv_if_gt (tgt := 75) hx hb dX1_leastShift_70 (by decide) (fun c16 => ?_) (fun c16 => ?_)
        · rw [if_pos c16] at hf
          refine lv_iinc (v := x2 + 1) (lv' := [(2, .int (x2 + 1)), (0, .ref (ad 41)), (1, .ref (ra ad x1))]) hx hb dX1_leastShift_75 hl (k := 2) rfl rfl (by decide) rfl (fun ls hl => ?_)
          refine lv_goto (tgt := 2) hx hb dX1_leastShift_78 (by decide) ?_
          exact ih (x2 + 1) u12 _ _ _ hP hS (lv_sub hl [1, 2, 0] rfl) hf
        · rw [if_neg c16] at hf
          refine lv_iload_n hx hb dX1_leastShift_73 rfl (lv_at hl 2 rfl) ?_
          obtain rfl := Option.some.inj hf
          exact W.iret (v := x2) hx hb hr (fun t ht hW => ⟨rfl, by rw [ht]; exact hP, hS.F ht⟩) hS.2.2 dX1_leastShift_74
  unfold f_X1_leastShift at hf
  refine lv_iconst (v := 0) hx hb dX1_leastShift_0 (by decide) ?_
  refine lv_istore_n (lv' := [(2, .int 0), (0, .ref (ad 41)), (1, .ref (ra ad p0))]) hx hb dX1_leastShift_1 rfl hl (by decide) rfl (fun ls hl => ?_)
  refine L2 p0 _ (fun y17 M18 H locs ls hP hS hl hf => ?_) fu 0 M _ _ _ hP hS (lv_sub hl [1, 2, 0] rfl) hf
  try dsimp only at hf
  refine lv_iconst (v := 0) hx hb dX1_leastShift_81 (by decide) ?_
  obtain rfl := Option.some.inj hf
  exact W.iret (v := 0) hx hb hr (fun t ht hW => ⟨rfl, by rw [ht]; exact hP, hS.F ht⟩) hS.2.2 dX1_leastShift_82
