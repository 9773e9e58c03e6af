/-! Making: an int row of the class of such rows; an object with its constructor run, put behind the world. -/
def cb (D : va_G) (tys : List (ClassId × FieldType)) (nw : List Cond) (w : va_W) (sz : Nat) (U : State) : Prop := U.heap.size = sz ∧ va_P D vwCl w U.heap ∧ va_K D vwCl tys U ∧ nw_ok nw U ∧ va_AO RX2 U ∧ va_D (fun _ => True) w
/-- a constructor's end: the world is W u -/
def cq {S : Type} (D : va_G) (w : va_W) (W : S → va_W) (sz : Nat) : Array Value → State → Outcome → State → Prop := va_Qv (fun _ : S => True) (fun u t => va_P D vwCl (W u) t.heap ∧ va_D (va_A w sz) (W u)) (va_A w sz)
theorem cb_pre {D : va_G} {tys : List (ClassId × FieldType)} {nw : List Cond} {w : va_W} {H : Heap} {s : State} {As : List Value} {A : Nat → Prop} (hn : nw.all nw_kind = true) (hP : va_P D vwCl w H) (hK : va_K D vwCl tys s) (hN : nw_ok nw s) (hAO : va_AO RX2 s) (hD : va_D A w) : PreS s H (va_Pc As (cb D tys nw w H.size)) As := by
  refine ⟨fun a U g mk q => ?_, fun U hU hW => ⟨rfl, by rw [hU], by rw [hU]; exact hP, va_K.moved hW.alike hK, nw_moved hn hW hN, va_AO.moved hW.alike hAO, hD.weaken (fun _ _ _ _ => trivial)⟩⟩
  obtain ⟨q0, q1, qP, qK, qN, qO, qD⟩ := q
  exact ⟨q0, q1, qP, va_K.moved (u := U) (U := U.calling g mk a) (Vm.Alike.refl U.vm) qK, fun w hw => va_Nw.same (u := U) (U := U.calling g mk a) (by
    have h1 := List.all_eq_true.mp hn w hw
    cases w <;> simp [nw_kind] at h1 <;> rfl) rfl (qN w hw), va_AO.moved (u := U) (U := U.calling g mk a) (Vm.Alike.refl U.vm) qO, qD⟩
theorem jn {A0 : Nat → Prop} {D : va_G} {ws w1 : va_W} {x : Nat × va_E} {H H1 : Heap} (hP : va_P D vwCl (ws ++ [x]) H) (hD : va_D A0 (ws ++ [x])) (hk : ∀ q : Nat, q < H.size → ¬ va_A [x] H.size q → H1[q]? = H[q]?) (hF : ∀ q, va_A [x] H.size q → A0 q) (hP1 : va_P D vwCl w1 H1) (hD1 : va_D (va_A [x] H.size) w1) : va_P D vwCl (ws ++ w1) H1 ∧ va_D A0 (ws ++ w1) := by
  have at1 : ∀ (k : Nat) (q : Nat × va_E), ws[k]? = some q → (ws ++ [x])[k]? = some q := fun k q h => by rw [List.getElem?_append_left (List.getElem?_eq_some_iff.mp h).1]; exact h
  have atx : (ws ++ [x])[ws.length]? = some x := by rw [List.getElem?_append_right (Nat.le_refl _), Nat.sub_self]; rfl
  have ap : ∀ (k : Nat) (q : Nat × va_E), ws[k]? = some q → q.1 < H.size ∧ ¬ va_A [x] H.size q.1 := fun k q h => by
    have hlt := (hP k q (at1 k q h)).lt
    refine ⟨hlt, fun z => ?_⟩
    rcases z with ⟨i, e, hi⟩ | z
    · match i, hi with
      | 0, hi =>
        have e1 : x = (q.1, e) := by simpa using hi
        have := hD.1 k ws.length q x (at1 k q h) atx (by rw [e1])
        have := (List.getElem?_eq_some_iff.mp h).1
        omega
      | i + 1, hi => simp at hi
    · omega
  refine ⟨va_P.app (fun k q h => (hP k q (at1 k q h)).kept (hk q.1 (ap k q h).1 (ap k q h).2)) hP1, va_D.app ⟨fun i j p q h1 h2 e => hD.1 i j p q (at1 i p h1) (at1 j q h2) e, fun k q h => hD.2 k q (at1 k q h)⟩ (hD1.weaken (fun k q _ h => hF q.1 h)) (fun i j p q h1 h2 e => (ap i p h1).2 ?_)⟩
  rw [e]
  exact hD1.2 j q h2
section CK
variable {p : Program} {l : Launch} {e : Env} {R : Room} {s : State} {m : MethodId} {args : Array Value} {below : List Frame} {meth : Method} {c : Code} {H H0 : Heap} {locs : List Loc} {cells slots : Nat} {Q : State → Prop} {cc : ByteArray} {pc : Nat} {ls : Array Slot} {rest : List Value}
variable {D : va_G} {tys : List (ClassId × FieldType)} {ws : va_W} {A : Nat → Prop}
theorem k_int (hx : p.tables.exec = Jvm.exec) (hb : c.code = cc) (harr : (Cond.arrayClass .int).before args s = true) {t0 : Nat} {cI : ClassId} (ht : tys[t0]? = some (cI, .int)) (hK : va_K D vwCl tys s) (hP : va_P D vwCl ws H) (hD : va_D A ws) (hS : va_S A H0 H locs) (hA : ∀ q, H0.size ≤ q → A q)
    {n : Int32} {N : Nat} (hn : ¬ n < 0) (hN : n.toNatClampNeg = N) (hbytes : N * 4 ≤ 536870912) (hcells : cells + 1 ≤ R.cells) (hslots : slots + N ≤ R.slots) (hdg : decode cc pc = .ok (.newarray .int, 2))
    (kk : ∀ (q : Nat) (H1 : Heap), va_P D vwCl (ws ++ [(q, .inl (cI, N, .inl (fun _ => 0)))]) H1 → va_D A (ws ++ [(q, .inl (cI, N, .inl (fun _ => 0)))]) → va_S A H0 H1 locs → W p l e R s m args below meth c H1 locs (cells + 1) (slots + N) Q (F0 m (pc + 2) ls (.ref q :: rest))) :
    W p l e R s m args below meth c H locs cells slots Q (F0 m pc ls (.int n :: rest)) := by
  refine va_newa (atype := .int) (a0 := (N, .inl (fun _ => 0))) (ty := .int) hx hb harr rfl hK hP hD hS hA (fun cA => by rw [vp_cell_i]; rfl) hn hN hbytes hcells hslots hdg (fun q cA H1 hK1 hP1 hD1 hS1 => ?_)
  have h1 := (hK1.2 tys.length (cA, .int) (by rw [List.getElem?_append_right (Nat.le_refl _), Nat.sub_self]; rfl)).2
  have h2 := (hK.2 t0 (cI, .int) ht).2
  have e : cA = cI := Option.some.inj ((show s.vm.findClass _ = some cA from h1).symm.trans (show s.vm.findClass _ = some cI from h2))
  subst e
  exact kk q H1 hP1 hD1 hS1
theorem k_ref (hx : p.tables.exec = Jvm.exec) (hb : c.code = cc) {own : String} {index : Nat} (hown : s.vm.findClass own = some m.cls) (hcl : (Cond.classLink own index RX2).before args s = true) (hAO : va_AO RX2 s) {t0 : Nat} {cR : ClassId} (ht : tys[t0]? = some (cR, .object RX2)) (hK : va_K D vwCl tys s) (hP : va_P D vwCl ws H) (hD : va_D A ws) (hS : va_S A H0 H locs) (hA : ∀ q, H0.size ≤ q → A q)
    {n : Int32} {N : Nat} (hn : ¬ n < 0) (hN : n.toNatClampNeg = N) (hbytes : N * 4 ≤ 536870912) (hcells : cells + 1 ≤ R.cells) (hslots : slots + N ≤ R.slots) (hdg : decode cc pc = .ok (.anewarray index, 3))
    (kk : ∀ (q : Nat) (H1 : Heap), va_P D vwCl (ws ++ [(q, .inl (cR, N, .inr (.inr (.inr (.inr (fun _ => none))))))]) H1 → va_D A (ws ++ [(q, .inl (cR, N, .inr (.inr (.inr (.inr (fun _ => none))))))]) → va_S A H0 H1 locs → W p l e R s m args below meth c H1 locs (cells + 1) (slots + N) Q (F0 m (pc + 3) ls (.ref q :: rest))) :
    W p l e R s m args below meth c H locs cells slots Q (F0 m pc ls (.int n :: rest)) := by
  refine va_newq hx hb hown hcl hAO hK hP hD hS hA hn hN hbytes hcells hslots hdg (fun q cA H1 hK1 hP1 hD1 hS1 => ?_)
  obtain ⟨_, _, _, _, _, h1⟩ := (hK1.2 tys.length (cA, .object RX2) (by rw [List.getElem?_append_right (Nat.le_refl _), Nat.sub_self]; rfl)).2
  obtain ⟨_, _, _, _, _, h2⟩ := (hK.2 t0 (cR, .object RX2) ht).2
  have e : cA = cR := Option.some.inj (h1.symm.trans h2)
  subst e
  exact kk q H1 hP1 hD1 hS1
theorem k_new {C : String} {T : u_T} {N ci index : Nat} {own : String} {Ts : List Cond} (hx : p.tables.exec = Jvm.exec) (hb : c.code = cc) (hts : ∀ w ∈ Ts, w.before args s = true) (hin : ∀ w ∈ u_ws C T N, w ∈ Ts) (ty : Nat → FieldType) (hty : ∀ k, k < N → parseFieldDescriptor (T k).2.2.1 = some (ty k)) (hown : s.vm.findClass own = some m.cls) (hcl : (Cond.classLink own index C).before args s = true) (hinst : (Cond.instantiable C N).before args s = true) (hini : (Cond.initialized C).before args s = true)
    (hK : va_K D vwCl tys s) (hP : va_P D vwCl ws H) (hD : va_D A ws) (hS : va_S A H0 H locs) (hA : ∀ q, H0.size ≤ q → A q) (hc : vwCl[ci]? = some (C, T, N)) {fs : List Value} (hfs : ∀ j, j < N → defaultValue (ty j) = vp_V fs j) (hcells : cells + 1 ≤ R.cells) (hslots : slots + N ≤ R.slots) (d0 : decode cc pc = .ok (.new index, 3)) (d1 : decode cc (pc + 3) = .ok (.dup, 1)) {nw : List Cond} (hn : nw.all nw_kind = true) (hN : nw_ok nw s) (hAO : va_AO RX2 s) {S : Type} {mc ms : Nat} (W' : Nat → S → va_W)
    (go : ∀ (q : Nat) (H : Heap), PreS s H (va_Pc [.ref q] (cb D tys nw [(q, .inr (ci, fs))] H.size)) [.ref q] → va_Run p l e R s m args below meth c H locs (cells + 1) (slots + N) mc ms (F0 m (pc + 4) ls (.ref q :: .ref q :: rest)) (.ref q :: rest) (cq D [(q, .inr (ci, fs))] (W' q) H.size [Value.ref q].toArray) (va_A [(q, .inr (ci, fs))] H.size))
    (kk : ∀ (q : Nat) (u : S) (H1 : Heap) (locs1 : List Loc), va_P D vwCl (ws ++ W' q u) H1 → va_D A (ws ++ W' q u) → va_S A H0 H1 locs1 → W p l e R s m args below meth c H1 locs1 (cells + 1 + mc) (slots + N + ms) Q (F0 m (pc + 7) ls (.ref q :: rest))) :
    W p l e R s m args below meth c H locs cells slots Q (F0 m pc ls rest) := by
  refine va_new (ci := ci) (fs := fs) (C := C) (T := T) (N := N) hx hb hts hin ty hty hown hcl hinst hini hK hP hD hS hA hc hfs hcells hslots d0 (fun q H hP hD hS => ?_)
  refine lv_dup hx hb d1 rfl ?_
  have hPc : va_P D vwCl [(q, .inr (ci, fs))] H := fun k z hk => by
    match k, hk with
    | 0, hk => exact hP ws.length z (by rw [List.getElem?_append_right (Nat.le_refl _), Nat.sub_self]; exact hk)
    | k + 1, hk => simp at hk
  have hDc : va_D (fun _ => True) [(q, (.inr (ci, fs) : va_E))] := ⟨fun i j _ _ h1 h2 _ => by
    have := (List.getElem?_eq_some_iff.mp h1).1
    have := (List.getElem?_eq_some_iff.mp h2).1
    simp at *
    omega, fun _ _ _ => trivial⟩
  have hF : ∀ z, va_A [(q, (.inr (ci, fs) : va_E))] H.size z → A z := fun z hz => by
    rcases hz with ⟨k, ee, hk⟩ | hz
    · match k, hk with
      | 0, hk =>
        have := hD.2 ws.length (z, ee) (by rw [List.getElem?_append_right (Nat.le_refl _), Nat.sub_self]; exact hk)
        exact this
      | k + 1, hk => simp at hk
    · exact hA z (Nat.le_trans hS.1 hz)
  refine va_callv (pc := pc + 4) (go q H (cb_pre hn hPc hK hN hAO hDc)) hS (fun z _ h => hF z h) hF (fun u t H1 locs1 ht hvm _ hB hz1 hk1 hS1 => ?_)
  obtain ⟨hP1, hD1⟩ := hB
  rw [ht] at hP1
  obtain ⟨hP2, hD2⟩ := jn hP hD hk1 hF hP1 hD1
  exact kk q u H1 locs1 hP2 hD2 hS1
end CK
