/-! THE CLAIM OUT OF ONE WALK OF THE LAW'S BODY. Your part is whole_start (and what it stands on); all else here is the same for every law, but numbers. -/
def R_law : String := "NumberFieldFactorsLaw"
def lw_P (b : Addr) (xs : List Int32) (args : Array Value) (s : State) : Prop := args = #[.ref b] ∧ s.IntsAt b xs ∧ xs.length ≤ 4096 ∧ (Jvm.Cond.and given_1 narrow_1).before args s = true
def lw_Q (_ : Array Value) (s : State) (o : Outcome) (t : State) : Prop := o = .returned (some (.int 1)) ∧ Framed s o t [] 636428 7186819
def lw_Z (below : List Frame) (a : Array Value) (s : State) : State → Prop := fun t => ∃ o, t.status = .running ∧ Ended t below o ∧ lw_Q a s o t
/-- the law's own end, with 1 on the stack, nothing written that was there before, its room as the claim has it -/
theorem lw_ret {p : Program} {l : Launch} {e : Env} {s : State} {m : MethodId} {below : List Frame} {meth : Method} {c : Code} {b : Nat} (hx : p.tables.exec = Jvm.exec) (hb : c.code = code) (hr : meth.sig.returnType = ret) (hlocks : meth.locks = false) {pc : Nat} {H : Heap} {ls : Array Slot} (hdg : decode code pc = .ok (.ireturn, 1)) : W p l e room_1 s m #[Value.ref b] below meth c H [] 636428 7186819 (lw_Z below #[Value.ref b] s) (F0 m pc ls [.int 1]) := by
  intro T hT X
  obtain ⟨fs, hret, hrun, hended, hW, hframe⟩ := X.leave (v := some (.int 1)) (hlocks := hlocks) (fun h => by rw [hr] at h; cases h)
  have hmeth' : T.vm.method? m = some meth := X.method'
  refine ⟨T.setFrames fs, ?_, .returned (some (.int 1)), hrun, hended, rfl, ⟨_, rfl⟩, hW, hframe⟩
  jvm_step X.here [X.here.top, hx, hb, hdg, hmeth', hr, ret, narrow_b1]
  (try refine ⟨rfl, ?_⟩); (try refine ⟨rfl, ?_⟩)
  first | (intro acts; rw [hret _ acts rfl rfl rfl]) | rw [hret _ _ rfl rfl rfl]
  exact Steps.refl _
/-- what holds at the law's entry: the machine, the code, the tables' words (any of lw_tbl by 'hts w (by decide +kernel)'), the script of L ints xs at the cell b, what the Statement gives of the start (any of its parts by flat_of_before) -/
def lw_At (p : Program) (s : State) (m : MethodId) (meth : Method) (c : Code) (b L : Nat) (xs : Nat → Int32) : Prop :=
  p.tables.exec = Jvm.exec ∧ c.code = code ∧ meth.sig.returnType = ret ∧ c.maxLocals = 7 ∧ s.vm.findClass R_law = some m.cls ∧ (∀ w ∈ lw_tbl, w.before #[Value.ref b] s = true) ∧ va_X b L xs s s.heap ∧ b < s.heap.size ∧ meth.locks = false ∧ (Jvm.Cond.and given_1 narrow_1).before #[Value.ref b] s = true
/-! What holds at the law's entry, in the words of the class's and the reference's contracts. -/
theorem tb_nw1 : ∀ w ∈ nw1, w ∈ lw_tbl := by decide +kernel
theorem tb_str : ∀ q ∈ x4_strs, Cond.stringRef RX4 q.1 q.2 ∈ lw_tbl := by decide +kernel
theorem tb_cls : ∀ X ∈ x4_cls, Cond.castable X X ∈ lw_tbl := by decide +kernel
theorem tb_sup : ∀ X ∈ x4_sup, Cond.declares (Bundle.initS X) ∈ lw_tbl := by decide +kernel
theorem nw1_kind : nw1.all nw_kind = true := by decide +kernel
theorem arr_prim {s : State} {args : Array Value} {ty : FieldType} (hp : (match ty with | .object _ => false | _ => true) = true) (h : (Cond.arrayClass ty).before args s = true) : ∃ cA, ArrOfT s cA ty ∧ va_RA s cA ty := by
  obtain ⟨cA, k, comp, h1, h2, h3⟩ := Cond.arrayClass_spec h
  refine ⟨cA, fun n z => ⟨fun k h => (by cases h), k, h2, comp, h3⟩, ?_⟩
  cases ty with
  | object C => simp at hp
  | _ => exact h1
theorem arr_obj {s : State} {args : Array Value} {C : String} (h : (Cond.arrayOver (.object C)).before args s = true) : ∃ cA, ArrOfT s cA (.object C) ∧ va_RA s cA (.object C) := by
  obtain ⟨comp, cA, k, h0, h1, h2, h3, h4⟩ := Cond.arrayOver_spec h
  exact ⟨cA, fun n z => ⟨fun k h => (by cases h), k, h2, comp, h3⟩, k, comp, h2, h3, h0, h4⟩
theorem str_at {s : State} {args : Array Value} {k : Nat} {tx : String} {cur : ClassId} (hc : s.vm.findClass RX4 = some cur) (h : (Cond.stringRef RX4 k tx).before args s = true) : ∃ a, vk_R RX4 k tx a s := by
  have h1 : (Cond.stringRef RX4 k tx).before #[] s = true := h
  obtain ⟨_, _, _, a, _, _, _, _, _, h2⟩ := Cond.stringRef_spec hc h1
  exact ⟨a, h1, h2⟩
theorem law_facts {p : Program} {s : State} {m : MethodId} {meth : Method} {c : Code} {b L : Nat} {xs : Nat → Int32} (C0 : lw_At p s m meth c b L xs) : ∃ (D : va_G) (cI cR cL : ClassId), va_K D vwCl [(cI, .int), (cR, .object RX2), (cL, .long)] s ∧ nw_ok nw1 s ∧ va_AO RX2 s ∧ ts_ok (fun q : Nat => s.heap.size ≤ q) s s.heap ∧ nc_ok s := by
  obtain ⟨hx, hb, hr, hml, hown, hts, hX, hbl, hlocks, hgv⟩ := C0
  have hs := flat_of_before _ hgv
  obtain ⟨c0, i0, k0⟩ := u_known (C := RX0) (T := TX0) (N := 8) (n := 8) hts tb_wsX00 (hts _ (tb_BW _ mw_46))
  obtain ⟨c1, i1, k1⟩ := u_known (C := RX1) (T := TX1) (N := 11) (n := 11) hts tb_wsX10 (hts _ (tb_BW _ mw_207))
  obtain ⟨c2, i2, k2⟩ := u_known (C := RX2) (T := TX2) (N := 1) (n := 1) hts tb_wsX20 (hts _ (tb_BW _ mw_49))
  obtain ⟨c3, i3, k3⟩ := u_known (C := RX3) (T := TX3) (N := 8) (n := 8) hts tb_wsX30 (hts _ (tb_BW _ mw_210))
  obtain ⟨c4, i4, k4⟩ := u_known (C := RX4) (T := TX4) (N := 3) (n := 3) hts tb_wsX40 (hts _ (tb_BW _ mw_540))
  obtain ⟨c5, i5, k5⟩ := u_known (C := RX5) (T := TX5) (N := 10) (n := 10) hts tb_wsX50 (hts _ (tb_BW _ mw_542))
  have hAO : (Cond.arrayOver (.object RX2)).before #[Value.ref b] s = true := hts _ (by decide +kernel)
  obtain ⟨cI, aI⟩ := arr_prim (ty := .int) rfl (hts _ (tb_BW _ mw_42))
  obtain ⟨cL, aL⟩ := arr_prim (ty := .long) rfl (hts _ (tb_BW _ mw_543))
  obtain ⟨cR, aR⟩ := arr_obj hAO
  refine ⟨(fun k => [c0, c1, c2, c3, c4, c5].getD k 0, fun k => [i0, i1, i2, i3, i4, i5].getD k (fun _ => 0)), cI, cR, cL, ⟨fun k q hq => ?_, fun k q hq => ?_⟩, fun w hw => va_Nw.of ?_ (hts w (tb_nw1 w hw)), va_AO.of (A := #[Value.ref b]) ?_, ⟨fun q hq => ?_, ⟨fun X hX => va_Nw.of rfl (hts _ (tb_cls X hX)), fun X hX => va_Nw.of rfl (hts _ (tb_sup X hX))⟩, ?_, ?_⟩, ?_, ?_, ?_⟩
  · match k, hq with
    | 0, hq => cases hq; exact k0
    | 1, hq => cases hq; exact k1
    | 2, hq => cases hq; exact k2
    | 3, hq => cases hq; exact k3
    | 4, hq => cases hq; exact k4
    | 5, hq => cases hq; exact k5
    | k + 6, hq => simp at hq
  · match k, hq with
    | 0, hq => cases hq; exact aI
    | 1, hq => cases hq; exact aR
    | 2, hq => cases hq; exact aL
    | k + 3, hq => simp at hq
  · have h1 := List.all_eq_true.mp nw1_kind w hw
    cases w <;> simp [nw_kind] at h1 <;> rfl
  · exact hAO
  · exact str_at k4.2.1 (hts _ (tb_str q hq))
  · exact vx_Zqof (hts _ (by decide +kernel)) (hts _ (by decide +kernel)) (hs _ (by decide +kernel)) (fun a h1 h2 => by omega)
  · exact vx_Zqof (hts _ (by decide +kernel)) (hts _ (by decide +kernel)) (hs _ (by decide +kernel)) (fun a h1 h2 => by omega)
  · exact va_Nc.of (hs (.not (.castable "java/lang/IllegalArgumentException" "java/lang/IndexOutOfBoundsException")) (by decide +kernel))
  · exact va_Nc.of (hs (.not (.castable "java/lang/ArithmeticException" "java/lang/IllegalArgumentException")) (by decide +kernel))
  · exact va_Nc.of (hs (.not (.castable "java/lang/IndexOutOfBoundsException" "java/lang/IllegalStateException")) (by decide +kernel))
