/-! Throws of the class: what a state holds for them, and how they go on to the caller. -/
def x4_strs : List (Nat × String) := [(32, "k isn't 1 .. 3"), (59, "the modulus has powers 0 .. 3"), (80, "no such kind"), (84, "a quotient by 0"), (104, "no such what"), (122, "a least polynomial has powers 0 .. 3"), (176, "a polynomial has powers 0 .. 5"), (178, "no such element"), (185, "f is 0"), (188, "no such factor")]
def x4_cls : List String := ["java/lang/IllegalArgumentException", "java/lang/IndexOutOfBoundsException", "java/lang/ArithmeticException", "java/lang/IllegalStateException"]
def x4_sup : List String := ["java/lang/RuntimeException", "java/lang/Exception", Bundle.tN]
def ts_ok (A : Nat → Prop) (U : State) (H : Heap) : Prop := (∀ q ∈ x4_strs, ∃ a, vk_R RX4 q.1 q.2 a U) ∧ ((∀ X ∈ x4_cls, va_Nw (.castable X X) U) ∧ ∀ X ∈ x4_sup, va_Nw (.declares (Bundle.initS X)) U) ∧ vx_Zq Bundle.tN "UNASSIGNED_STACK" Bundle.steD A U H ∧ vx_Zq Bundle.tN "SUPPRESSED_SENTINEL" Bundle.listD A U H
theorem cast_moved {X Y : String} {s U : State} (h : s.vm.Alike U.vm) (hc : va_Nw (.castable X Y) s) : va_Nw (.castable X Y) U := by
  unfold va_Nw at *
  simp only [Cond.before, Cond.holds, Cond.value] at hc ⊢
  rw [h.findClass, h.findClass]
  cases ha : s.vm.findClass X with
  | none => simp [ha] at hc
  | some x =>
    cases hb : s.vm.findClass Y with
    | none => simp [ha, hb] at hc
    | some y =>
      simp only [ha, hb] at hc ⊢
      rw [h.assignable]; exact hc
theorem ts_moved {A : Nat → Prop} {s U : State} {H : Heap} {locs : List Loc} (h : ts_ok A s s.heap) (hS : va_S A s.heap H locs) (hW : s.WarmedH U.vm) : ts_ok A U H := by
  obtain ⟨h1, h2, h3, h4⟩ := h
  refine ⟨fun q hq => ?_, ⟨fun X hX => cast_moved hW.alike (h2.1 X hX), fun X hX => va_Nw.warmD hW (h2.2 X hX)⟩, (h3.kept hS.2.1).moved hW.alike, (h4.kept hS.2.1).moved hW.alike⟩
  obtain ⟨a, ha⟩ := h1 q hq
  exact ⟨a, ha.warm hW⟩
def ws_Bt (D : va_G) (tys : List (ClassId × FieldType)) (nw : List Cond) (A : Nat → Prop) (w : va_W) (U : State) : Prop := ws_B D tys nw w U ∧ ts_ok A U U.heap
/-- the end of a method that throws E: the world is w', nothing else has changed -/
def xt_Q (D : va_G) (w' : va_W) (A : Nat → Prop) (E : String) : String → State → State → Prop := fun E' st t => E' = E ∧ va_P D vwCl w' t.heap ∧ va_F A st t
theorem xt_pre {D : va_G} {tys : List (ClassId × FieldType)} {nw : List Cond} {A : Nat → Prop} {w : va_W} {H : Heap} {s : State} {locs : List Loc} (hn : nw.all nw_kind = true) (hP : va_P D vwCl w H) (hK : va_K D vwCl tys s) (hN : nw_ok nw s) (hT : ts_ok A s s.heap) (hS : va_S A s.heap H locs) {av : List Value} :
    FrameBlind (va_Pc av (ws_Bt D tys nw A w)) ∧ ∀ U : State, U.heap = H → s.WarmedH U.vm → va_Pc av (ws_Bt D tys nw A w) av.toArray U := by
  obtain ⟨h1, h2⟩ := ct_pre (av := av) hn hP hK hN
  refine ⟨fun a U g mk q => ?_, fun U hU hW => ⟨rfl, (h2 U hU hW).2, by rw [hU]; exact ts_moved hT hS hW⟩⟩
  obtain ⟨q0, qB, q1, q2, q3, q4⟩ := q
  refine ⟨q0, (h1 a U g mk ⟨q0, qB⟩).2, fun z hz => ?_, ⟨fun X hX => va_Nw.same (u := U) (U := U.calling g mk a) rfl rfl (q2.1 X hX), fun X hX => va_Nw.same (u := U) (U := U.calling g mk a) rfl rfl (q2.2 X hX)⟩, q3.moved (u := U) (U := U.calling g mk a) (Vm.Alike.refl U.vm), q4.moved (u := U) (U := U.calling g mk a) (Vm.Alike.refl U.vm)⟩
  obtain ⟨b, hb⟩ := q1 z hz
  exact ⟨b, vk_R.same (u := U) (U := U.calling g mk a) rfl hb⟩
theorem xt_preV {D : va_G} {tys : List (ClassId × FieldType)} {nw : List Cond} {A : Nat → Prop} {n : Nat} {ad : Nat → Nat} {c : Nat → va_E} {H : Heap} {s : State} {locs : List Loc} {As : List Value} {ci k : Nat} {q : vw_C} {fs : List Value} (hn : nw.all nw_kind = true) (hP : va_P D vwCl (ww n ad c) H) (hK : va_K D vwCl tys s) (hN : nw_ok nw s) (hT : ts_ok A s s.heap) (hS : va_S A s.heap H locs) (hc : vwCl[ci]? = some q) (hk : k < n) (he : c k = .inr (ci, fs)) :
    PreV s H q.1 (ad k) (va_Pc (.ref (ad k) :: As) (ws_Bt D tys nw A (ww n ad c))) As := by
  obtain ⟨h1, h2⟩ := xt_pre (av := .ref (ad k) :: As) hn hP hK hN hT hS
  exact ⟨h1, va_recv hK hP hc (q0 := k) (fs := fs) (by rw [ww_get hk, he]), h2⟩
section XT
variable {p : Program} {l : Launch} {e : Env} {R : Room} {s : State} {m : MethodId} {args : Array Value} {below : List Frame} {meth : Method} {c : Code} {H : Heap} {locs : List Loc}
variable {pc : Nat} {ls : Array Slot} {rest st0 : List Value} {A : Nat → Prop}
theorem xt_prop {D : va_G} {w' : va_W} {E : String} {Qc : Array Value → State → Outcome → State → Prop} (hr : vx_Run p l e R s m args below meth c H locs 0 0 1 6 (F0 m pc ls st0) rest (fun _ _ _ => False) (xt_Q D w' A E) A) (hS : va_S A s.heap H locs) (hx0 : ∀ x ∈ c.exceptionTable.toList, False) (hlocks : meth.locks = false) :
    W p l e R s m args below meth c H locs 0 0 (vx_MQ below Qc (xt_Q D w' A E) args s 1 6 A) (F0 m pc ls st0) := by
  intro T hT X
  rcases hr T hT X with ⟨v, st₀, t, T', L, h0, X', hL, e1, e2, hq, st⟩ | ⟨q, st₀, t, T', L, E', ce, h0, X', hL, e1, e2, ⟨hE, hp, hF⟩, hce, hcv, hcl, st⟩
  · exact hq.elim
  · obtain ⟨k1, k2, k3⟩ := vx_keep h0 e1 hS (fun q _ h => h) (fun q h => h) hL hF
    have kk : vx_W p l e R s m args below meth c T'.heap (locs ++ L) (0 + 1) (0 + 6) (vx_MQ below Qc (xt_Q D w' A E) args s 1 6 A) (F0 m pc ls rest) q :=
      vx_out (fun x h => (hx0 x h).elim) hlocks (by rw [e1]; exact hce) hcv hcl (fun t2 ht2 ha => ⟨hE, by rw [ht2, e1]; exact hp, k3.F ht2⟩) k3.2.2 (Nat.le_refl _) (Nat.le_refl _)
    obtain ⟨t2, a1, b1⟩ := kk T' rfl X'
    exact ⟨t2, st.trans a1, b1⟩
end XT
/-- behind a throw: the new cell aside nothing has changed -/
theorem xt_thrown {D : va_G} {w : va_W} {A : Nat → Prop} {E : String} {s t : State} {H : Heap} {locs : List Loc} (hP : va_P D vwCl w H) (hS : va_S A s.heap H locs) (hz : H.size ≤ t.heap.size) (hk : ∀ q : Nat, q < H.size → t.heap[q]? = H[q]?) : xt_Q D w A E E s t :=
  ⟨rfl, hP.kept (fun k q hq => hk _ (hP k q hq).lt), Nat.le_trans hS.1 hz, fun q h1 h2 => by rw [hk q (Nat.lt_of_lt_of_le h1 hS.1)]; exact hS.2.1 q h1 h2⟩
theorem xt_ng {args : Array Value} {s : State} {X : String} (h1 : va_Nw (.castable X X) s) (h2 : ∀ X ∈ x4_sup, va_Nw (.declares (Bundle.initS X)) s) : ∀ w ∈ Cond.castable X X :: x4_sup.map (fun X => .declares (Bundle.initS X)), w.before args s = true := by
  intro w h
  rcases List.mem_cons.mp h with rfl | h
  · exact va_Nw.use rfl h1
  · obtain ⟨Y, hY, rfl⟩ := List.mem_map.mp h
    exact va_Nw.use rfl (h2 Y hY)
