/-! An exception that a callee threw, taken by a row of the method's own table: the first row, or the second when the first names another class. -/
section CG
variable {e : Env} {S : State} {f : JFrame} {q : Addr} {Q : Handler → Pre} {E : CtlPost} {d : Bool} {acts : List Action}
theorem cg_seen {c cx : ClassId} {k1 k2 : Class} {b : Bool} {i : Nat} (h1 : S.vm.classes[cx]? = some k1) (h2 : S.vm.classes[c]? = some k2) (h3 : S.vm.assignable cx c = b) : ∃ z1 z2, (S.vm.noted f.method.cls i (.cls c)).classes[cx]? = some z1 ∧ (S.vm.noted f.method.cls i (.cls c)).classes[c]? = some z2 ∧ (S.vm.noted f.method.cls i (.cls c)).assignable cx c = b := by
  have al : S.vm.Alike (S.vm.noted f.method.cls i (.cls c)) := (Vm.Alike.refl S.vm).noted _ _ _
  obtain ⟨z1, y1, -⟩ := al.2.2 _ _ h1
  obtain ⟨z2, y2, -⟩ := al.2.2 _ _ h2
  exact ⟨z1, z2, y1, y2, by rw [al.assignable]; exact h3⟩
theorem cg_hit {x : ExceptionTableEntry} {t : List ExceptionTableEntry} {c : ClassId} {ce : Cell} {k1 k2 : Class} (hx : covers x f.pc = true) (h0 : x.catchType ≠ 0) (hl : S.vm.ClassLinks e.platform f.method.cls x.catchType c) (hq : S.heap[q]? = some ce) (hv : ∀ k, ce.vm ≠ .statics k) (h1 : S.vm.classes[ce.cls]? = some k1) (h2 : S.vm.classes[c]? = some k2) (h3 : S.vm.assignable ce.cls c = true) :
    wp (findHandler.go f q (x :: t)) Q E e d acts S ↔ Q (.found x.handlerPc) d acts (S.setVm (S.vm.noted f.method.cls x.catchType (.cls c))) := by
  obtain ⟨z1, z2, y1, y2, y3⟩ := cg_seen (f := f) (i := x.catchType) h1 h2 h3
  obtain ⟨o1, o2⟩ := (resolveClass_links e.toSetting hl).op (op := VmOp.resolveClass f.method.cls x.catchType) rfl
  simp only [covers] at hx
  simp [findHandler.go, hx, h0, o1, o2, hq, hv, y1, y2, y3, VmOp.dirties, VmOp.acts]
theorem cg_pass {x : ExceptionTableEntry} {t : List ExceptionTableEntry} {c : ClassId} {ce : Cell} {k1 k2 : Class} (hx : covers x f.pc = true) (h0 : x.catchType ≠ 0) (hl : S.vm.ClassLinks e.platform f.method.cls x.catchType c) (hq : S.heap[q]? = some ce) (hv : ∀ k, ce.vm ≠ .statics k) (h1 : S.vm.classes[ce.cls]? = some k1) (h2 : S.vm.classes[c]? = some k2) (h3 : S.vm.assignable ce.cls c = false) :
    wp (findHandler.go f q (x :: t)) Q E e d acts S ↔ wp (findHandler.go f q t) Q E e d acts (S.setVm (S.vm.noted f.method.cls x.catchType (.cls c))) := by
  obtain ⟨z1, z2, y1, y2, y3⟩ := cg_seen (f := f) (i := x.catchType) h1 h2 h3
  obtain ⟨o1, o2⟩ := (resolveClass_links e.toSetting hl).op (op := VmOp.resolveClass f.method.cls x.catchType) rfl
  simp only [covers] at hx
  simp [findHandler.go, hx, h0, o1, o2, hq, hv, y1, y2, y3, VmOp.dirties, VmOp.acts]
end CG
/-- the search ends at pc, with the tables vm' -/
def cg_F (e : Env) (S : State) (f : JFrame) (q : Addr) (pc : Nat) (vm' : Vm) : Prop := ∀ (Q : Handler → Pre) (E : CtlPost) (d : Bool) (acts : List Action), wp (findHandler f q) Q E e d acts S ↔ Q (.found pc) d acts (S.setVm vm')
section CH
variable {p : Program} {l : Launch} {e : Env} {R : Room} {s : State} {m : MethodId} {args : Array Value} {below : List Frame} {meth : Method} {c : Code} {T : State} {locs : List Loc} {cells slots : Nat}
theorem cg_step {S : State} {f : JFrame} {q : Addr} {pc : Nat} {vm' : Vm} {r : List Frame} (h : cg_F e S f q pc vm') : (stepThrowing e S q (.java f :: r)).Is ((S.setVm vm').setFrames (.java { f with pc := pc, stack := [.ref q] } :: r)) [] := by
  simp only [stepThrowing, searchFrame, vmDo]
  generalize hr : Sem.go _ e false [] S = res
  obtain ⟨w, rfl, hw⟩ := Sem.eq_ok_of hr (a := Handler.found pc) (s' := S.setVm vm') (acts' := []) (by simp [h _ _ _ _])
  exact ⟨rfl, hw⟩
theorem cg_to (X : Stand p l e R s m args below meth c T locs cells slots) {g : JFrame} (hg : g.method = m) {q : Addr} {pc : Nat} {vm' : Vm} (h : cg_F e ((T.setTop g).pushFrame (.throwing q)) g q pc vm') {target : State} (hr : Steps p.tables e below ((T.setVm vm').setTop { g with pc := pc, stack := [.ref q] }) target) :
    Steps p.tables e below ((T.setTop g).pushFrame (.throwing q)) target := by
  have h0 : At T g.method c below := by rw [hg]; exact X.here
  obtain ⟨go, hw⟩ := h0.throwing q
  refine Steps.head go hw ?_
  rw [stepThread_throwing (frames_entered h0.top _), (cg_step h).1]
  obtain ⟨g0, hg0⟩ := Option.isSome_iff_exists.mp h0.top
  obtain ⟨r, hf⟩ := State.topJava?_eq_some.mp hg0
  have hf' : (T.setVm vm').frames = .java g0 :: r := hf
  rw [State.setTop_of_frames _ hf'] at hr
  have e1 : ∀ (u : State) (F G : List Frame), ((u.setFrames F).setVm vm').setFrames G = (u.setVm vm').setFrames G := fun u F G => by
    rw [show (u.setFrames F).setVm vm' = (u.setVm vm').setFrames F from rfl, State.setFrames_setFrames]
  rw [hf, List.tail_cons, State.pushFrame, e1, State.setTop_of_frames _ hf, e1]
  exact hr
/-- a class that the tables can link, as the state has it now -/
theorem cg_cls (X : Stand p l e R s m args below meth c T locs cells slots) {own nm : String} {i : Nat} (hown : s.vm.findClass own = some m.cls) (hl : (Cond.classLink own i nm).before args s = true) {cx : ClassId} {b : Bool} (hc : ∀ cn, s.vm.findClass nm = some cn → s.vm.assignable cx cn = b) :
    ∃ cn kn, T.vm.ClassLinks e.platform m.cls i cn ∧ T.vm.classes[cn]? = some kn ∧ T.vm.assignable cx cn = b ∧ s.WarmedH (T.vm.noted m.cls i (.cls cn)) := by
  have hpl : e.platform.magicAccessors = ({} : Platform).magicAccessors := by rw [X.admits.platform]
  obtain ⟨cn, h1, h2⟩ := Cond.classLink_spec hown hl e.platform hpl
  obtain ⟨dk, _, _, kt, hd, _, _, _, _, hkt, _, hopen⟩ := h2.here
  obtain ⟨kt', hkt', -⟩ := X.warmed.alike.2.2 _ _ hkt
  exact ⟨cn, kt', X.warmed.classLinks h2, hkt', by rw [X.warmed.alike.assignable]; exact hc cn h1, X.warmed.noted hd hopen (State.rightAt_cls h2)⟩
theorem cg_not {X Y : String} {cx : ClassId} (h : va_Nc X Y s) (hx : s.vm.findClass X = some cx) : ∀ cn, s.vm.findClass Y = some cn → s.vm.assignable cx cn = false := fun cn hn => by
  obtain ⟨a, b, h1, h2, h3⟩ := h
  cases Option.some.inj (h1.symm.trans hx)
  cases Option.some.inj (h2.symm.trans hn)
  exact h3
theorem cg_is {X Y : String} {cx : ClassId} (h : (Cond.castable X Y).before args s = true) (hx : s.vm.findClass X = some cx) : ∀ cn, s.vm.findClass Y = some cn → s.vm.assignable cx cn = true := fun cn hn => by
  obtain ⟨a, b, h1, h2, h3⟩ := Cond.castable_spec h
  cases Option.some.inj (h1.symm.trans hx)
  cases Option.some.inj (h2.symm.trans hn)
  exact h3
variable {H : Heap} {Q : State → Prop} {ls : Array Slot} {rest : List Value} {pc : Nat}
/-- the first row takes it -/
theorem cg_1 {own nm Ex : String} {ce : Cell} {q : Addr} (hown : s.vm.findClass own = some m.cls) {x : ExceptionTableEntry} {t : List ExceptionTableEntry} (ht : c.exceptionTable.toList = x :: t) (hx : covers x pc = true) (h0 : x.catchType ≠ 0) (hl : (Cond.classLink own x.catchType nm).before args s = true) (hcast : (Cond.castable Ex nm).before args s = true) (hq : H[q]? = some ce) (hv : ce.vm = .none) (hcl : s.vm.findClass Ex = some ce.cls)
    (kk : W p l e R s m args below meth c H locs cells slots Q (F0 m x.handlerPc ls [.ref q])) : vx_W p l e R s m args below meth c H locs cells slots Q (F0 m pc ls rest) q := by
  intro T hT X
  obtain ⟨cn, kn, h1, h2, h3, h4⟩ := cg_cls X hown hl (cg_is hcast hcl)
  obtain ⟨k9, h9, -⟩ := Vm.findClass_spec hcl
  obtain ⟨k8, h8, -⟩ := X.warmed.alike.2.2 _ _ h9
  obtain ⟨t2, a1, b1⟩ := kk (T.setVm (T.vm.noted m.cls x.catchType (.cls cn))) hT (X.noted h4)
  refine ⟨t2, cg_to X (g := F0 m pc ls rest) rfl (fun Q E d acts => ?_) a1, b1⟩
  rw [W.findHandler_eq (meth := meth) (code := c) X.method' X.code, ht]
  exact cg_hit (S := (T.setTop (F0 m pc ls rest)).pushFrame (.throwing q)) (f := F0 m pc ls rest) hx h0 h1 (by show T.heap[q]? = some ce; rw [hT]; exact hq) (fun k => by rw [hv]; intro z; cases z) h8 h2 h3
/-- the first row names another class, the second takes it -/
theorem cg_2 {own nm nm' Ex : String} {ce : Cell} {q : Addr} (hown : s.vm.findClass own = some m.cls) {y x : ExceptionTableEntry} {t : List ExceptionTableEntry} (ht : c.exceptionTable.toList = y :: x :: t) (hy : covers y pc = true) (y0 : y.catchType ≠ 0) (hly : (Cond.classLink own y.catchType nm').before args s = true) (hno : va_Nc Ex nm' s) (hx : covers x pc = true) (h0 : x.catchType ≠ 0) (hl : (Cond.classLink own x.catchType nm).before args s = true) (hcast : (Cond.castable Ex nm).before args s = true) (hq : H[q]? = some ce) (hv : ce.vm = .none) (hcl : s.vm.findClass Ex = some ce.cls)
    (kk : W p l e R s m args below meth c H locs cells slots Q (F0 m x.handlerPc ls [.ref q])) : vx_W p l e R s m args below meth c H locs cells slots Q (F0 m pc ls rest) q := by
  intro T hT X
  obtain ⟨cy, ky, g1, g2, g3, g4⟩ := cg_cls X hown hly (cg_not hno hcl)
  obtain ⟨k9, h9, -⟩ := Vm.findClass_spec hcl
  obtain ⟨k8, h8, -⟩ := X.warmed.alike.2.2 _ _ h9
  have X2 := X.noted g4
  obtain ⟨cn, kn, h1, h2, h3, h4⟩ := cg_cls X2 hown hl (cg_is hcast hcl)
  obtain ⟨k7, h7, -⟩ := X2.warmed.alike.2.2 _ _ h9
  obtain ⟨t2, a1, b1⟩ := kk ((T.setVm (T.vm.noted m.cls y.catchType (.cls cy))).setVm ((T.vm.noted m.cls y.catchType (.cls cy)).noted m.cls x.catchType (.cls cn))) hT (X2.noted h4)
  refine ⟨t2, cg_to X (g := F0 m pc ls rest) rfl (fun Q E d acts => ?_) a1, b1⟩
  have hq' : T.heap[q]? = some ce := by rw [hT]; exact hq
  rw [W.findHandler_eq (meth := meth) (code := c) X.method' X.code, ht, cg_pass (S := (T.setTop (F0 m pc ls rest)).pushFrame (.throwing q)) (f := F0 m pc ls rest) hy y0 g1 hq' (fun k => by rw [hv]; intro z; cases z) h8 g2 g3]
  exact cg_hit (S := ((T.setTop (F0 m pc ls rest)).pushFrame (.throwing q)).setVm (T.vm.noted m.cls y.catchType (.cls cy))) (f := F0 m pc ls rest) hx h0 h1 hq' (fun k => by rw [hv]; intro z; cases z) h7 h2 h3
end CH
