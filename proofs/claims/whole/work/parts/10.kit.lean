/-! A world of n cells at the addresses ad 0 .. ad (n - 1), with the contents c. -/
def ww (n : Nat) (ad : Nat → Nat) (c : Nat → va_E) : va_W := (List.range n).map (fun k => (ad k, c k))
theorem ww_get {n : Nat} {ad : Nat → Nat} {c : Nat → va_E} {k : Nat} (hk : k < n) : (ww n ad c)[k]? = some (ad k, c k) := by
  simp [ww, List.getElem?_map, List.getElem?_range hk]
theorem ww_len {n : Nat} {ad : Nat → Nat} {c : Nat → va_E} : (ww n ad c).length = n := by simp [ww]
theorem ww_of {n : Nat} {ad : Nat → Nat} {c : Nat → va_E} {k : Nat} {q : Nat × va_E} (h : (ww n ad c)[k]? = some q) : k < n ∧ q = (ad k, c k) := by
  have hl : k < n := by
    have h1 := (List.getElem?_eq_some_iff.mp h).1
    rw [ww_len] at h1
    exact h1
  rw [ww_get hl] at h
  exact ⟨hl, (Option.some.inj h).symm⟩
theorem ww_set {n : Nat} {ad : Nat → Nat} {c c' : Nat → va_E} {k : Nat} {e : va_E} (h1 : c' k = e) (h2 : ∀ j, j ≠ k → c' j = c j) : (ww n ad c).set k (ad k, e) = ww n ad c' := by
  apply List.ext_getElem?
  intro i
  by_cases hi : i < n
  · by_cases hk : i = k
    · subst hk
      rw [ww_get hi, List.getElem?_set]
      simp [ww_len, hi, h1]
    · rw [ww_get (c := c') hi, List.getElem?_set, if_neg (fun h => hk h.symm), ww_get hi, h2 i hk]
  · rw [List.getElem?_eq_none (by rw [List.length_set, ww_len]; omega), List.getElem?_eq_none (by rw [ww_len]; omega)]
/-- the addresses of the world -/
def ww_A (n : Nat) (ad : Nat → Nat) : Nat → Prop := fun q => ∃ k, k < n ∧ q = ad k
def ww_inj (n : Nat) (ad : Nat → Nat) : Prop := ∀ i j, i < n → j < n → ad i = ad j → i = j
theorem ww_D {n : Nat} {ad : Nat → Nat} {c : Nat → va_E} (h : ww_inj n ad) : va_D (ww_A n ad) (ww n ad c) := by
  refine ⟨fun i j p q hp hq e => ?_, fun k q hk => ?_⟩
  · obtain ⟨h1, rfl⟩ := ww_of hp
    obtain ⟨h2, rfl⟩ := ww_of hq
    exact h i j h1 h2 e
  · obtain ⟨h1, rfl⟩ := ww_of hk
    exact ⟨k, h1, rfl⟩
/-- the words on nest mates, as the state at a method's start has them -/
def nw_ok (nw : List Cond) (U : State) : Prop := ∀ w ∈ nw, va_Nw w U
def nw_kind (w : Cond) : Bool := match w with
  | .fieldLinkNest .. => true
  | .methodLinkNest .. => true
  | _ => false
theorem nw_moved {nw : List Cond} (hk : nw.all nw_kind = true) {s U : State} (hW : s.WarmedH U.vm) (h : nw_ok nw s) : nw_ok nw U := by
  intro w hw
  have h1 := List.all_eq_true.mp hk w hw
  have h2 := h w hw
  cases w <;> simp [nw_kind] at h1
  · exact va_Nw.warmM hW h2
  · exact va_Nw.warmF hW h2
/-- what a state holds at a method's start: the world, the tables' words on its classes, the words on nest mates -/
def ws_B (D : va_G) (tys : List (ClassId × FieldType)) (nw : List Cond) (w : va_W) (U : State) : Prop := va_P D vwCl w U.heap ∧ va_K D vwCl tys U ∧ nw_ok nw U
/-- a method's end: it returns v, the world is w', nothing else has changed -/
def ct_Q (D : va_G) (w' : va_W) (A : Nat → Prop) (v : Option Value) : Array Value → State → Outcome → State → Prop := fun _ st o t => o = .returned v ∧ va_P D vwCl w' t.heap ∧ va_F A st t
theorem ct_pre {D : va_G} {tys : List (ClassId × FieldType)} {nw : List Cond} {w : va_W} {H : Heap} {s : State} (hn : nw.all nw_kind = true) (hP : va_P D vwCl w H) (hK : va_K D vwCl tys s) (hN : nw_ok nw s) {av : List Value} :
    FrameBlind (va_Pc av (ws_B D tys nw w)) ∧ ∀ U : State, U.heap = H → s.WarmedH U.vm → va_Pc av (ws_B D tys nw w) av.toArray U := by
  refine ⟨fun a U g mk q => ?_, fun U hU hW => ⟨rfl, by rw [hU]; exact hP, va_K.moved hW.alike hK, nw_moved hn hW hN⟩⟩
  obtain ⟨q0, qP, qK, qN⟩ := q
  exact ⟨q0, qP, va_K.moved (u := U) (U := U.calling g mk a) (Vm.Alike.refl U.vm) qK, fun w hw => va_Nw.same (u := U) (U := U.calling g mk a) (by
    have h1 := List.all_eq_true.mp hn w hw
    cases w <;> simp [nw_kind] at h1 <;> rfl) rfl (qN w hw)⟩
theorem ct_preV {D : va_G} {tys : List (ClassId × FieldType)} {nw : List Cond} {n : Nat} {ad : Nat → Nat} {c : Nat → va_E} {H : Heap} {s : State} {As : List Value} {ci k : Nat} {q : vw_C} {fs : List Value} (hn : nw.all nw_kind = true) (hP : va_P D vwCl (ww n ad c) H) (hK : va_K D vwCl tys s) (hN : nw_ok nw s) (hc : vwCl[ci]? = some q) (hk : k < n) (he : c k = .inr (ci, fs)) :
    PreV s H q.1 (ad k) (va_Pc (.ref (ad k) :: As) (ws_B D tys nw (ww n ad c))) As := by
  obtain ⟨h1, h2⟩ := ct_pre (av := .ref (ad k) :: As) hn hP hK hN
  exact ⟨h1, va_recv hK hP hc (q0 := k) (fs := fs) (by rw [ww_get hk, he]), h2⟩
theorem ct_preS {D : va_G} {tys : List (ClassId × FieldType)} {nw : List Cond} {w : va_W} {H : Heap} {s : State} {As : List Value} (hn : nw.all nw_kind = true) (hP : va_P D vwCl w H) (hK : va_K D vwCl tys s) (hN : nw_ok nw s) :
    PreS s H (va_Pc As (ws_B D tys nw w)) As := ct_pre hn hP hK hN
/-- Java's remainders; a named value -/
def jrem (x y : Int32) : Int32 := x - x / y * y
def jreml (x y : Int64) : Int64 := x - x / y * y
def nm {α β : Type} (x : α) (k : α → Option β) : Option β := k x
theorem nm_elim {α β : Type} {x : α} {k : α → Option β} {r : β} (h : nm x k = some r) : ∃ v, x = v ∧ k v = some r := ⟨x, rfl, h⟩
section CT
variable {p : Program} {l : Launch} {e : Env} {R : Room} {s : State} {m : MethodId} {args : Array Value} {below : List Frame} {meth : Method} {c : Code} {H : Heap} {locs : List Loc} {Q : State → Prop}
variable {pc : Nat} {ls : Array Slot} {rest st0 : List Value} {a : Array Value} {A : Nat → Prop} {H0 : Heap}
theorem tp_I {x y : Int32} {cells slots : Nat} (h : x = y) (k : W p l e R s m args below meth c H locs cells slots Q (F0 m pc ls (.int y :: rest))) : W p l e R s m args below meth c H locs cells slots Q (F0 m pc ls (.int x :: rest)) := h ▸ k
theorem tp_J {x y : Int64} {cells slots : Nat} (h : x = y) (k : W p l e R s m args below meth c H locs cells slots Q (F0 m pc ls (.long y :: rest))) : W p l e R s m args below meth c H locs cells slots Q (F0 m pc ls (.long x :: rest)) := h ▸ k
theorem jv_irem {cc : ByteArray} {cells slots : Nat} (hexec : p.tables.exec = Jvm.exec) (hb : c.code = cc) {x y : Int32} (hdg : decode cc pc = .ok (.irem, 1)) (hne : ¬ y = 0) (k : W p l e R s m args below meth c H locs cells slots Q (F0 m (pc + 1) ls (.int (jrem x y) :: rest))) : W p l e R s m args below meth c H locs cells slots Q (F0 m pc ls (.int y :: .int x :: rest)) := lv_irem hexec hb hdg hne k
theorem jv_lrem {cc : ByteArray} {cells slots : Nat} (hexec : p.tables.exec = Jvm.exec) (hb : c.code = cc) {x y : Int64} (hdg : decode cc pc = .ok (.lrem, 1)) (hne : ¬ y = 0) (k : W p l e R s m args below meth c H locs cells slots Q (F0 m (pc + 1) ls (.long (jreml x y) :: rest))) : W p l e R s m args below meth c H locs cells slots Q (F0 m pc ls (.long y :: .long x :: rest)) := lv_lrem hexec hb hdg hne k
/-- behind a call of a method whose end is ct_Q -/
theorem ct_call {D : va_G} {w' : va_W} {v : Option Value} (hr : va_Run p l e R s m args below meth c H locs 0 0 0 0 (F0 m pc ls st0) rest (ct_Q D w' A v a) A) (hS : va_S A H0 H locs)
    (kk : ∀ (H1 : Heap) (locs1 : List Loc), va_P D vwCl w' H1 → va_S A H0 H1 locs1 → W p l e R s m args below meth c H1 locs1 0 0 Q (F0 m (pc + 3) ls (v.toList ++ rest))) : W p l e R s m args below meth c H locs 0 0 Q (F0 m pc ls st0) := by
  intro T hT X
  obtain ⟨v1, st₀, t, T', L, h0, X', hL, e1, e2, ⟨hv, hp, hz, hk⟩, st⟩ := hr T hT X
  cases hv
  rw [h0] at hz hk
  obtain ⟨t2, a1, b1⟩ := kk T'.heap (locs ++ L) (by rw [e1]; exact hp)
    ⟨Nat.le_trans hS.1 (by rw [e1]; exact hz), fun q h1 h2 => by rw [e1, hk q (Nat.lt_of_lt_of_le h1 hS.1) h2]; exact hS.2.1 q h1 h2, fun q hq => by
      rcases List.mem_append.mp hq with h | h
      · exact hS.2.2 q h
      · exact hL q h⟩ T' rfl X'
  exact ⟨t2, st t2 a1, b1⟩
/-- behind a call of a method that changes nothing -/
theorem rd_call {v : Option Value} {A1 : Nat → Prop} (hr : va_Run p l e R s m args below meth c H locs 0 0 0 0 (F0 m pc ls st0) rest (fun st o t => o = .returned v ∧ t.heap = st.heap) A1) (hf : ∀ q, ¬ A1 q)
    (kk : W p l e R s m args below meth c H locs 0 0 Q (F0 m (pc + 3) ls (v.toList ++ rest))) : W p l e R s m args below meth c H locs 0 0 Q (F0 m pc ls st0) := by
  intro T hT X
  obtain ⟨v1, st₀, t, T', L, h0, X', hL, e1, e2, ⟨hv, hh⟩, st⟩ := hr T hT X
  cases hv
  obtain ⟨t2, a1, b1⟩ := kk T' (by rw [e1, hh, h0]) (Stand.forget X' (fun q h => (hf _ (hL q h)).elim))
  exact ⟨t2, st t2 a1, b1⟩
end CT
