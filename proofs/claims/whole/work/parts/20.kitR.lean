/-! The world of the reference: its object at place 0, its arrays modulus, digits, row, degree, often at 1 .. 5. What digits holds (di) is nobody's matter but times': the state says only that there is such a row. -/
def cellR (cI : ClassId) (ad : Nat → Nat) (th kk : Int32) (mn : Int64) (md rw dg : Nat → Int32) (kn fc : Int32) (oft di : Nat → Int32) : Nat → va_E := fun k =>
  if k = 0 then .inr (5, [.int th, .int kk, .long mn, .ref (ad 1), .ref (ad 2), .ref (ad 3), .ref (ad 4), .int kn, .int fc, .ref (ad 5)])
  else if k = 1 then .inl (cI, 4, .inl md)
  else if k = 2 then .inl (cI, 6, .inl di)
  else if k = 3 then .inl (cI, 400, .inl rw)
  else if k = 4 then .inl (cI, 25, .inl dg)
  else if k = 5 then .inl (cI, 5, .inl oft)
  else .inr (5, [])
section WR
variable {D : va_G} {H : Heap} {cI : ClassId} {ad : Nat → Nat} {th kk : Int32} {mn : Int64} {md rw dg : Nat → Int32} {kn fc : Int32} {oft di : Nat → Int32}
theorem cr_mdl : (ww 6 ad (cellR cI ad th kk mn md rw dg kn fc oft di))[0]? = some (ad 0, .inr (5, [.int th, .int kk, .long mn, .ref (ad 1), .ref (ad 2), .ref (ad 3), .ref (ad 4), .int kn, .int fc, .ref (ad 5)])) := ww_get (by decide)
theorem cr_md : (ww 6 ad (cellR cI ad th kk mn md rw dg kn fc oft di))[1]? = some (ad 1, .inl (cI, 4, .inl md)) := ww_get (by decide)
theorem cr_di : (ww 6 ad (cellR cI ad th kk mn md rw dg kn fc oft di))[2]? = some (ad 2, .inl (cI, 6, .inl di)) := ww_get (by decide)
theorem cr_rw : (ww 6 ad (cellR cI ad th kk mn md rw dg kn fc oft di))[3]? = some (ad 3, .inl (cI, 400, .inl rw)) := ww_get (by decide)
theorem cr_dg : (ww 6 ad (cellR cI ad th kk mn md rw dg kn fc oft di))[4]? = some (ad 4, .inl (cI, 25, .inl dg)) := ww_get (by decide)
theorem cr_oft : (ww 6 ad (cellR cI ad th kk mn md rw dg kn fc oft di))[5]? = some (ad 5, .inl (cI, 5, .inl oft)) := ww_get (by decide)
theorem cq_of {c c' : Nat → va_E} {k : Nat} {e : va_E} (h : va_P D vwCl ((ww 6 ad c).set k (ad k, e)) H) (h1 : c' k = e) (h2 : ∀ j, j ≠ k → c' j = c j) : va_P D vwCl (ww 6 ad c') H := by
  rw [ww_set h1 h2] at h
  exact h
theorem cs_md {v : Nat → Int32} (h : va_P D vwCl ((ww 6 ad (cellR cI ad th kk mn md rw dg kn fc oft di)).set 1 (ad 1, .inl (cI, 4, .inl v))) H) : va_P D vwCl (ww 6 ad (cellR cI ad th kk mn v rw dg kn fc oft di)) H := cq_of h rfl (fun j hj => by simp [cellR, hj])
theorem cs_di {v : Nat → Int32} (h : va_P D vwCl ((ww 6 ad (cellR cI ad th kk mn md rw dg kn fc oft di)).set 2 (ad 2, .inl (cI, 6, .inl v))) H) : va_P D vwCl (ww 6 ad (cellR cI ad th kk mn md rw dg kn fc oft v)) H := cq_of h rfl (fun j hj => by simp [cellR, hj])
theorem cs_rw {v : Nat → Int32} (h : va_P D vwCl ((ww 6 ad (cellR cI ad th kk mn md rw dg kn fc oft di)).set 3 (ad 3, .inl (cI, 400, .inl v))) H) : va_P D vwCl (ww 6 ad (cellR cI ad th kk mn md v dg kn fc oft di)) H := cq_of h rfl (fun j hj => by simp [cellR, hj])
theorem cs_dg {v : Nat → Int32} (h : va_P D vwCl ((ww 6 ad (cellR cI ad th kk mn md rw dg kn fc oft di)).set 4 (ad 4, .inl (cI, 25, .inl v))) H) : va_P D vwCl (ww 6 ad (cellR cI ad th kk mn md rw v kn fc oft di)) H := cq_of h rfl (fun j hj => by simp [cellR, hj])
theorem cs_oft {v : Nat → Int32} (h : va_P D vwCl ((ww 6 ad (cellR cI ad th kk mn md rw dg kn fc oft di)).set 5 (ad 5, .inl (cI, 5, .inl v))) H) : va_P D vwCl (ww 6 ad (cellR cI ad th kk mn md rw dg kn fc v di)) H := cq_of h rfl (fun j hj => by simp [cellR, hj])
theorem cs_th {v : Int32} (h : va_P D vwCl ((ww 6 ad (cellR cI ad th kk mn md rw dg kn fc oft di)).set 0 (ad 0, .inr (5, [.int th, .int kk, .long mn, .ref (ad 1), .ref (ad 2), .ref (ad 3), .ref (ad 4), .int kn, .int fc, .ref (ad 5)].set 0 (.int v)))) H) : va_P D vwCl (ww 6 ad (cellR cI ad v kk mn md rw dg kn fc oft di)) H := cq_of h rfl (fun j hj => by simp [cellR, hj])
theorem cs_kk {v : Int32} (h : va_P D vwCl ((ww 6 ad (cellR cI ad th kk mn md rw dg kn fc oft di)).set 0 (ad 0, .inr (5, [.int th, .int kk, .long mn, .ref (ad 1), .ref (ad 2), .ref (ad 3), .ref (ad 4), .int kn, .int fc, .ref (ad 5)].set 1 (.int v)))) H) : va_P D vwCl (ww 6 ad (cellR cI ad th v mn md rw dg kn fc oft di)) H := cq_of h rfl (fun j hj => by simp [cellR, hj])
theorem cs_mn {v : Int64} (h : va_P D vwCl ((ww 6 ad (cellR cI ad th kk mn md rw dg kn fc oft di)).set 0 (ad 0, .inr (5, [.int th, .int kk, .long mn, .ref (ad 1), .ref (ad 2), .ref (ad 3), .ref (ad 4), .int kn, .int fc, .ref (ad 5)].set 2 (.long v)))) H) : va_P D vwCl (ww 6 ad (cellR cI ad th kk v md rw dg kn fc oft di)) H := cq_of h rfl (fun j hj => by simp [cellR, hj])
theorem cs_kn {v : Int32} (h : va_P D vwCl ((ww 6 ad (cellR cI ad th kk mn md rw dg kn fc oft di)).set 0 (ad 0, .inr (5, [.int th, .int kk, .long mn, .ref (ad 1), .ref (ad 2), .ref (ad 3), .ref (ad 4), .int kn, .int fc, .ref (ad 5)].set 7 (.int v)))) H) : va_P D vwCl (ww 6 ad (cellR cI ad th kk mn md rw dg v fc oft di)) H := cq_of h rfl (fun j hj => by simp [cellR, hj])
theorem cs_fc {v : Int32} (h : va_P D vwCl ((ww 6 ad (cellR cI ad th kk mn md rw dg kn fc oft di)).set 0 (ad 0, .inr (5, [.int th, .int kk, .long mn, .ref (ad 1), .ref (ad 2), .ref (ad 3), .ref (ad 4), .int kn, .int fc, .ref (ad 5)].set 8 (.int v)))) H) : va_P D vwCl (ww 6 ad (cellR cI ad th kk mn md rw dg kn v oft di)) H := cq_of h rfl (fun j hj => by simp [cellR, hj])
end WR
def ws_Bx (D : va_G) (tys : List (ClassId × FieldType)) (w : (Nat → Int32) → va_W) (U : State) : Prop := (∃ di, va_P D vwCl (w di) U.heap) ∧ va_K D vwCl tys U
def ct_Qx (D : va_G) (w' : (Nat → Int32) → va_W) (A : Nat → Prop) (v : Option Value) : Array Value → State → Outcome → State → Prop := fun _ st o t => o = .returned v ∧ (∃ di, va_P D vwCl (w' di) t.heap) ∧ va_F A st t
theorem ct_prex {D : va_G} {tys : List (ClassId × FieldType)} {w : (Nat → Int32) → va_W} {di : Nat → Int32} {H : Heap} {s : State} (hP : va_P D vwCl (w di) H) (hK : va_K D vwCl tys s) {av : List Value} :
    FrameBlind (va_Pc av (ws_Bx D tys w)) ∧ ∀ U : State, U.heap = H → s.WarmedH U.vm → va_Pc av (ws_Bx D tys w) av.toArray U := by
  refine ⟨fun a U g mk q => ?_, fun U hU hW => ⟨rfl, ⟨di, by rw [hU]; exact hP⟩, va_K.moved hW.alike hK⟩⟩
  obtain ⟨q0, qP, qK⟩ := q
  exact ⟨q0, qP, va_K.moved (u := U) (U := U.calling g mk a) (Vm.Alike.refl U.vm) qK⟩
theorem ct_preVx {D : va_G} {tys : List (ClassId × FieldType)} {w : (Nat → Int32) → va_W} {di : Nat → Int32} {H : Heap} {s : State} {As : List Value} {ci k a : Nat} {q : vw_C} {fs : List Value} (hP : va_P D vwCl (w di) H) (hK : va_K D vwCl tys s) (hc : vwCl[ci]? = some q) (he : (w di)[k]? = some (a, .inr (ci, fs))) :
    PreV s H q.1 a (va_Pc (.ref a :: As) (ws_Bx D tys w)) As := by
  obtain ⟨h1, h2⟩ := ct_prex (av := .ref a :: As) hP hK
  exact ⟨h1, va_recv hK hP hc (q0 := k) (fs := fs) he, h2⟩
theorem ct_preSx {D : va_G} {tys : List (ClassId × FieldType)} {w : (Nat → Int32) → va_W} {di : Nat → Int32} {H : Heap} {s : State} {As : List Value} (hP : va_P D vwCl (w di) H) (hK : va_K D vwCl tys s) :
    PreS s H (va_Pc As (ws_Bx D tys w)) As := ct_prex hP hK
section CTX
variable {p : Program} {l : Launch} {e : Env} {R : Room} {s : State} {m : MethodId} {args : Array Value} {below : List Frame} {meth : Method} {c : Code} {H : Heap} {locs : List Loc} {Q : State → Prop}
variable {pc : Nat} {ls : Array Slot} {rest st0 : List Value} {a : Array Value} {A : Nat → Prop} {H0 : Heap}
theorem ct_callx {D : va_G} {w' : (Nat → Int32) → va_W} {v : Option Value} (hr : va_Run p l e R s m args below meth c H locs 0 0 0 0 (F0 m pc ls st0) rest (ct_Qx D w' A v a) A) (hS : va_S A H0 H locs)
    (kk : ∀ (di : Nat → Int32) (H1 : Heap) (locs1 : List Loc), va_P D vwCl (w' di) H1 → va_S A H0 H1 locs1 → W p l e R s m args below meth c H1 locs1 0 0 Q (F0 m (pc + 3) ls (v.toList ++ rest))) : W p l e R s m args below meth c H locs 0 0 Q (F0 m pc ls st0) := by
  intro T hT X
  obtain ⟨v1, st₀, t, T', L, h0, X', hL, e1, e2, ⟨hv, ⟨di, hp⟩, hz, hk⟩, st⟩ := hr T hT X
  cases hv
  rw [h0] at hz hk
  obtain ⟨t2, a1, b1⟩ := kk di T'.heap (locs ++ L) (by rw [e1]; exact hp)
    ⟨Nat.le_trans hS.1 (by rw [e1]; exact hz), fun q h1 h2 => by rw [e1, hk q (Nat.lt_of_lt_of_le h1 hS.1) h2]; exact hS.2.1 q h1 h2, fun q hq => by
      rcases List.mem_append.mp hq with h | h
      · exact hS.2.2 q h
      · exact hL q h⟩ T' rfl X'
  exact ⟨t2, st t2 a1, b1⟩
end CTX
