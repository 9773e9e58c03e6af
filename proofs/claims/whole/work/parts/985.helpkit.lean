/-! The law's helpers: a call of the class that returns or throws; the answer laid into a row of one long. -/
def hA (ad : Nat → Nat) (o : Nat) : Nat → Prop := fun q => ww_A 46 ad q ∨ q = o
abbrev oC (cL : ClassId) (o : Nat) (g : Nat → Int64) : va_W := [(o, .inl (cL, 1, .inr (.inl g)))]
def nc_ok (U : State) : Prop := va_Nc "java/lang/IllegalArgumentException" "java/lang/IndexOutOfBoundsException" U ∧ va_Nc "java/lang/ArithmeticException" "java/lang/IllegalArgumentException" U ∧ va_Nc "java/lang/IndexOutOfBoundsException" "java/lang/IllegalStateException" U
theorem nc_moved {u U : State} (h : u.vm.Alike U.vm) (k : nc_ok u) : nc_ok U := ⟨k.1.moved h, k.2.1.moved h, k.2.2.moved h⟩
def hB (D : va_G) (tys : List (ClassId × FieldType)) (nw : List Cond) (ad : Nat → Nat) (w : va_W) (cL : ClassId) (o : Nat) (g : Nat → Int64) (U : State) : Prop := ws_Bt D tys nw (ww_A 46 ad) w U ∧ va_P D vwCl (oC cL o g) U.heap ∧ nc_ok U
def hq (D : va_G) (cL : ClassId) (w' : va_W) (o : Nat) (A : Nat → Prop) (k : Int32) (v : Int64) : Array Value → State → Outcome → State → Prop := fun _ st oc t => oc = .returned (some (.int k)) ∧ va_P D vwCl w' t.heap ∧ (∃ g', va_P D vwCl (oC cL o g') t.heap ∧ (k = 0 → g' 0 = v)) ∧ va_F A st t
def hB0 (D : va_G) (tys : List (ClassId × FieldType)) (nw : List Cond) (ad : Nat → Nat) (w : va_W) (U : State) : Prop := ws_Bt D tys nw (ww_A 46 ad) w U ∧ nc_ok U
def hq0 (D : va_G) (w' : va_W) (A : Nat → Prop) (k : Int32) : Array Value → State → Outcome → State → Prop := fun _ st oc t => oc = .returned (some (.int k)) ∧ va_P D vwCl w' t.heap ∧ va_F A st t
theorem oC_kept {D : va_G} {cL : ClassId} {o : Nat} {g : Nat → Int64} {H H1 : Heap} {A : Nat → Prop} (h : va_P D vwCl (oC cL o g) H) (hk : ∀ q : Nat, q < H.size → ¬ A q → H1[q]? = H[q]?) (ho : ¬ A o) : va_P D vwCl (oC cL o g) H1 := h.kept (fun k q hq => by
  have hl := (h k q hq).lt
  match k, hq with
  | 0, hq =>
    have e : (o, _) = q := Option.some.inj hq
    have e1 : q.1 = o := by rw [← e]
    rw [e1] at hl ⊢
    exact hk o hl ho
  | k + 1, hq => simp at hq)
section HK
variable {p : Program} {l : Launch} {e : Env} {R : Room} {s : State} {m : MethodId} {args : Array Value} {below : List Frame} {meth : Method} {c : Code} {H H0 : Heap} {locs : List Loc} {cells slots mc ms : Nat} {Q : State → Prop} {cc : ByteArray} {pc : Nat} {ls : Array Slot} {rest st0 : List Value} {a : Array Value} {A A1 : Nat → Prop}
theorem ct_callA {D : va_G} {w' : va_W} {v : Option Value} (hr : va_Run p l e R s m args below meth c H locs cells slots mc ms (F0 m pc ls st0) rest (ct_Q D w' A1 v a) A1) (hS : va_S A H0 H locs) (hA : ∀ q, A1 q → A q)
    (kk : ∀ (H1 : Heap) (locs1 : List Loc), va_P D vwCl w' H1 → (∀ q : Nat, q < H.size → ¬ A1 q → H1[q]? = H[q]?) → H.size ≤ H1.size → va_S A H0 H1 locs1 → W p l e R s m args below meth c H1 locs1 (cells + mc) (slots + ms) Q (F0 m (pc + 3) ls (v.toList ++ rest))) : W p l e R s m args below meth c H locs cells slots Q (F0 m pc ls st0) := by
  intro T hT X
  obtain ⟨v1, st₀, t, T', L, h0, X', hL, e1, e2, ⟨hv, hp, hz, hk⟩, st⟩ := hr T hT X
  cases hv
  rw [h0] at hz hk
  obtain ⟨t2, a1, b1⟩ := kk T'.heap (locs ++ L) (by rw [e1]; exact hp) (fun q h1 h2 => by rw [e1]; exact hk q h1 h2) (by rw [e1]; exact hz)
    ⟨Nat.le_trans hS.1 (by rw [e1]; exact hz), fun q h1 h2 => by rw [e1, hk q (Nat.lt_of_lt_of_le h1 hS.1) (fun z => h2 (hA q z))]; exact hS.2.1 q h1 h2, fun q hq => by
      rcases List.mem_append.mp hq with h | h
      · exact hS.2.2 q h
      · exact hA _ (hL q h)⟩ T' rfl X'
  exact ⟨t2, st t2 a1, b1⟩
theorem ct_thrA {D : va_G} {w' : va_W} {E : String} (hr : vx_Run p l e R s m args below meth c H locs cells slots mc ms (F0 m pc ls st0) rest (fun _ _ _ => False) (xt_Q D w' A1 E) A1) (hS : va_S A H0 H locs) (hA : ∀ q, A1 q → A q)
    (kk : ∀ (q : Addr) (ce : Cell) (H1 : Heap) (locs1 : List Loc), va_P D vwCl w' H1 → (∀ q : Nat, q < H.size → ¬ A1 q → H1[q]? = H[q]?) → va_S A H0 H1 locs1 → H1[q]? = some ce → ce.vm = .none → s.vm.findClass E = some ce.cls → vx_W p l e R s m args below meth c H1 locs1 (cells + mc) (slots + ms) Q (F0 m pc ls rest) q) : W p l e R s m args below meth c H locs cells slots Q (F0 m pc ls st0) := by
  intro T hT X
  rcases hr T hT X with ⟨v, st₀, t, T', L, h0, X', hL, e1, e2, hq, st⟩ | ⟨q, st₀, t, T', L, E', ce, h0, X', hL, e1, e2, ⟨hE, hp, hz, hk⟩, hce, hcv, hcl, st⟩
  · exact hq.elim
  · rw [h0] at hz hk
    subst hE
    obtain ⟨t2, a1, b1⟩ := kk q ce T'.heap (locs ++ L) (by rw [e1]; exact hp) (fun q h1 h2 => by rw [e1]; exact hk q h1 h2)
      ⟨Nat.le_trans hS.1 (by rw [e1]; exact hz), fun q h1 h2 => by rw [e1, hk q (Nat.lt_of_lt_of_le h1 hS.1) (fun z => h2 (hA q z))]; exact hS.2.1 q h1 h2, fun q hq => by
        rcases List.mem_append.mp hq with h | h
        · exact hS.2.2 q h
        · exact hA _ (hL q h)⟩ (by rw [e1]; exact hce) hcv hcl T' rfl X'
    exact ⟨t2, st.trans a1, b1⟩
theorem h_last {D : va_G} {tys : List (ClassId × FieldType)} {ad : Nat → Nat} {w : Nat → va_E} {cL : ClassId} {o : Nat} {g : Nat → Int64} {v : Int64} (hx : p.tables.exec = Jvm.exec) (hb : c.code = cc) (hK : va_K D vwCl tys s) (htL : tys[2]? = some (cL, .long)) (hj : ww_inj 46 ad) (hP : va_P D vwCl (ww 46 ad w) H) (hO : va_P D vwCl (oC cL o g) H) (ho : ¬ ww_A 46 ad o) (hS : va_S (hA ad o) H0 H locs) (hdg : decode cc pc = .ok (.lastore, 1))
    (kk : ∀ (H1 : Heap) (locs1 : List Loc) (g' : Nat → Int64), va_P D vwCl (ww 46 ad w) H1 → va_P D vwCl (oC cL o g') H1 → g' 0 = v → va_S (hA ad o) H0 H1 locs1 → W p l e R s m args below meth c H1 locs1 cells slots Q (F0 m (pc + 1) ls rest)) : W p l e R s m args below meth c H locs cells slots Q (F0 m pc ls (.long v :: .int 0 :: .ref o :: rest)) := by
  have hP2 := hP.app hO
  have len : (ww 46 ad w).length = 46 := ww_len
  have hD2 : va_D (hA ad o) (ww 46 ad w ++ oC cL o g) := by
    refine va_D.app ⟨fun i j p q h1 h2 e => ?_, fun k q hk => ?_⟩ ⟨fun i j p q h1 h2 _ => ?_, fun k q hk => ?_⟩ (fun i j p q h1 h2 e => ?_)
    · obtain ⟨a1, rfl⟩ := ww_of h1
      obtain ⟨a2, rfl⟩ := ww_of h2
      exact hj i j a1 a2 e
    · obtain ⟨a1, rfl⟩ := ww_of hk
      exact Or.inl ⟨k, a1, rfl⟩
    · have b1 := (List.getElem?_eq_some_iff.mp h1).1
      have b2 := (List.getElem?_eq_some_iff.mp h2).1
      have : (oC cL o g).length = 1 := rfl
      omega
    · match k, hk with
      | 0, hk =>
        have e : (o, _) = q := Option.some.inj hk
        rw [← e]
        exact Or.inr rfl
      | k + 1, hk => simp at hk
    · obtain ⟨a1, rfl⟩ := ww_of h1
      match j, h2 with
      | 0, h2 =>
        have e' : (o, _) = q := Option.some.inj h2
        rw [← e'] at e
        exact ho ⟨i, a1, e.symm⟩
      | j + 1, h2 => simp at h2
  have at46 : (ww 46 ad w ++ oC cL o g)[46]? = some (o, .inl (cL, 1, .inr (.inl g))) := by rw [List.getElem?_append_right (by omega), len]; rfl
  refine va_last hx hb hK hP2 hD2 hS 46 2 at46 htL (show ¬ ((0 : Int32) < 0 ∨ 1 ≤ (0 : Int32).toNatClampNeg) by decide) hdg (fun H1 locs1 hP1 hD1 hS1 => ?_)
  have es : (ww 46 ad w ++ oC cL o g).set 46 (o, .inl (cL, 1, .inr (.inl (vp_updL g (0 : Int32).toNatClampNeg v)))) = ww 46 ad w ++ oC cL o (vp_updL g (0 : Int32).toNatClampNeg v) := by
    rw [List.set_append_right 46 _ (by omega), len]; rfl
  rw [es] at hP1
  refine kk H1 locs1 (vp_updL g (0 : Int32).toNatClampNeg v) (fun k q hk => hP1 k q (by rw [List.getElem?_append_left (List.getElem?_eq_some_iff.mp hk).1]; exact hk)) (fun k q hk => hP1 (46 + k) q (by rw [List.getElem?_append_right (by omega), len, Nat.add_sub_cancel_left]; exact hk)) ?_ hS1
  show vp_updL g (0 : Int32).toNatClampNeg v 0 = v
  rw [show (0 : Int32).toNatClampNeg = 0 by decide]
  simp [vp_updL]
end HK
