/-! Walking the law: what the script gives, the calls of the helpers and of the reference. -/
def lgj (a b : Int32) : Int64 := (a.toInt64 <<< ((32 : Int32).toInt64 &&& 63)) ||| (b.toInt64 &&& 4294967295)
/-- the law's own frame: the class's world, the reference's, the row for an answer; new cells all of them, and apart -/
def LW (s : State) (adC adR : Nat → Nat) (o : Nat) : Prop := ww_inj 46 adC ∧ ww_inj 6 adR ∧ (∀ q, ww_A 46 adC q → s.heap.size ≤ q) ∧ (∀ q, ww_A 6 adR q → s.heap.size ≤ q) ∧ s.heap.size ≤ o ∧ (∀ q, ww_A 46 adC q → ¬ ww_A 6 adR q) ∧ ¬ ww_A 46 adC o ∧ ¬ ww_A 6 adR o
def LH (D : va_G) (cI cR cL : ClassId) (adC adR : Nat → Nat) (o : Nat) (w : Nat → va_E) (th kk : Int32) (mn : Int64) (md rw dg : Nat → Int32) (kn fc : Int32) (oft : Nat → Int32) (H : Heap) : Prop := va_P D vwCl (ww 46 adC w) H ∧ (∃ di, va_P D vwCl (ww 6 adR (cellR cI adR th kk mn md rw dg kn fc oft di)) H) ∧ ∃ g, va_P D vwCl (oC cL o g) H
theorem ww_kept {D : va_G} {n : Nat} {ad : Nat → Nat} {w : Nat → va_E} {H H1 : Heap} {A : Nat → Prop} (h : va_P D vwCl (ww n ad w) H) (hk : ∀ q : Nat, q < H.size → ¬ A q → H1[q]? = H[q]?) (ho : ∀ q, ww_A n ad q → ¬ A q) : va_P D vwCl (ww n ad w) H1 := h.kept (fun k q hq => by
  have hl := (h k q hq).lt
  obtain ⟨a1, e⟩ := ww_of hq
  have e1 : q.1 = ad k := by rw [e]
  exact hk q.1 hl (ho q.1 ⟨k, a1, e1⟩))
section LK
variable {p : Program} {l : Launch} {e : Env} {R : Room} {s : State} {m : MethodId} {args : Array Value} {below : List Frame} {meth : Method} {c : Code} {H H0 : Heap} {locs : List Loc} {cells slots mc ms : Nat} {Q : State → Prop} {pc : Nat} {ls : Array Slot} {rest st0 : List Value} {a : Array Value} {A A1 : Nat → Prop}
theorem ct_callH {D : va_G} {cL : ClassId} {w' : va_W} {o : Nat} {k : Int32} {v : Int64} (hr : va_Run p l e R s m args below meth c H locs cells slots mc ms (F0 m pc ls st0) rest (hq D cL w' o A1 k v a) A1) (hS : va_S A H0 H locs) (hA : ∀ q, A1 q → A q)
    (kk : ∀ (H1 : Heap) (locs1 : List Loc) (g' : Nat → Int64), va_P D vwCl w' H1 → va_P D vwCl (oC cL o g') H1 → (k = 0 → g' 0 = v) → (∀ q : Nat, q < H.size → ¬ A1 q → H1[q]? = H[q]?) → va_S A H0 H1 locs1 → W p l e R s m args below meth c H1 locs1 (cells + mc) (slots + ms) Q (F0 m (pc + 3) ls (.int k :: rest))) : W p l e R s m args below meth c H locs cells slots Q (F0 m pc ls st0) := by
  intro T hT X
  obtain ⟨v1, st₀, t, T', L, h0, X', hL, e1, e2, ⟨hv, hp, ⟨g', hg, hg0⟩, hz, hk⟩, st⟩ := hr T hT X
  cases hv
  rw [h0] at hz hk
  obtain ⟨t2, a1, b1⟩ := kk T'.heap (locs ++ L) g' (by rw [e1]; exact hp) (by rw [e1]; exact hg) hg0 (fun q h1 h2 => by rw [e1]; exact hk q h1 h2)
    ⟨Nat.le_trans hS.1 (by rw [e1]; exact hz), fun q h1 h2 => by rw [e1, hk q (Nat.lt_of_lt_of_le h1 hS.1) (fun z => h2 (hA q z))]; exact hS.2.1 q h1 h2, fun q hq => by
      rcases List.mem_append.mp hq with h | h
      · exact hS.2.2 q h
      · exact hA _ (hL q h)⟩ T' rfl X'
  exact ⟨t2, st t2 a1, b1⟩
theorem ct_callH0 {D : va_G} {w' : va_W} {k : Int32} (hr : va_Run p l e R s m args below meth c H locs cells slots mc ms (F0 m pc ls st0) rest (hq0 D w' A1 k a) A1) (hS : va_S A H0 H locs) (hA : ∀ q, A1 q → A q)
    (kk : ∀ (H1 : Heap) (locs1 : List Loc), va_P D vwCl w' H1 → (∀ q : Nat, q < H.size → ¬ A1 q → H1[q]? = H[q]?) → va_S A H0 H1 locs1 → W p l e R s m args below meth c H1 locs1 (cells + mc) (slots + ms) Q (F0 m (pc + 3) ls (.int k :: rest))) : W p l e R s m args below meth c H locs cells slots Q (F0 m pc ls st0) := by
  intro T hT X
  obtain ⟨v1, st₀, t, T', L, h0, X', hL, e1, e2, ⟨hv, hp, hz, hk⟩, st⟩ := hr T hT X
  cases hv
  rw [h0] at hz hk
  obtain ⟨t2, a1, b1⟩ := kk T'.heap (locs ++ L) (by rw [e1]; exact hp) (fun q h1 h2 => by rw [e1]; exact hk q h1 h2)
    ⟨Nat.le_trans hS.1 (by rw [e1]; exact hz), fun q h1 h2 => by rw [e1, hk q (Nat.lt_of_lt_of_le h1 hS.1) (fun z => h2 (hA q z))]; exact hS.2.1 q h1 h2, fun q hq => by
      rcases List.mem_append.mp hq with h | h
      · exact hS.2.2 q h
      · exact hA _ (hL q h)⟩ T' rfl X'
  exact ⟨t2, st t2 a1, b1⟩
theorem ct_callxA {D : va_G} {w' : (Nat → Int32) → va_W} {v : Option Value} (hr : va_Run p l e R s m args below meth c H locs cells slots mc ms (F0 m pc ls st0) rest (ct_Qx D w' A1 v a) A1) (hS : va_S A H0 H locs) (hA : ∀ q, A1 q → A q)
    (kk : ∀ (di : Nat → Int32) (H1 : Heap) (locs1 : List Loc), va_P D vwCl (w' di) H1 → (∀ q : Nat, q < H.size → ¬ A1 q → H1[q]? = H[q]?) → va_S A H0 H1 locs1 → W p l e R s m args below meth c H1 locs1 (cells + mc) (slots + ms) Q (F0 m (pc + 3) ls (v.toList ++ rest))) : W p l e R s m args below meth c H locs cells slots Q (F0 m pc ls st0) := by
  intro T hT X
  obtain ⟨v1, st₀, t, T', L, h0, X', hL, e1, e2, ⟨hv, ⟨di, hp⟩, hz, hk⟩, st⟩ := hr T hT X
  cases hv
  rw [h0] at hz hk
  obtain ⟨t2, a1, b1⟩ := kk di T'.heap (locs ++ L) (by rw [e1]; exact hp) (fun q h1 h2 => by rw [e1]; exact hk q h1 h2)
    ⟨Nat.le_trans hS.1 (by rw [e1]; exact hz), fun q h1 h2 => by rw [e1, hk q (Nat.lt_of_lt_of_le h1 hS.1) (fun z => h2 (hA q z))]; exact hS.2.1 q h1 h2, fun q hq => by
      rcases List.mem_append.mp hq with h | h
      · exact hS.2.2 q h
      · exact hA _ (hL q h)⟩ T' rfl X'
  exact ⟨t2, st t2 a1, b1⟩
/-- script[i + k], the number written in one byte (iconst) or two (bipush) -/
theorem law_ld1 {b L i k : Nat} {xs : Nat → Int32} (hx : p.tables.exec = Jvm.exec) (hb : c.code = cL_law) (hX : va_X b L xs s H0) (hbl : b < H0.size) (hbA : ¬ A b) (hS : va_S A H0 H locs) (hi : i + k < L) (hL : L ≤ 4096) (h0 : ls[0]? = some (.val (.ref b))) (h4 : ls[4]? = some (.val (.int (nI i)))) {z : Int} (hz : Int32.ofInt z = nI k) (d0 : decode cL_law pc = .ok (.aload_n 0, 1)) (d1 : decode cL_law (pc + 1) = .ok (.iload 4, 2)) (d2 : decode cL_law (pc + 3) = .ok (.iconst z, 1)) (d3 : decode cL_law (pc + 4) = .ok (.iadd, 1)) (d4 : decode cL_law (pc + 5) = .ok (.iaload, 1))
    (kk : W p l e R s m args below meth c H locs cells slots Q (F0 m (pc + 6) ls (.int (xs (i + k)) :: rest))) : W p l e R s m args below meth c H locs cells slots Q (F0 m pc ls rest) := by
  refine lv_aload_n hx hb d0 rfl h0 ?_
  refine lv_iload hx hb d1 h4 ?_
  refine lv_iconst (v := nI k) hx hb d2 hz ?_
  refine lv_iadd hx hb d3 ?_
  refine tp_I (nI_add i k) ?_
  refine va_sld hx hb hX hbl hbA hS (vp_in_nI hi (by omega)) d4 ?_
  rw [nI_clamp (by omega)]
  exact kk
theorem law_ld2 {b L i k : Nat} {xs : Nat → Int32} (hx : p.tables.exec = Jvm.exec) (hb : c.code = cL_law) (hX : va_X b L xs s H0) (hbl : b < H0.size) (hbA : ¬ A b) (hS : va_S A H0 H locs) (hi : i + k < L) (hL : L ≤ 4096) (h0 : ls[0]? = some (.val (.ref b))) (h4 : ls[4]? = some (.val (.int (nI i)))) {z : Int} (hz : (Int8.ofInt z).toInt32 = nI k) (d0 : decode cL_law pc = .ok (.aload_n 0, 1)) (d1 : decode cL_law (pc + 1) = .ok (.iload 4, 2)) (d2 : decode cL_law (pc + 3) = .ok (.bipush z, 2)) (d3 : decode cL_law (pc + 5) = .ok (.iadd, 1)) (d4 : decode cL_law (pc + 6) = .ok (.iaload, 1))
    (kk : W p l e R s m args below meth c H locs cells slots Q (F0 m (pc + 7) ls (.int (xs (i + k)) :: rest))) : W p l e R s m args below meth c H locs cells slots Q (F0 m pc ls rest) := by
  refine lv_aload_n hx hb d0 rfl h0 ?_
  refine lv_iload hx hb d1 h4 ?_
  refine lv_bipush (v := nI k) hx hb d2 hz ?_
  refine lv_iadd hx hb d3 ?_
  refine tp_I (nI_add i k) ?_
  refine va_sld hx hb hX hbl hbA hS (vp_in_nI hi (by omega)) d4 ?_
  rw [nI_clamp (by omega)]
  exact kk
end LK
theorem hB_pre {D : va_G} {tys : List (ClassId × FieldType)} {nw : List Cond} {ad : Nat → Nat} {w : va_W} {cL : ClassId} {o : Nat} {g : Nat → Int64} {A : Nat → Prop} {s : State} {H : Heap} {locs : List Loc} {As : List Value} (hn : nw.all nw_kind = true) (hP : va_P D vwCl w H) (hO : va_P D vwCl (oC cL o g) H) (hK : va_K D vwCl tys s) (hN : nw_ok nw s) (hT : ts_ok A s s.heap) (hS : va_S A s.heap H locs) (hA : ∀ q, ww_A 46 ad q → A q) (hc : nc_ok s) : PreS s H (va_Pc As (hB D tys nw ad w cL o g)) As := by
  refine ⟨fun a U g' mk q => ?_, fun U hU hW => ⟨rfl, ⟨⟨by rw [hU]; exact hP, va_K.moved hW.alike hK, nw_moved hn hW hN⟩, ?_⟩, by rw [hU]; exact hO, nc_moved hW.alike hc⟩⟩
  · obtain ⟨q0, ⟨⟨qP, qK, qN⟩, q1, q2, q3, q4⟩, qO, qc⟩ := q
    refine ⟨q0, ⟨⟨qP, va_K.moved (u := U) (U := U.calling g' mk a) (Vm.Alike.refl U.vm) qK, fun w hw => va_Nw.same (u := U) (U := U.calling g' mk a) (by
      have h1 := List.all_eq_true.mp hn w hw
      cases w <;> simp [nw_kind] at h1 <;> rfl) rfl (qN w hw)⟩, fun z hz => ?_, ⟨fun X hX => va_Nw.same (u := U) (U := U.calling g' mk a) rfl rfl (q2.1 X hX), fun X hX => va_Nw.same (u := U) (U := U.calling g' mk a) rfl rfl (q2.2 X hX)⟩, q3.moved (u := U) (U := U.calling g' mk a) (Vm.Alike.refl U.vm), q4.moved (u := U) (U := U.calling g' mk a) (Vm.Alike.refl U.vm)⟩, qO, nc_moved (u := U) (U := U.calling g' mk a) (Vm.Alike.refl U.vm) qc⟩
    obtain ⟨b, hb⟩ := q1 z hz
    exact ⟨b, vk_R.same (u := U) (U := U.calling g' mk a) rfl hb⟩
  · have h1 := ts_moved hT hS hW
    rw [hU]
    exact ⟨h1.1, h1.2.1, h1.2.2.1.narrow hA, h1.2.2.2.narrow hA⟩
theorem hB0_pre {D : va_G} {tys : List (ClassId × FieldType)} {nw : List Cond} {ad : Nat → Nat} {w : va_W} {A : Nat → Prop} {s : State} {H : Heap} {locs : List Loc} {As : List Value} (hn : nw.all nw_kind = true) (hP : va_P D vwCl w H) (hK : va_K D vwCl tys s) (hN : nw_ok nw s) (hT : ts_ok A s s.heap) (hS : va_S A s.heap H locs) (hA : ∀ q, ww_A 46 ad q → A q) (hc : nc_ok s) : PreS s H (va_Pc As (hB0 D tys nw ad w)) As := by
  refine ⟨fun a U g' mk q => ?_, fun U hU hW => ⟨rfl, ⟨⟨by rw [hU]; exact hP, va_K.moved hW.alike hK, nw_moved hn hW hN⟩, ?_⟩, nc_moved hW.alike hc⟩⟩
  · obtain ⟨q0, ⟨⟨qP, qK, qN⟩, q1, q2, q3, q4⟩, qc⟩ := q
    refine ⟨q0, ⟨⟨qP, va_K.moved (u := U) (U := U.calling g' mk a) (Vm.Alike.refl U.vm) qK, fun w hw => va_Nw.same (u := U) (U := U.calling g' mk a) (by
      have h1 := List.all_eq_true.mp hn w hw
      cases w <;> simp [nw_kind] at h1 <;> rfl) rfl (qN w hw)⟩, fun z hz => ?_, ⟨fun X hX => va_Nw.same (u := U) (U := U.calling g' mk a) rfl rfl (q2.1 X hX), fun X hX => va_Nw.same (u := U) (U := U.calling g' mk a) rfl rfl (q2.2 X hX)⟩, q3.moved (u := U) (U := U.calling g' mk a) (Vm.Alike.refl U.vm), q4.moved (u := U) (U := U.calling g' mk a) (Vm.Alike.refl U.vm)⟩, nc_moved (u := U) (U := U.calling g' mk a) (Vm.Alike.refl U.vm) qc⟩
    obtain ⟨b, hb⟩ := q1 z hz
    exact ⟨b, vk_R.same (u := U) (U := U.calling g' mk a) rfl hb⟩
  · have h1 := ts_moved hT hS hW
    rw [hU]
    exact ⟨h1.1, h1.2.1, h1.2.2.1.narrow hA, h1.2.2.2.narrow hA⟩
