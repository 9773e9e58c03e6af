/-! The world of the class: 46 cells. Rows 0 .. 19: their arrays at places 0 .. 19, the objects at 20 .. 39. 0 f; 1 .. 10 the ring's (wide, quotient, older, newer, derived, mates, product, moved, least, common); 11 .. 14 the splitter's (root, rest, power, shared); 15 .. 19 the parts. 40 Extension, 41 Ring, 42 Splitter, 43 parts, 44 counts, 45 the object itself. M: what the rows hold; E: the extension's fields; P: which row a part is; C: counts; N 0, N 1: count, found. -/
abbrev ra (ad : Nat → Nat) (i : Fin 20) : Nat := ad (20 + i.val)
abbrev aa (ad : Nat → Nat) (i : Fin 20) : Nat := ad i.val
def fup {β : Type} (f : Fin 20 → β) (i : Fin 20) (v : β) : Fin 20 → β := fun j => if j = i then v else f j
def cellC (cI cR : ClassId) (ad : Nat → Nat) (M : Fin 20 → Nat → Int32) (E : Nat → Int32) (P : Nat → Fin 20) (C N : Nat → Int32) : Nat → va_E := fun k =>
  if h : k < 20 then .inl (cI, 16, .inl (M ⟨k, h⟩))
  else if k < 40 then .inr (2, [.ref (ad (k - 20))])
  else if k = 40 then .inr (0, [.int (E 0), .int (E 1), .int (E 2), .int (E 3), .int (E 4), .int (E 5), .int (E 6), .int (E 7)])
  else if k = 41 then .inr (1, [.ref (ad 40), .ref (ra ad 1), .ref (ra ad 2), .ref (ra ad 3), .ref (ra ad 4), .ref (ra ad 5), .ref (ra ad 6), .ref (ra ad 7), .ref (ra ad 8), .ref (ra ad 9), .ref (ra ad 10)])
  else if k = 42 then .inr (3, [.ref (ad 43), .ref (ad 44), .int (N 0), .int (N 1), .ref (ra ad 11), .ref (ra ad 12), .ref (ra ad 13), .ref (ra ad 14)])
  else if k = 43 then .inl (cR, 5, .inr (.inr (.inr (.inr (fun i => some (ra ad (P i)))))))
  else if k = 44 then .inl (cI, 5, .inl C)
  else .inr (4, [.ref (ra ad 0), .ref (ad 41), .ref (ad 42)])
section WC
variable {D : va_G} {H : Heap} {cI cR : ClassId} {ad : Nat → Nat} {M : Fin 20 → Nat → Int32} {E : Nat → Int32} {P : Nat → Fin 20} {C N : Nat → Int32}
theorem ra_lt (i : Fin 20) : 20 + i.val < 46 := by omega
theorem cl_arr (i : Fin 20) : cellC cI cR ad M E P C N i.val = .inl (cI, 16, .inl (M i)) := by simp [cellC, i.isLt]
theorem cl_row (i : Fin 20) : cellC cI cR ad M E P C N (20 + i.val) = .inr (2, [.ref (aa ad i)]) := by
  have h1 : ¬ 20 + i.val < 20 := by omega
  have h2 : 20 + i.val < 40 := by omega
  simp [cellC, h2]
theorem cc_arr (i : Fin 20) : (ww 46 ad (cellC cI cR ad M E P C N))[i.val]? = some (aa ad i, .inl (cI, 16, .inl (M i))) := by rw [ww_get (by omega), cl_arr]
theorem cc_row (i : Fin 20) : (ww 46 ad (cellC cI cR ad M E P C N))[20 + i.val]? = some (ra ad i, .inr (2, [.ref (aa ad i)])) := by rw [ww_get (by omega), cl_row]
theorem cc_ext : (ww 46 ad (cellC cI cR ad M E P C N))[40]? = some (ad 40, .inr (0, [.int (E 0), .int (E 1), .int (E 2), .int (E 3), .int (E 4), .int (E 5), .int (E 6), .int (E 7)])) := ww_get (by decide)
theorem cc_ring : (ww 46 ad (cellC cI cR ad M E P C N))[41]? = some (ad 41, .inr (1, [.ref (ad 40), .ref (ra ad 1), .ref (ra ad 2), .ref (ra ad 3), .ref (ra ad 4), .ref (ra ad 5), .ref (ra ad 6), .ref (ra ad 7), .ref (ra ad 8), .ref (ra ad 9), .ref (ra ad 10)])) := ww_get (by decide)
theorem cc_spl : (ww 46 ad (cellC cI cR ad M E P C N))[42]? = some (ad 42, .inr (3, [.ref (ad 43), .ref (ad 44), .int (N 0), .int (N 1), .ref (ra ad 11), .ref (ra ad 12), .ref (ra ad 13), .ref (ra ad 14)])) := ww_get (by decide)
theorem cc_parts : (ww 46 ad (cellC cI cR ad M E P C N))[43]? = some (ad 43, .inl (cR, 5, .inr (.inr (.inr (.inr (fun i => some (ra ad (P i)))))))) := ww_get (by decide)
theorem cc_counts : (ww 46 ad (cellC cI cR ad M E P C N))[44]? = some (ad 44, .inl (cI, 5, .inl C)) := ww_get (by decide)
theorem cc_main : (ww 46 ad (cellC cI cR ad M E P C N))[45]? = some (ad 45, .inr (4, [.ref (ra ad 0), .ref (ad 41), .ref (ad 42)])) := ww_get (by decide)
theorem cs_M (i : Fin 20) {v : Nat → Int32} (h : va_P D vwCl ((ww 46 ad (cellC cI cR ad M E P C N)).set i.val (aa ad i, .inl (cI, 16, .inl v))) H) : va_P D vwCl (ww 46 ad (cellC cI cR ad (fup M i v) E P C N)) H := by
  rw [ww_set (c' := cellC cI cR ad (fup M i v) E P C N)] at h
  · exact h
  · rw [cl_arr]; simp [fup]
  · intro j hj
    by_cases h2 : j < 20
    · have h3 : (⟨j, h2⟩ : Fin 20) ≠ i := fun e => hj (by rw [← e])
      simp [cellC, h2, fup, h3]
    · simp [cellC, h2]
theorem cs_of {c' : Nat → va_E} {k : Nat} {e : va_E} (h : va_P D vwCl ((ww 46 ad (cellC cI cR ad M E P C N)).set k (ad k, e)) H) (h1 : c' k = e) (h2 : ∀ j, j ≠ k → c' j = cellC cI cR ad M E P C N j) : va_P D vwCl (ww 46 ad c') H := by
  rw [ww_set h1 h2] at h
  exact h
theorem ce_off {E' : Nat → Int32} : ∀ j, j ≠ 40 → cellC cI cR ad M E' P C N j = cellC cI cR ad M E P C N j := by
  intro j hj
  simp [cellC, hj]
theorem cn_off {N' : Nat → Int32} : ∀ j, j ≠ 42 → cellC cI cR ad M E P C N' j = cellC cI cR ad M E P C N j := by
  intro j hj
  simp [cellC, hj]
theorem cs_C {v : Nat → Int32} (h : va_P D vwCl ((ww 46 ad (cellC cI cR ad M E P C N)).set 44 (ad 44, .inl (cI, 5, .inl v))) H) : va_P D vwCl (ww 46 ad (cellC cI cR ad M E P v N)) H := cs_of h rfl (fun j hj => by simp [cellC, hj])
theorem cs_P {j : Nat} {r : Fin 20} (h : va_P D vwCl ((ww 46 ad (cellC cI cR ad M E P C N)).set 43 (ad 43, .inl (cR, 5, .inr (.inr (.inr (.inr (va_up (fun i => some (ra ad (P i))) j (some (ra ad r))))))))) H) : va_P D vwCl (ww 46 ad (cellC cI cR ad M E (va_up P j r) C N)) H := by
  refine cs_of h ?_ (fun k hk => by simp [cellC, hk])
  have e : va_up (fun i => some (ra ad (P i))) j (some (ra ad r)) = fun i => some (ra ad (va_up P j r i)) := by
    funext i
    by_cases hi : i = j <;> simp [va_up, hi]
  rw [e]
  rfl
theorem cs_E0 {v : Int32} (h : va_P D vwCl ((ww 46 ad (cellC cI cR ad M E P C N)).set 40 (ad 40, .inr (0, [.int (E 0), .int (E 1), .int (E 2), .int (E 3), .int (E 4), .int (E 5), .int (E 6), .int (E 7)].set 0 (.int v)))) H) : va_P D vwCl (ww 46 ad (cellC cI cR ad M (va_up E 0 v) P C N)) H := cs_of h rfl ce_off
theorem cs_E1 {v : Int32} (h : va_P D vwCl ((ww 46 ad (cellC cI cR ad M E P C N)).set 40 (ad 40, .inr (0, [.int (E 0), .int (E 1), .int (E 2), .int (E 3), .int (E 4), .int (E 5), .int (E 6), .int (E 7)].set 1 (.int v)))) H) : va_P D vwCl (ww 46 ad (cellC cI cR ad M (va_up E 1 v) P C N)) H := cs_of h rfl ce_off
theorem cs_E2 {v : Int32} (h : va_P D vwCl ((ww 46 ad (cellC cI cR ad M E P C N)).set 40 (ad 40, .inr (0, [.int (E 0), .int (E 1), .int (E 2), .int (E 3), .int (E 4), .int (E 5), .int (E 6), .int (E 7)].set 2 (.int v)))) H) : va_P D vwCl (ww 46 ad (cellC cI cR ad M (va_up E 2 v) P C N)) H := cs_of h rfl ce_off
theorem cs_E3 {v : Int32} (h : va_P D vwCl ((ww 46 ad (cellC cI cR ad M E P C N)).set 40 (ad 40, .inr (0, [.int (E 0), .int (E 1), .int (E 2), .int (E 3), .int (E 4), .int (E 5), .int (E 6), .int (E 7)].set 3 (.int v)))) H) : va_P D vwCl (ww 46 ad (cellC cI cR ad M (va_up E 3 v) P C N)) H := cs_of h rfl ce_off
theorem cs_E4 {v : Int32} (h : va_P D vwCl ((ww 46 ad (cellC cI cR ad M E P C N)).set 40 (ad 40, .inr (0, [.int (E 0), .int (E 1), .int (E 2), .int (E 3), .int (E 4), .int (E 5), .int (E 6), .int (E 7)].set 4 (.int v)))) H) : va_P D vwCl (ww 46 ad (cellC cI cR ad M (va_up E 4 v) P C N)) H := cs_of h rfl ce_off
theorem cs_E5 {v : Int32} (h : va_P D vwCl ((ww 46 ad (cellC cI cR ad M E P C N)).set 40 (ad 40, .inr (0, [.int (E 0), .int (E 1), .int (E 2), .int (E 3), .int (E 4), .int (E 5), .int (E 6), .int (E 7)].set 5 (.int v)))) H) : va_P D vwCl (ww 46 ad (cellC cI cR ad M (va_up E 5 v) P C N)) H := cs_of h rfl ce_off
theorem cs_E6 {v : Int32} (h : va_P D vwCl ((ww 46 ad (cellC cI cR ad M E P C N)).set 40 (ad 40, .inr (0, [.int (E 0), .int (E 1), .int (E 2), .int (E 3), .int (E 4), .int (E 5), .int (E 6), .int (E 7)].set 6 (.int v)))) H) : va_P D vwCl (ww 46 ad (cellC cI cR ad M (va_up E 6 v) P C N)) H := cs_of h rfl ce_off
theorem cs_E7 {v : Int32} (h : va_P D vwCl ((ww 46 ad (cellC cI cR ad M E P C N)).set 40 (ad 40, .inr (0, [.int (E 0), .int (E 1), .int (E 2), .int (E 3), .int (E 4), .int (E 5), .int (E 6), .int (E 7)].set 7 (.int v)))) H) : va_P D vwCl (ww 46 ad (cellC cI cR ad M (va_up E 7 v) P C N)) H := cs_of h rfl ce_off
theorem cs_N0 {v : Int32} (h : va_P D vwCl ((ww 46 ad (cellC cI cR ad M E P C N)).set 42 (ad 42, .inr (3, [.ref (ad 43), .ref (ad 44), .int (N 0), .int (N 1), .ref (ra ad 11), .ref (ra ad 12), .ref (ra ad 13), .ref (ra ad 14)].set 2 (.int v)))) H) : va_P D vwCl (ww 46 ad (cellC cI cR ad M E P C (va_up N 0 v))) H := cs_of h rfl cn_off
theorem cs_N1 {v : Int32} (h : va_P D vwCl ((ww 46 ad (cellC cI cR ad M E P C N)).set 42 (ad 42, .inr (3, [.ref (ad 43), .ref (ad 44), .int (N 0), .int (N 1), .ref (ra ad 11), .ref (ra ad 12), .ref (ra ad 13), .ref (ra ad 14)].set 3 (.int v)))) H) : va_P D vwCl (ww 46 ad (cellC cI cR ad M E P C (va_up N 1 v))) H := cs_of h rfl cn_off
end WC
/-- the words on nest mates' fields -/
def nw0 : List Cond := [.fieldLinkNest RX1 109 "NumberFieldFactors$Extension" "degree" "I" "NumberFieldFactors", .fieldLinkNest RX4 97 "NumberFieldFactors$Extension" "size" "I" "NumberFieldFactors", .fieldLinkNest RX1 81 "NumberFieldFactors$Extension" "size" "I" "NumberFieldFactors", .fieldLinkNest RX3 95 "NumberFieldFactors$Extension" "size" "I" "NumberFieldFactors", .fieldLinkNest RX1 117 "NumberFieldFactors$Extension" "t" "I" "NumberFieldFactors", .fieldLinkNest RX4 37 "NumberFieldFactors$Ring" "extension" "LNumberFieldFactors$Extension;" "NumberFieldFactors", .fieldLinkNest RX3 91 "NumberFieldFactors$Ring" "extension" "LNumberFieldFactors$Extension;" "NumberFieldFactors", .fieldLinkNest RX3 85 "NumberFieldFactors$Ring" "quotient" "LNumberFieldFactors$Row;" "NumberFieldFactors", .fieldLinkNest RX4 150 "NumberFieldFactors$Splitter" "count" "I" "NumberFieldFactors", .fieldLinkNest RX4 143 "NumberFieldFactors$Splitter" "root" "LNumberFieldFactors$Row;" "NumberFieldFactors"]
