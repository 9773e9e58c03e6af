section
/-! ===== BEGIN words of one list among another's, by their places ===== -/
theorem goodIn_r {big : List Cond} (ws : List Cond) (ps : List Nat) (hp : ws = ps.filterMap (fun i => big[i]?)) (h : ws.all goodWord = true) : GoodIn big ws := by
  intro w hw
  have h1 := List.all_eq_true.mp h w hw
  rw [hp] at hw
  obtain ⟨i, -, hi⟩ := List.mem_filterMap.mp hw
  have hm : w ∈ big := by first | exact List.mem_of_getElem? hi | exact List.getElem?_mem hi
  exact ⟨hm, good_of_word h1⟩
theorem goodIn_app {big a b : List Cond} (ha : GoodIn big a) (hb : GoodIn big b) : GoodIn big (a ++ b) := fun w h => (List.mem_append.mp h).elim (ha w) (hb w)
theorem goodIn_ca {big a b : List Cond} {c : Cond} (ha : GoodIn big (c :: a)) (hb : GoodIn big b) : GoodIn big (c :: (a ++ b)) := fun w h => (List.mem_cons.mp h).elim (fun e => ha w (List.mem_cons.mpr (Or.inl e))) (fun h => (List.mem_append.mp h).elim (fun h => ha w (List.mem_cons.mpr (Or.inr h))) (hb w))
theorem goodIn_sub {big ws : List Cond} (hm : ∀ w ∈ ws, w ∈ big) (h : ws.all goodWord = true) : GoodIn big ws := fun w hw => ⟨hm w hw, good_of_word (List.all_eq_true.mp h w hw)⟩
/-! ===== END ===== -/

def RX0 : String := "NumberFieldFactors$Extension"
def TX0 : u_T := fun k => match k with
  | 0 => ("NumberFieldFactors$Extension", "degree", "I", false)
  | 1 => ("NumberFieldFactors$Extension", "size", "I", false)
  | 2 => ("NumberFieldFactors$Extension", "low0", "I", false)
  | 3 => ("NumberFieldFactors$Extension", "low1", "I", false)
  | 4 => ("NumberFieldFactors$Extension", "low2", "I", false)
  | 5 => ("NumberFieldFactors$Extension", "t", "I", false)
  | 6 => ("NumberFieldFactors$Extension", "mateOfT", "I", false)
  | _ => ("NumberFieldFactors$Extension", "mateOfTSquared", "I", false)
def tyX0 : Nat → FieldType := fun k => match k with
  | 0 => .int
  | 1 => .int
  | 2 => .int
  | 3 => .int
  | 4 => .int
  | 5 => .int
  | 6 => .int
  | _ => .int
abbrev wsX00 : List Cond := u_ws RX0 TX0 8
theorem nmX0 : ∀ a, a < 8 → ∀ b, b < 8 → a ≠ b → (TX0 a).2.1 ≠ (TX0 b).2.1 := by decide +kernel
theorem tyX0_ok : ∀ k, k < 8 → parseFieldDescriptor (TX0 k).2.2.1 = some (tyX0 k) := by decide +kernel
abbrev cX0_init : ByteArray := prog_2_method_1_code
def yX0_init : MethodName := ⟨RX0, "<init>", "()V"⟩
abbrev cX0_become : ByteArray := prog_2_method_2_code
def yX0_become : MethodName := ⟨RX0, "become", "(IIII)Z"⟩
abbrev cX0_hasRoot : ByteArray := prog_2_method_3_code
def yX0_hasRoot : MethodName := ⟨RX0, "hasRoot", "(IIII)Z"⟩
abbrev cX0_modulusAt : ByteArray := prog_2_method_4_code
def yX0_modulusAt : MethodName := ⟨RX0, "modulusAt", "(I)I"⟩
abbrev cX0_plus : ByteArray := prog_2_method_5_code
def yX0_plus : MethodName := ⟨RX0, "plus", "(II)I"⟩
abbrev cX0_minus : ByteArray := prog_2_method_6_code
def yX0_minus : MethodName := ⟨RX0, "minus", "(II)I"⟩
abbrev cX0_times : ByteArray := prog_2_method_7_code
def yX0_times : MethodName := ⟨RX0, "times", "(II)I"⟩
abbrev cX0_power : ByteArray := prog_2_method_8_code
def yX0_power : MethodName := ⟨RX0, "power", "(II)I"⟩
abbrev cX0_mate : ByteArray := prog_2_method_9_code
def yX0_mate : MethodName := ⟨RX0, "mate", "(I)I"⟩
abbrev cX0_isSquare : ByteArray := prog_2_method_10_code
def yX0_isSquare : MethodName := ⟨RX0, "isSquare", "(I)Z"⟩
abbrev cX0_matesProduct : ByteArray := prog_2_method_11_code
def yX0_matesProduct : MethodName := ⟨RX0, "matesProduct", "(I)I"⟩
abbrev cX0_matesSum : ByteArray := prog_2_method_12_code
def yX0_matesSum : MethodName := ⟨RX0, "matesSum", "(I)I"⟩
abbrev cX0_differentMates : ByteArray := prog_2_method_13_code
def yX0_differentMates : MethodName := ⟨RX0, "differentMates", "(I)I"⟩
def RX1 : String := "NumberFieldFactors$Ring"
def TX1 : u_T := fun k => match k with
  | 0 => ("NumberFieldFactors$Ring", "extension", "LNumberFieldFactors$Extension;", true)
  | 1 => ("NumberFieldFactors$Ring", "wide", "LNumberFieldFactors$Row;", true)
  | 2 => ("NumberFieldFactors$Ring", "quotient", "LNumberFieldFactors$Row;", true)
  | 3 => ("NumberFieldFactors$Ring", "older", "LNumberFieldFactors$Row;", true)
  | 4 => ("NumberFieldFactors$Ring", "newer", "LNumberFieldFactors$Row;", true)
  | 5 => ("NumberFieldFactors$Ring", "derived", "LNumberFieldFactors$Row;", true)
  | 6 => ("NumberFieldFactors$Ring", "mates", "LNumberFieldFactors$Row;", true)
  | 7 => ("NumberFieldFactors$Ring", "product", "LNumberFieldFactors$Row;", true)
  | 8 => ("NumberFieldFactors$Ring", "moved", "LNumberFieldFactors$Row;", true)
  | 9 => ("NumberFieldFactors$Ring", "least", "LNumberFieldFactors$Row;", true)
  | _ => ("NumberFieldFactors$Ring", "common", "LNumberFieldFactors$Row;", true)
def tyX1 : Nat → FieldType := fun k => match k with
  | 0 => .object "NumberFieldFactors$Extension"
  | 1 => .object "NumberFieldFactors$Row"
  | 2 => .object "NumberFieldFactors$Row"
  | 3 => .object "NumberFieldFactors$Row"
  | 4 => .object "NumberFieldFactors$Row"
  | 5 => .object "NumberFieldFactors$Row"
  | 6 => .object "NumberFieldFactors$Row"
  | 7 => .object "NumberFieldFactors$Row"
  | 8 => .object "NumberFieldFactors$Row"
  | 9 => .object "NumberFieldFactors$Row"
  | _ => .object "NumberFieldFactors$Row"
abbrev wsX10 : List Cond := u_ws RX1 TX1 11
theorem nmX1 : ∀ a, a < 11 → ∀ b, b < 11 → a ≠ b → (TX1 a).2.1 ≠ (TX1 b).2.1 := by decide +kernel
theorem tyX1_ok : ∀ k, k < 11 → parseFieldDescriptor (TX1 k).2.2.1 = some (tyX1 k) := by decide +kernel
abbrev cX1_init : ByteArray := prog_3_method_1_code
def yX1_init : MethodName := ⟨RX1, "<init>", "()V"⟩
abbrev cX1_valueOf : ByteArray := prog_3_method_2_code
def yX1_valueOf : MethodName := ⟨RX1, "valueOf", "(LNumberFieldFactors$Row;I)I"⟩
abbrev cX1_displace : ByteArray := prog_3_method_3_code
def yX1_displace : MethodName := ⟨RX1, "displace", "(LNumberFieldFactors$Row;I)V"⟩
abbrev cX1_multiply : ByteArray := prog_3_method_4_code
def yX1_multiply : MethodName := ⟨RX1, "multiply", "(LNumberFieldFactors$Row;LNumberFieldFactors$Row;)V"⟩
abbrev cX1_multiplyLinear : ByteArray := prog_3_method_5_code
def yX1_multiplyLinear : MethodName := ⟨RX1, "multiplyLinear", "(LNumberFieldFactors$Row;I)V"⟩
abbrev cX1_divide : ByteArray := prog_3_method_6_code
def yX1_divide : MethodName := ⟨RX1, "divide", "(LNumberFieldFactors$Row;LNumberFieldFactors$Row;)V"⟩
abbrev cX1_makeMonic : ByteArray := prog_3_method_7_code
def yX1_makeMonic : MethodName := ⟨RX1, "makeMonic", "(LNumberFieldFactors$Row;)V"⟩
abbrev cX1_findCommon : ByteArray := prog_3_method_8_code
def yX1_findCommon : MethodName := ⟨RX1, "findCommon", "(LNumberFieldFactors$Row;LNumberFieldFactors$Row;LNumberFieldFactors$Row;)V"⟩
abbrev cX1_findSquares : ByteArray := prog_3_method_9_code
def yX1_findSquares : MethodName := ⟨RX1, "findSquares", "(LNumberFieldFactors$Row;LNumberFieldFactors$Row;)V"⟩
abbrev cX1_raiseLinear : ByteArray := prog_3_method_10_code
def yX1_raiseLinear : MethodName := ⟨RX1, "raiseLinear", "(IJLNumberFieldFactors$Row;LNumberFieldFactors$Row;)V"⟩
abbrev cX1_normOf : ByteArray := prog_3_method_11_code
def yX1_normOf : MethodName := ⟨RX1, "normOf", "(LNumberFieldFactors$Row;)LNumberFieldFactors$Row;"⟩
abbrev cX1_leastPolynomial : ByteArray := prog_3_method_12_code
def yX1_leastPolynomial : MethodName := ⟨RX1, "leastPolynomial", "(I)LNumberFieldFactors$Row;"⟩
abbrev cX1_leastShift : ByteArray := prog_3_method_13_code
def yX1_leastShift : MethodName := ⟨RX1, "leastShift", "(LNumberFieldFactors$Row;)I"⟩
def RX2 : String := "NumberFieldFactors$Row"
def TX2 : u_T := fun k => match k with
  | _ => ("NumberFieldFactors$Row", "elements", "[I", true)
def tyX2 : Nat → FieldType := fun k => match k with
  | _ => .array .int
abbrev wsX20 : List Cond := u_ws RX2 TX2 1
theorem nmX2 : ∀ a, a < 1 → ∀ b, b < 1 → a ≠ b → (TX2 a).2.1 ≠ (TX2 b).2.1 := by decide +kernel
theorem tyX2_ok : ∀ k, k < 1 → parseFieldDescriptor (TX2 k).2.2.1 = some (tyX2 k) := by decide +kernel
abbrev cX2_init : ByteArray := prog_4_method_1_code
def yX2_init : MethodName := ⟨RX2, "<init>", "()V"⟩
abbrev cX2_get : ByteArray := prog_4_method_2_code
def yX2_get : MethodName := ⟨RX2, "get", "(I)I"⟩
abbrev cX2_set : ByteArray := prog_4_method_3_code
def yX2_set : MethodName := ⟨RX2, "set", "(II)V"⟩
abbrev cX2_degree : ByteArray := prog_4_method_4_code
def yX2_degree : MethodName := ⟨RX2, "degree", "()I"⟩
abbrev cX2_clear : ByteArray := prog_4_method_5_code
def yX2_clear : MethodName := ⟨RX2, "clear", "()V"⟩
abbrev cX2_copy : ByteArray := prog_4_method_6_code
def yX2_copy : MethodName := ⟨RX2, "copy", "(LNumberFieldFactors$Row;)V"⟩
abbrev cX2_becomeOne : ByteArray := prog_4_method_7_code
def yX2_becomeOne : MethodName := ⟨RX2, "becomeOne", "()V"⟩
abbrev cX2_isBefore : ByteArray := prog_4_method_8_code
def yX2_isBefore : MethodName := ⟨RX2, "isBefore", "(LNumberFieldFactors$Row;)Z"⟩
def RX3 : String := "NumberFieldFactors$Splitter"
def TX3 : u_T := fun k => match k with
  | 0 => ("NumberFieldFactors$Splitter", "parts", "[LNumberFieldFactors$Row;", true)
  | 1 => ("NumberFieldFactors$Splitter", "counts", "[I", true)
  | 2 => ("NumberFieldFactors$Splitter", "count", "I", false)
  | 3 => ("NumberFieldFactors$Splitter", "found", "Z", false)
  | 4 => ("NumberFieldFactors$Splitter", "root", "LNumberFieldFactors$Row;", true)
  | 5 => ("NumberFieldFactors$Splitter", "rest", "LNumberFieldFactors$Row;", true)
  | 6 => ("NumberFieldFactors$Splitter", "power", "LNumberFieldFactors$Row;", true)
  | _ => ("NumberFieldFactors$Splitter", "shared", "LNumberFieldFactors$Row;", true)
def tyX3 : Nat → FieldType := fun k => match k with
  | 0 => .array (.object "NumberFieldFactors$Row")
  | 1 => .array .int
  | 2 => .int
  | 3 => .boolean
  | 4 => .object "NumberFieldFactors$Row"
  | 5 => .object "NumberFieldFactors$Row"
  | 6 => .object "NumberFieldFactors$Row"
  | _ => .object "NumberFieldFactors$Row"
abbrev wsX30 : List Cond := u_ws RX3 TX3 8
theorem nmX3 : ∀ a, a < 8 → ∀ b, b < 8 → a ≠ b → (TX3 a).2.1 ≠ (TX3 b).2.1 := by decide +kernel
theorem tyX3_ok : ∀ k, k < 8 → parseFieldDescriptor (TX3 k).2.2.1 = some (tyX3 k) := by decide +kernel
abbrev cX3_init : ByteArray := prog_5_method_1_code
def yX3_init : MethodName := ⟨RX3, "<init>", "()V"⟩
abbrev cX3_forget : ByteArray := prog_5_method_2_code
def yX3_forget : MethodName := ⟨RX3, "forget", "()V"⟩
abbrev cX3_part : ByteArray := prog_5_method_3_code
def yX3_part : MethodName := ⟨RX3, "part", "(I)LNumberFieldFactors$Row;"⟩
abbrev cX3_timesOf : ByteArray := prog_5_method_4_code
def yX3_timesOf : MethodName := ⟨RX3, "timesOf", "(I)I"⟩
abbrev cX3_commonDegree : ByteArray := prog_5_method_5_code
def yX3_commonDegree : MethodName := ⟨RX3, "commonDegree", "()I"⟩
abbrev cX3_find : ByteArray := prog_5_method_6_code
def yX3_find : MethodName := ⟨RX3, "find", "(LNumberFieldFactors$Ring;LNumberFieldFactors$Row;)V"⟩
abbrev cX3_keepRoot : ByteArray := prog_5_method_7_code
def yX3_keepRoot : MethodName := ⟨RX3, "keepRoot", "(LNumberFieldFactors$Ring;LNumberFieldFactors$Row;)V"⟩
abbrev cX3_add : ByteArray := prog_5_method_8_code
def yX3_add : MethodName := ⟨RX3, "add", "(LNumberFieldFactors$Row;)V"⟩
abbrev cX3_sizeToThe : ByteArray := prog_5_method_9_code
def yX3_sizeToThe : MethodName := ⟨RX3, "sizeToThe", "(LNumberFieldFactors$Ring;I)J"⟩
abbrev cX3_collect : ByteArray := prog_5_method_10_code
def yX3_collect : MethodName := ⟨RX3, "collect", "(LNumberFieldFactors$Ring;I)V"⟩
abbrev cX3_separate : ByteArray := prog_5_method_11_code
def yX3_separate : MethodName := ⟨RX3, "separate", "(LNumberFieldFactors$Ring;II)V"⟩
abbrev cX3_sort : ByteArray := prog_5_method_12_code
def yX3_sort : MethodName := ⟨RX3, "sort", "()V"⟩
abbrev cX3_countTimes : ByteArray := prog_5_method_13_code
def yX3_countTimes : MethodName := ⟨RX3, "countTimes", "(LNumberFieldFactors$Ring;LNumberFieldFactors$Row;)V"⟩
def RX4 : String := "NumberFieldFactors"
def TX4 : u_T := fun k => match k with
  | 0 => ("NumberFieldFactors", "f", "LNumberFieldFactors$Row;", true)
  | 1 => ("NumberFieldFactors", "ring", "LNumberFieldFactors$Ring;", true)
  | _ => ("NumberFieldFactors", "splitter", "LNumberFieldFactors$Splitter;", true)
def tyX4 : Nat → FieldType := fun k => match k with
  | 0 => .object "NumberFieldFactors$Row"
  | 1 => .object "NumberFieldFactors$Ring"
  | _ => .object "NumberFieldFactors$Splitter"
abbrev wsX40 : List Cond := u_ws RX4 TX4 3
theorem nmX4 : ∀ a, a < 3 → ∀ b, b < 3 → a ≠ b → (TX4 a).2.1 ≠ (TX4 b).2.1 := by decide +kernel
theorem tyX4_ok : ∀ k, k < 3 → parseFieldDescriptor (TX4 k).2.2.1 = some (tyX4 k) := by decide +kernel
abbrev cX4_init : ByteArray := prog_1_method_1_code
def yX4_init : MethodName := ⟨RX4, "<init>", "()V"⟩
abbrev cX4_field : ByteArray := prog_1_method_2_code
def yX4_field : MethodName := ⟨RX4, "field", "(IJJJ)Z"⟩
abbrev cX4_modulus : ByteArray := prog_1_method_3_code
def yX4_modulus : MethodName := ⟨RX4, "modulus", "(I)I"⟩
abbrev cX4_put : ByteArray := prog_1_method_4_code
def yX4_put : MethodName := ⟨RX4, "put", "(II)Z"⟩
abbrev cX4_at : ByteArray := prog_1_method_5_code
def yX4_at : MethodName := ⟨RX4, "at", "(I)I"⟩
abbrev cX4_reckon : ByteArray := prog_1_method_6_code
def yX4_reckon : MethodName := ⟨RX4, "reckon", "(III)I"⟩
abbrev cX4_known : ByteArray := prog_1_method_7_code
def yX4_known : MethodName := ⟨RX4, "known", "(II)I"⟩
abbrev cX4_minimal : ByteArray := prog_1_method_8_code
def yX4_minimal : MethodName := ⟨RX4, "minimal", "(II)I"⟩
abbrev cX4_value : ByteArray := prog_1_method_9_code
def yX4_value : MethodName := ⟨RX4, "value", "(I)I"⟩
abbrev cX4_norm : ByteArray := prog_1_method_10_code
def yX4_norm : MethodName := ⟨RX4, "norm", "(I)I"⟩
abbrev cX4_shift : ByteArray := prog_1_method_11_code
def yX4_shift : MethodName := ⟨RX4, "shift", "()I"⟩
abbrev cX4_factors : ByteArray := prog_1_method_12_code
def yX4_factors : MethodName := ⟨RX4, "factors", "()I"⟩
abbrev cX4_factor : ByteArray := prog_1_method_13_code
def yX4_factor : MethodName := ⟨RX4, "factor", "(II)I"⟩
abbrev cX4_often : ByteArray := prog_1_method_14_code
def yX4_often : MethodName := ⟨RX4, "often", "(I)I"⟩
abbrev cX4_splitting : ByteArray := prog_1_method_15_code
def yX4_splitting : MethodName := ⟨RX4, "splitting", "()I"⟩
abbrev cX4_move : ByteArray := prog_1_method_16_code
def yX4_move : MethodName := ⟨RX4, "move", "(I)V"⟩
abbrev cX4_take : ByteArray := prog_1_method_17_code
def yX4_take : MethodName := ⟨RX4, "take", "(I)V"⟩
abbrev cX4_numberOf : ByteArray := prog_1_method_18_code
def yX4_numberOf : MethodName := ⟨RX4, "numberOf", "(J)I"⟩
abbrev cX4_requirePower : ByteArray := prog_1_method_19_code
def yX4_requirePower : MethodName := ⟨RX4, "requirePower", "(I)V"⟩
abbrev cX4_requireElement : ByteArray := prog_1_method_20_code
def yX4_requireElement : MethodName := ⟨RX4, "requireElement", "(I)V"⟩
abbrev cX4_requireSome : ByteArray := prog_1_method_21_code
def yX4_requireSome : MethodName := ⟨RX4, "requireSome", "()V"⟩
abbrev cX4_requireFactor : ByteArray := prog_1_method_22_code
def yX4_requireFactor : MethodName := ⟨RX4, "requireFactor", "(I)V"⟩
def RX5 : String := "NumberFieldFactorsModel"
def TX5 : u_T := fun k => match k with
  | 0 => ("NumberFieldFactorsModel", "thrown", "I", false)
  | 1 => ("NumberFieldFactorsModel", "k", "I", false)
  | 2 => ("NumberFieldFactorsModel", "many", "J", false)
  | 3 => ("NumberFieldFactorsModel", "modulus", "[I", true)
  | 4 => ("NumberFieldFactorsModel", "digits", "[I", true)
  | 5 => ("NumberFieldFactorsModel", "row", "[I", true)
  | 6 => ("NumberFieldFactorsModel", "degree", "[I", true)
  | 7 => ("NumberFieldFactorsModel", "known", "Z", false)
  | 8 => ("NumberFieldFactorsModel", "factors", "I", false)
  | _ => ("NumberFieldFactorsModel", "often", "[I", true)
def tyX5 : Nat → FieldType := fun k => match k with
  | 0 => .int
  | 1 => .int
  | 2 => .long
  | 3 => .array .int
  | 4 => .array .int
  | 5 => .array .int
  | 6 => .array .int
  | 7 => .boolean
  | 8 => .int
  | _ => .array .int
abbrev wsX50 : List Cond := u_ws RX5 TX5 10
theorem nmX5 : ∀ a, a < 10 → ∀ b, b < 10 → a ≠ b → (TX5 a).2.1 ≠ (TX5 b).2.1 := by decide +kernel
theorem tyX5_ok : ∀ k, k < 10 → parseFieldDescriptor (TX5 k).2.2.1 = some (tyX5 k) := by decide +kernel
abbrev cX5_init : ByteArray := prog_7_method_1_code
def yX5_init : MethodName := ⟨RX5, "<init>", "()V"⟩
abbrev cX5_thrown : ByteArray := prog_7_method_2_code
def yX5_thrown : MethodName := ⟨RX5, "thrown", "()I"⟩
abbrev cX5_fails : ByteArray := prog_7_method_3_code
def yX5_fails : MethodName := ⟨RX5, "fails", "(ZZ)Z"⟩
abbrev cX5_isElement : ByteArray := prog_7_method_4_code
def yX5_isElement : MethodName := ⟨RX5, "isElement", "(I)Z"⟩
abbrev cX5_digit : ByteArray := prog_7_method_5_code
def yX5_digit : MethodName := ⟨RX5, "digit", "(II)I"⟩
abbrev cX5_add : ByteArray := prog_7_method_6_code
def yX5_add : MethodName := ⟨RX5, "add", "(II)I"⟩
abbrev cX5_negative : ByteArray := prog_7_method_7_code
def yX5_negative : MethodName := ⟨RX5, "negative", "(I)I"⟩
abbrev cX5_less : ByteArray := prog_7_method_8_code
def yX5_less : MethodName := ⟨RX5, "less", "(II)I"⟩
abbrev cX5_times : ByteArray := prog_7_method_9_code
def yX5_times : MethodName := ⟨RX5, "times", "(II)I"⟩
abbrev cX5_power : ByteArray := prog_7_method_10_code
def yX5_power : MethodName := ⟨RX5, "power", "(IJ)I"⟩
abbrev cX5_inverse : ByteArray := prog_7_method_11_code
def yX5_inverse : MethodName := ⟨RX5, "inverse", "(I)I"⟩
abbrev cX5_mate : ByteArray := prog_7_method_12_code
def yX5_mate : MethodName := ⟨RX5, "mate", "(II)I"⟩
abbrev cX5_mates : ByteArray := prog_7_method_13_code
def yX5_mates : MethodName := ⟨RX5, "mates", "(I)I"⟩
abbrev cX5_number : ByteArray := prog_7_method_14_code
def yX5_number : MethodName := ⟨RX5, "number", "(J)I"⟩
abbrev cX5_field : ByteArray := prog_7_method_15_code
def yX5_field : MethodName := ⟨RX5, "field", "(IJJJ)Z"⟩
abbrev cX5_modulus : ByteArray := prog_7_method_16_code
def yX5_modulus : MethodName := ⟨RX5, "modulus", "(I)I"⟩
abbrev cX5_clear : ByteArray := prog_7_method_17_code
def yX5_clear : MethodName := ⟨RX5, "clear", "(I)V"⟩
abbrev cX5_copy : ByteArray := prog_7_method_18_code
def yX5_copy : MethodName := ⟨RX5, "copy", "(II)V"⟩
abbrev cX5_set : ByteArray := prog_7_method_19_code
def yX5_set : MethodName := ⟨RX5, "set", "(III)V"⟩
abbrev cX5_cell : ByteArray := prog_7_method_20_code
def yX5_cell : MethodName := ⟨RX5, "cell", "(II)I"⟩
abbrev cX5_product : ByteArray := prog_7_method_21_code
def yX5_product : MethodName := ⟨RX5, "product", "(III)V"⟩
abbrev cX5_divide : ByteArray := prog_7_method_22_code
def yX5_divide : MethodName := ⟨RX5, "divide", "(III)V"⟩
abbrev cX5_monic : ByteArray := prog_7_method_23_code
def yX5_monic : MethodName := ⟨RX5, "monic", "(I)V"⟩
abbrev cX5_divisor : ByteArray := prog_7_method_24_code
def yX5_divisor : MethodName := ⟨RX5, "divisor", "(II)V"⟩
abbrev cX5_slope : ByteArray := prog_7_method_25_code
def yX5_slope : MethodName := ⟨RX5, "slope", "(II)V"⟩
abbrev cX5_powers : ByteArray := prog_7_method_26_code
def yX5_powers : MethodName := ⟨RX5, "powers", "(IJII)V"⟩
abbrev cX5_moved : ByteArray := prog_7_method_27_code
def yX5_moved : MethodName := ⟨RX5, "moved", "(III)V"⟩
abbrev cX5_normOf : ByteArray := prog_7_method_28_code
def yX5_normOf : MethodName := ⟨RX5, "normOf", "(II)V"⟩
abbrev cX5_isPower : ByteArray := prog_7_method_29_code
def yX5_isPower : MethodName := ⟨RX5, "isPower", "(I)Z"⟩
abbrev cX5_put : ByteArray := prog_7_method_30_code
def yX5_put : MethodName := ⟨RX5, "put", "(II)Z"⟩
abbrev cX5_at : ByteArray := prog_7_method_31_code
def yX5_at : MethodName := ⟨RX5, "at", "(I)I"⟩
abbrev cX5_reckon : ByteArray := prog_7_method_32_code
def yX5_reckon : MethodName := ⟨RX5, "reckon", "(III)I"⟩
abbrev cX5_known : ByteArray := prog_7_method_33_code
def yX5_known : MethodName := ⟨RX5, "known", "(II)I"⟩
abbrev cX5_minimal : ByteArray := prog_7_method_34_code
def yX5_minimal : MethodName := ⟨RX5, "minimal", "(II)I"⟩
abbrev cX5_value : ByteArray := prog_7_method_35_code
def yX5_value : MethodName := ⟨RX5, "value", "(I)I"⟩
abbrev cX5_norm : ByteArray := prog_7_method_36_code
def yX5_norm : MethodName := ⟨RX5, "norm", "(I)I"⟩
abbrev cX5_root : ByteArray := prog_7_method_37_code
def yX5_root : MethodName := ⟨RX5, "root", "()V"⟩
abbrev cX5_found : ByteArray := prog_7_method_38_code
def yX5_found : MethodName := ⟨RX5, "found", "(I)V"⟩
abbrev cX5_parts : ByteArray := prog_7_method_39_code
def yX5_parts : MethodName := ⟨RX5, "parts", "(I)V"⟩
abbrev cX5_split : ByteArray := prog_7_method_40_code
def yX5_split : MethodName := ⟨RX5, "split", "()V"⟩
abbrev cX5_isAhead : ByteArray := prog_7_method_41_code
def yX5_isAhead : MethodName := ⟨RX5, "isAhead", "(II)Z"⟩
abbrev cX5_order : ByteArray := prog_7_method_42_code
def yX5_order : MethodName := ⟨RX5, "order", "()V"⟩
abbrev cX5_factorise : ByteArray := prog_7_method_43_code
def yX5_factorise : MethodName := ⟨RX5, "factorise", "()V"⟩
abbrev cX5_isNothing : ByteArray := prog_7_method_44_code
def yX5_isNothing : MethodName := ⟨RX5, "isNothing", "()Z"⟩
abbrev cX5_shift : ByteArray := prog_7_method_45_code
def yX5_shift : MethodName := ⟨RX5, "shift", "()I"⟩
abbrev cX5_factors : ByteArray := prog_7_method_46_code
def yX5_factors : MethodName := ⟨RX5, "factors", "()I"⟩
abbrev cX5_lacks : ByteArray := prog_7_method_47_code
def yX5_lacks : MethodName := ⟨RX5, "lacks", "(I)Z"⟩
abbrev cX5_factor : ByteArray := prog_7_method_48_code
def yX5_factor : MethodName := ⟨RX5, "factor", "(II)I"⟩
abbrev cX5_often : ByteArray := prog_7_method_49_code
def yX5_often : MethodName := ⟨RX5, "often", "(I)I"⟩
abbrev cX5_splitting : ByteArray := prog_7_method_50_code
def yX5_splitting : MethodName := ⟨RX5, "splitting", "()I"⟩
abbrev cX5_move : ByteArray := prog_7_method_51_code
def yX5_move : MethodName := ⟨RX5, "move", "(I)V"⟩
abbrev cX5_take : ByteArray := prog_7_method_52_code
def yX5_take : MethodName := ⟨RX5, "take", "(I)V"⟩
def RJ0 : String := "java/lang/String"
def TJ0 : u_T := fun k => match k with
  | _ => ("", "", "", false)
def tyJ0 : Nat → FieldType := fun k => match k with
  | _ => .int
abbrev wsJ00 : List Cond := u_ws RJ0 TJ0 0
theorem nmJ0 : ∀ a, a < 0 → ∀ b, b < 0 → a ≠ b → (TJ0 a).2.1 ≠ (TJ0 b).2.1 := by decide +kernel
theorem tyJ0_ok : ∀ k, k < 0 → parseFieldDescriptor (TJ0 k).2.2.1 = some (tyJ0 k) := by decide +kernel
def RL : String := "NumberFieldFactorsLaw"
abbrev cL_field : ByteArray := method_3_code
def yL_field : MethodName := ⟨RL, "field", "(LNumberFieldFactors;IJJJ[J)I"⟩
abbrev cL_modulus : ByteArray := method_4_code
def yL_modulus : MethodName := ⟨RL, "modulus", "(LNumberFieldFactors;I[J)I"⟩
abbrev cL_put : ByteArray := method_5_code
def yL_put : MethodName := ⟨RL, "put", "(LNumberFieldFactors;II[J)I"⟩
abbrev cL_at : ByteArray := method_6_code
def yL_at : MethodName := ⟨RL, "at", "(LNumberFieldFactors;I[J)I"⟩
abbrev cL_reckon : ByteArray := method_7_code
def yL_reckon : MethodName := ⟨RL, "reckon", "(LNumberFieldFactors;III[J)I"⟩
abbrev cL_known : ByteArray := method_8_code
def yL_known : MethodName := ⟨RL, "known", "(LNumberFieldFactors;II[J)I"⟩
abbrev cL_minimal : ByteArray := method_9_code
def yL_minimal : MethodName := ⟨RL, "minimal", "(LNumberFieldFactors;II[J)I"⟩
abbrev cL_value : ByteArray := method_10_code
def yL_value : MethodName := ⟨RL, "value", "(LNumberFieldFactors;I[J)I"⟩
abbrev cL_shift : ByteArray := method_11_code
def yL_shift : MethodName := ⟨RL, "shift", "(LNumberFieldFactors;[J)I"⟩
abbrev cL_factors : ByteArray := method_12_code
def yL_factors : MethodName := ⟨RL, "factors", "(LNumberFieldFactors;[J)I"⟩
abbrev cL_factor : ByteArray := method_13_code
def yL_factor : MethodName := ⟨RL, "factor", "(LNumberFieldFactors;II[J)I"⟩
abbrev cL_often : ByteArray := method_14_code
def yL_often : MethodName := ⟨RL, "often", "(LNumberFieldFactors;I[J)I"⟩
abbrev cL_splitting : ByteArray := method_15_code
def yL_splitting : MethodName := ⟨RL, "splitting", "(LNumberFieldFactors;[J)I"⟩
abbrev cL_move : ByteArray := method_16_code
def yL_move : MethodName := ⟨RL, "move", "(LNumberFieldFactors;I)I"⟩
abbrev cL_take : ByteArray := method_17_code
def yL_take : MethodName := ⟨RL, "take", "(LNumberFieldFactors;I)I"⟩
abbrev cL_law : ByteArray := code
def yL_law : MethodName := ⟨RL, "law", "([I)Z"⟩
def wsX0_init : List Cond := .code yX0_init cX0_init 1 none :: ([.methodLink RX0 3 objectInit, .instanceMethod objectInit, .code objectInit ⟨#[0xb1]⟩ 1 none, .fieldLink RX0 9 "NumberFieldFactors$Extension" "degree" "I", .fieldLink RX0 15 "NumberFieldFactors$Extension" "size" "I", .fieldLink RX0 18 "NumberFieldFactors$Extension" "low0" "I", .fieldLink RX0 21 "NumberFieldFactors$Extension" "low1" "I", .fieldLink RX0 24 "NumberFieldFactors$Extension" "low2" "I", .fieldLink RX0 27 "NumberFieldFactors$Extension" "t" "I", .fieldLink RX0 30 "NumberFieldFactors$Extension" "mateOfT" "I", .fieldLink RX0 33 "NumberFieldFactors$Extension" "mateOfTSquared" "I"] ++ wsX00)
def wsX0_hasRoot : List Cond := .code yX0_hasRoot cX0_hasRoot 6 (some .boolean) :: ([])
def wsX0_times : List Cond := .code yX0_times cX0_times 15 (some .int) :: ([.fieldLink RX0 9 "NumberFieldFactors$Extension" "degree" "I", .fieldLink RX0 21 "NumberFieldFactors$Extension" "low1" "I", .fieldLink RX0 18 "NumberFieldFactors$Extension" "low0" "I", .fieldLink RX0 24 "NumberFieldFactors$Extension" "low2" "I"] ++ wsX00)
def wsX0_power : List Cond := .code yX0_power cX0_power 6 (some .int) :: ([.methodLink RX0 45 yX0_times, .instanceMethod yX0_times, .selects RX0 yX0_times yX0_times, .initialized RX0, .code yX0_times cX0_times 15 (some .int), .fieldLink RX0 9 "NumberFieldFactors$Extension" "degree" "I", .fieldLink RX0 21 "NumberFieldFactors$Extension" "low1" "I", .fieldLink RX0 18 "NumberFieldFactors$Extension" "low0" "I", .fieldLink RX0 24 "NumberFieldFactors$Extension" "low2" "I"] ++ wsX00)
def wsX0_become : List Cond := .code yX0_become cX0_become 7 (some .boolean) :: ([.fieldLink RX0 9 "NumberFieldFactors$Extension" "degree" "I", .constant RX0 40 (1030301), .fieldLink RX0 15 "NumberFieldFactors$Extension" "size" "I", .fieldLink RX0 18 "NumberFieldFactors$Extension" "low0" "I", .fieldLink RX0 21 "NumberFieldFactors$Extension" "low1" "I", .fieldLink RX0 24 "NumberFieldFactors$Extension" "low2" "I", .fieldLink RX0 27 "NumberFieldFactors$Extension" "t" "I", .fieldLink RX0 30 "NumberFieldFactors$Extension" "mateOfT" "I", .fieldLink RX0 33 "NumberFieldFactors$Extension" "mateOfTSquared" "I", .methodLink RX0 36 yX0_hasRoot, .static yX0_hasRoot, .initialized RX0, .code yX0_hasRoot cX0_hasRoot 6 (some .boolean), .methodLink RX0 41 yX0_power, .instanceMethod yX0_power, .selects RX0 yX0_power yX0_power, .code yX0_power cX0_power 6 (some .int), .methodLink RX0 45 yX0_times, .instanceMethod yX0_times, .selects RX0 yX0_times yX0_times, .code yX0_times cX0_times 15 (some .int)] ++ wsX00)
def wsX0_modulusAt : List Cond := .code yX0_modulusAt cX0_modulusAt 2 (some .int) :: ([.fieldLink RX0 9 "NumberFieldFactors$Extension" "degree" "I", .fieldLink RX0 18 "NumberFieldFactors$Extension" "low0" "I", .fieldLink RX0 21 "NumberFieldFactors$Extension" "low1" "I", .fieldLink RX0 24 "NumberFieldFactors$Extension" "low2" "I"] ++ wsX00)
def wsX0_plus : List Cond := .code yX0_plus cX0_plus 6 (some .int) :: ([])
def wsX0_minus : List Cond := .code yX0_minus cX0_minus 6 (some .int) :: ([])
def wsX0_mate : List Cond := .code yX0_mate cX0_mate 4 (some .int) :: ([.fieldLink RX0 33 "NumberFieldFactors$Extension" "mateOfTSquared" "I", .fieldLink RX0 30 "NumberFieldFactors$Extension" "mateOfT" "I", .methodLink RX0 45 yX0_times, .instanceMethod yX0_times, .selects RX0 yX0_times yX0_times, .initialized RX0, .code yX0_times cX0_times 15 (some .int), .fieldLink RX0 9 "NumberFieldFactors$Extension" "degree" "I", .fieldLink RX0 21 "NumberFieldFactors$Extension" "low1" "I", .fieldLink RX0 18 "NumberFieldFactors$Extension" "low0" "I", .fieldLink RX0 24 "NumberFieldFactors$Extension" "low2" "I", .methodLink RX0 48 yX0_plus, .instanceMethod yX0_plus, .selects RX0 yX0_plus yX0_plus, .code yX0_plus cX0_plus 6 (some .int)] ++ wsX00)
def wsX0_isSquare : List Cond := .code yX0_isSquare cX0_isSquare 2 (some .boolean) :: ([.fieldLink RX0 15 "NumberFieldFactors$Extension" "size" "I", .methodLink RX0 41 yX0_power, .instanceMethod yX0_power, .selects RX0 yX0_power yX0_power, .initialized RX0, .code yX0_power cX0_power 6 (some .int), .methodLink RX0 45 yX0_times, .instanceMethod yX0_times, .selects RX0 yX0_times yX0_times, .code yX0_times cX0_times 15 (some .int), .fieldLink RX0 9 "NumberFieldFactors$Extension" "degree" "I", .fieldLink RX0 21 "NumberFieldFactors$Extension" "low1" "I", .fieldLink RX0 18 "NumberFieldFactors$Extension" "low0" "I", .fieldLink RX0 24 "NumberFieldFactors$Extension" "low2" "I"] ++ wsX00)
def wsX0_matesProduct : List Cond := .code yX0_matesProduct cX0_matesProduct 5 (some .int) :: ([.fieldLink RX0 9 "NumberFieldFactors$Extension" "degree" "I", .methodLink RX0 51 yX0_mate, .instanceMethod yX0_mate, .selects RX0 yX0_mate yX0_mate, .initialized RX0, .code yX0_mate cX0_mate 4 (some .int), .fieldLink RX0 33 "NumberFieldFactors$Extension" "mateOfTSquared" "I", .fieldLink RX0 30 "NumberFieldFactors$Extension" "mateOfT" "I", .methodLink RX0 45 yX0_times, .instanceMethod yX0_times, .selects RX0 yX0_times yX0_times, .code yX0_times cX0_times 15 (some .int), .fieldLink RX0 21 "NumberFieldFactors$Extension" "low1" "I", .fieldLink RX0 18 "NumberFieldFactors$Extension" "low0" "I", .fieldLink RX0 24 "NumberFieldFactors$Extension" "low2" "I", .methodLink RX0 48 yX0_plus, .instanceMethod yX0_plus, .selects RX0 yX0_plus yX0_plus, .code yX0_plus cX0_plus 6 (some .int)] ++ wsX00)
def wsX0_matesSum : List Cond := .code yX0_matesSum cX0_matesSum 5 (some .int) :: ([.fieldLink RX0 9 "NumberFieldFactors$Extension" "degree" "I", .methodLink RX0 51 yX0_mate, .instanceMethod yX0_mate, .selects RX0 yX0_mate yX0_mate, .initialized RX0, .code yX0_mate cX0_mate 4 (some .int), .fieldLink RX0 33 "NumberFieldFactors$Extension" "mateOfTSquared" "I", .fieldLink RX0 30 "NumberFieldFactors$Extension" "mateOfT" "I", .methodLink RX0 45 yX0_times, .instanceMethod yX0_times, .selects RX0 yX0_times yX0_times, .code yX0_times cX0_times 15 (some .int), .fieldLink RX0 21 "NumberFieldFactors$Extension" "low1" "I", .fieldLink RX0 18 "NumberFieldFactors$Extension" "low0" "I", .fieldLink RX0 24 "NumberFieldFactors$Extension" "low2" "I", .methodLink RX0 48 yX0_plus, .instanceMethod yX0_plus, .selects RX0 yX0_plus yX0_plus, .code yX0_plus cX0_plus 6 (some .int)] ++ wsX00)
def wsX0_differentMates : List Cond := .code yX0_differentMates cX0_differentMates 2 (some .int) :: ([.fieldLink RX0 9 "NumberFieldFactors$Extension" "degree" "I", .methodLink RX0 51 yX0_mate, .instanceMethod yX0_mate, .selects RX0 yX0_mate yX0_mate, .initialized RX0, .code yX0_mate cX0_mate 4 (some .int), .fieldLink RX0 33 "NumberFieldFactors$Extension" "mateOfTSquared" "I", .fieldLink RX0 30 "NumberFieldFactors$Extension" "mateOfT" "I", .methodLink RX0 45 yX0_times, .instanceMethod yX0_times, .selects RX0 yX0_times yX0_times, .code yX0_times cX0_times 15 (some .int), .fieldLink RX0 21 "NumberFieldFactors$Extension" "low1" "I", .fieldLink RX0 18 "NumberFieldFactors$Extension" "low0" "I", .fieldLink RX0 24 "NumberFieldFactors$Extension" "low2" "I", .methodLink RX0 48 yX0_plus, .instanceMethod yX0_plus, .selects RX0 yX0_plus yX0_plus, .code yX0_plus cX0_plus 6 (some .int)] ++ wsX00)
def wsX2_init : List Cond := .code yX2_init cX2_init 1 none :: ([.methodLink RX2 3 objectInit, .instanceMethod objectInit, .code objectInit ⟨#[0xb1]⟩ 1 none, .arrayClass .int, .fieldLink RX2 9 "NumberFieldFactors$Row" "elements" "[I"] ++ wsX20)
def wsX1_init_r1 : List Cond := [Cond.methodLink RX1 3 objectInit, Cond.instanceMethod objectInit, Cond.code objectInit ⟨#[0xb1]⟩ 1 none, Cond.classLink RX1 9 RX0, Cond.instantiable RX0 8, Cond.initialized RX0, Cond.fieldLink RX1 12 "NumberFieldFactors$Ring" "extension" "LNumberFieldFactors$Extension;", Cond.classLink RX1 18 RX2, Cond.instantiable RX2 1, Cond.initialized RX2, Cond.fieldLink RX1 21 "NumberFieldFactors$Ring" "wide" "LNumberFieldFactors$Row;", Cond.fieldLink RX1 25 "NumberFieldFactors$Ring" "quotient" "LNumberFieldFactors$Row;", Cond.fieldLink RX1 28 "NumberFieldFactors$Ring" "older" "LNumberFieldFactors$Row;", Cond.fieldLink RX1 31 "NumberFieldFactors$Ring" "newer" "LNumberFieldFactors$Row;", Cond.fieldLink RX1 34 "NumberFieldFactors$Ring" "derived" "LNumberFieldFactors$Row;", Cond.fieldLink RX1 37 "NumberFieldFactors$Ring" "mates" "LNumberFieldFactors$Row;", Cond.fieldLink RX1 40 "NumberFieldFactors$Ring" "product" "LNumberFieldFactors$Row;", Cond.fieldLink RX1 43 "NumberFieldFactors$Ring" "moved" "LNumberFieldFactors$Row;", Cond.fieldLink RX1 46 "NumberFieldFactors$Ring" "least" "LNumberFieldFactors$Row;", Cond.fieldLink RX1 49 "NumberFieldFactors$Ring" "common" "LNumberFieldFactors$Row;", Cond.instanceMethod yX0_init, Cond.code yX0_init cX0_init 1 none, Cond.methodLink RX0 3 objectInit, Cond.fieldLink RX0 9 "NumberFieldFactors$Extension" "degree" "I"]
def wsX1_init_r2 : List Cond := [Cond.fieldLink RX0 15 "NumberFieldFactors$Extension" "size" "I", Cond.fieldLink RX0 18 "NumberFieldFactors$Extension" "low0" "I", Cond.fieldLink RX0 21 "NumberFieldFactors$Extension" "low1" "I", Cond.fieldLink RX0 24 "NumberFieldFactors$Extension" "low2" "I", Cond.fieldLink RX0 27 "NumberFieldFactors$Extension" "t" "I", Cond.fieldLink RX0 30 "NumberFieldFactors$Extension" "mateOfT" "I", Cond.fieldLink RX0 33 "NumberFieldFactors$Extension" "mateOfTSquared" "I", Cond.instanceMethod yX2_init, Cond.code yX2_init cX2_init 1 none, Cond.methodLink RX2 3 objectInit, Cond.arrayClass .int, Cond.fieldLink RX2 9 "NumberFieldFactors$Row" "elements" "[I"]
def wsX1_init : List Cond := .code yX1_init cX1_init 1 none :: ((wsX1_init_r1 ++ wsX1_init_r2) ++ wsX00 ++ wsX10 ++ wsX20)
def wsX2_degree : List Cond := .code yX2_degree cX2_degree 2 (some .int) :: ([.fieldLink RX2 9 "NumberFieldFactors$Row" "elements" "[I"] ++ wsX20)
def wsX2_get : List Cond := .code yX2_get cX2_get 2 (some .int) :: ([.fieldLink RX2 9 "NumberFieldFactors$Row" "elements" "[I"] ++ wsX20)
def wsX1_valueOf : List Cond := .code yX1_valueOf cX1_valueOf 5 (some .int) :: ([.fieldLink RX1 12 "NumberFieldFactors$Ring" "extension" "LNumberFieldFactors$Extension;", .methodLink RX1 52 yX2_degree, .instanceMethod yX2_degree, .selects RX2 yX2_degree yX2_degree, .initialized RX2, .code yX2_degree cX2_degree 2 (some .int), .fieldLink RX2 9 "NumberFieldFactors$Row" "elements" "[I", .methodLink RX1 56 yX0_times, .instanceMethod yX0_times, .selects RX0 yX0_times yX0_times, .initialized RX0, .code yX0_times cX0_times 15 (some .int), .fieldLink RX0 9 "NumberFieldFactors$Extension" "degree" "I", .fieldLink RX0 21 "NumberFieldFactors$Extension" "low1" "I", .fieldLink RX0 18 "NumberFieldFactors$Extension" "low0" "I", .fieldLink RX0 24 "NumberFieldFactors$Extension" "low2" "I", .methodLink RX1 60 yX2_get, .instanceMethod yX2_get, .selects RX2 yX2_get yX2_get, .code yX2_get cX2_get 2 (some .int), .methodLink RX1 64 yX0_plus, .instanceMethod yX0_plus, .selects RX0 yX0_plus yX0_plus, .code yX0_plus cX0_plus 6 (some .int)] ++ wsX10 ++ wsX20 ++ wsX00)
def wsX2_set : List Cond := .code yX2_set cX2_set 3 none :: ([.fieldLink RX2 9 "NumberFieldFactors$Row" "elements" "[I"] ++ wsX20)
def wsX1_displace_r1 : List Cond := [Cond.fieldLink RX1 12 "NumberFieldFactors$Ring" "extension" "LNumberFieldFactors$Extension;", Cond.methodLink RX1 52 yX2_degree, Cond.instanceMethod yX2_degree, Cond.selects RX2 yX2_degree yX2_degree, Cond.initialized RX2, Cond.code yX2_degree cX2_degree 2 (some .int), Cond.fieldLink RX2 9 "NumberFieldFactors$Row" "elements" "[I", Cond.methodLink RX1 60 yX2_get, Cond.instanceMethod yX2_get, Cond.selects RX2 yX2_get yX2_get, Cond.code yX2_get cX2_get 2 (some .int), Cond.methodLink RX1 56 yX0_times, Cond.instanceMethod yX0_times, Cond.selects RX0 yX0_times yX0_times, Cond.initialized RX0, Cond.code yX0_times cX0_times 15 (some .int), Cond.fieldLink RX0 9 "NumberFieldFactors$Extension" "degree" "I", Cond.fieldLink RX0 21 "NumberFieldFactors$Extension" "low1" "I", Cond.fieldLink RX0 18 "NumberFieldFactors$Extension" "low0" "I", Cond.fieldLink RX0 24 "NumberFieldFactors$Extension" "low2" "I", Cond.methodLink RX1 64 yX0_plus, Cond.instanceMethod yX0_plus, Cond.selects RX0 yX0_plus yX0_plus, Cond.code yX0_plus cX0_plus 6 (some .int)]
def wsX1_displace_r2 : List Cond := [Cond.methodLink RX1 67 yX2_set, Cond.instanceMethod yX2_set, Cond.selects RX2 yX2_set yX2_set, Cond.code yX2_set cX2_set 3 none]
def wsX1_displace : List Cond := .code yX1_displace cX1_displace 6 none :: ((wsX1_displace_r1 ++ wsX1_displace_r2) ++ wsX10 ++ wsX20 ++ wsX00)
def wsX2_clear : List Cond := .code yX2_clear cX2_clear 2 none :: ([.fieldLink RX2 9 "NumberFieldFactors$Row" "elements" "[I"] ++ wsX20)
def wsX2_copy : List Cond := .code yX2_copy cX2_copy 3 none :: ([.fieldLink RX2 9 "NumberFieldFactors$Row" "elements" "[I", .methodLink RX2 15 yX2_get, .instanceMethod yX2_get, .selects RX2 yX2_get yX2_get, .initialized RX2, .code yX2_get cX2_get 2 (some .int)] ++ wsX20)
def wsX1_multiply_r1 : List Cond := [Cond.fieldLink RX1 21 "NumberFieldFactors$Ring" "wide" "LNumberFieldFactors$Row;", Cond.fieldLink RX1 12 "NumberFieldFactors$Ring" "extension" "LNumberFieldFactors$Extension;", Cond.methodLink RX1 52 yX2_degree, Cond.instanceMethod yX2_degree, Cond.selects RX2 yX2_degree yX2_degree, Cond.initialized RX2, Cond.code yX2_degree cX2_degree 2 (some .int), Cond.fieldLink RX2 9 "NumberFieldFactors$Row" "elements" "[I", Cond.methodLink RX1 71 yX2_clear, Cond.instanceMethod yX2_clear, Cond.selects RX2 yX2_clear yX2_clear, Cond.code yX2_clear cX2_clear 2 none, Cond.methodLink RX1 60 yX2_get, Cond.instanceMethod yX2_get, Cond.selects RX2 yX2_get yX2_get, Cond.code yX2_get cX2_get 2 (some .int), Cond.methodLink RX1 56 yX0_times, Cond.instanceMethod yX0_times, Cond.selects RX0 yX0_times yX0_times, Cond.initialized RX0, Cond.code yX0_times cX0_times 15 (some .int), Cond.fieldLink RX0 9 "NumberFieldFactors$Extension" "degree" "I", Cond.fieldLink RX0 21 "NumberFieldFactors$Extension" "low1" "I", Cond.fieldLink RX0 18 "NumberFieldFactors$Extension" "low0" "I"]
def wsX1_multiply_r2 : List Cond := [Cond.fieldLink RX0 24 "NumberFieldFactors$Extension" "low2" "I", Cond.methodLink RX1 64 yX0_plus, Cond.instanceMethod yX0_plus, Cond.selects RX0 yX0_plus yX0_plus, Cond.code yX0_plus cX0_plus 6 (some .int), Cond.methodLink RX1 67 yX2_set, Cond.instanceMethod yX2_set, Cond.selects RX2 yX2_set yX2_set, Cond.code yX2_set cX2_set 3 none, Cond.methodLink RX1 74 yX2_copy, Cond.instanceMethod yX2_copy, Cond.selects RX2 yX2_copy yX2_copy, Cond.code yX2_copy cX2_copy 3 none, Cond.methodLink RX2 15 yX2_get]
def wsX1_multiply : List Cond := .code yX1_multiply cX1_multiply 8 none :: ((wsX1_multiply_r1 ++ wsX1_multiply_r2) ++ wsX10 ++ wsX20 ++ wsX00)
def wsX1_multiplyLinear_r1 : List Cond := [Cond.fieldLink RX1 12 "NumberFieldFactors$Ring" "extension" "LNumberFieldFactors$Extension;", Cond.methodLink RX1 52 yX2_degree, Cond.instanceMethod yX2_degree, Cond.selects RX2 yX2_degree yX2_degree, Cond.initialized RX2, Cond.code yX2_degree cX2_degree 2 (some .int), Cond.fieldLink RX2 9 "NumberFieldFactors$Row" "elements" "[I", Cond.methodLink RX1 60 yX2_get, Cond.instanceMethod yX2_get, Cond.selects RX2 yX2_get yX2_get, Cond.code yX2_get cX2_get 2 (some .int), Cond.methodLink RX1 56 yX0_times, Cond.instanceMethod yX0_times, Cond.selects RX0 yX0_times yX0_times, Cond.initialized RX0, Cond.code yX0_times cX0_times 15 (some .int), Cond.fieldLink RX0 9 "NumberFieldFactors$Extension" "degree" "I", Cond.fieldLink RX0 21 "NumberFieldFactors$Extension" "low1" "I", Cond.fieldLink RX0 18 "NumberFieldFactors$Extension" "low0" "I", Cond.fieldLink RX0 24 "NumberFieldFactors$Extension" "low2" "I", Cond.methodLink RX1 64 yX0_plus, Cond.instanceMethod yX0_plus, Cond.selects RX0 yX0_plus yX0_plus, Cond.code yX0_plus cX0_plus 6 (some .int)]
def wsX1_multiplyLinear_r2 : List Cond := [Cond.methodLink RX1 67 yX2_set, Cond.instanceMethod yX2_set, Cond.selects RX2 yX2_set yX2_set, Cond.code yX2_set cX2_set 3 none]
def wsX1_multiplyLinear : List Cond := .code yX1_multiplyLinear cX1_multiplyLinear 4 none :: ((wsX1_multiplyLinear_r1 ++ wsX1_multiplyLinear_r2) ++ wsX10 ++ wsX20 ++ wsX00)
def wsX1_divide_r1 : List Cond := [Cond.fieldLink RX1 25 "NumberFieldFactors$Ring" "quotient" "LNumberFieldFactors$Row;", Cond.fieldLink RX1 12 "NumberFieldFactors$Ring" "extension" "LNumberFieldFactors$Extension;", Cond.methodLink RX1 52 yX2_degree, Cond.instanceMethod yX2_degree, Cond.selects RX2 yX2_degree yX2_degree, Cond.initialized RX2, Cond.code yX2_degree cX2_degree 2 (some .int), Cond.fieldLink RX2 9 "NumberFieldFactors$Row" "elements" "[I", Cond.methodLink RX1 71 yX2_clear, Cond.instanceMethod yX2_clear, Cond.selects RX2 yX2_clear yX2_clear, Cond.code yX2_clear cX2_clear 2 none, Cond.methodLink RX1 60 yX2_get, Cond.instanceMethod yX2_get, Cond.selects RX2 yX2_get yX2_get, Cond.code yX2_get cX2_get 2 (some .int), Cond.methodLink RX1 67 yX2_set, Cond.instanceMethod yX2_set, Cond.selects RX2 yX2_set yX2_set, Cond.code yX2_set cX2_set 3 none, Cond.methodLink RX1 56 yX0_times, Cond.instanceMethod yX0_times, Cond.selects RX0 yX0_times yX0_times, Cond.initialized RX0]
def wsX1_divide_r2 : List Cond := [Cond.code yX0_times cX0_times 15 (some .int), Cond.fieldLink RX0 9 "NumberFieldFactors$Extension" "degree" "I", Cond.fieldLink RX0 21 "NumberFieldFactors$Extension" "low1" "I", Cond.fieldLink RX0 18 "NumberFieldFactors$Extension" "low0" "I", Cond.fieldLink RX0 24 "NumberFieldFactors$Extension" "low2" "I", Cond.methodLink RX1 78 yX0_minus, Cond.instanceMethod yX0_minus, Cond.selects RX0 yX0_minus yX0_minus, Cond.code yX0_minus cX0_minus 6 (some .int)]
def wsX1_divide : List Cond := .code yX1_divide cX1_divide 8 none :: ((wsX1_divide_r1 ++ wsX1_divide_r2) ++ wsX10 ++ wsX20 ++ wsX00)
def wsX1_makeMonic_r1 : List Cond := [Cond.fieldLink RX1 12 "NumberFieldFactors$Ring" "extension" "LNumberFieldFactors$Extension;", Cond.methodLink RX1 52 yX2_degree, Cond.instanceMethod yX2_degree, Cond.selects RX2 yX2_degree yX2_degree, Cond.initialized RX2, Cond.code yX2_degree cX2_degree 2 (some .int), Cond.fieldLink RX2 9 "NumberFieldFactors$Row" "elements" "[I", Cond.methodLink RX1 60 yX2_get, Cond.instanceMethod yX2_get, Cond.selects RX2 yX2_get yX2_get, Cond.code yX2_get cX2_get 2 (some .int), Cond.methodLink RX1 85 yX0_power, Cond.instanceMethod yX0_power, Cond.selects RX0 yX0_power yX0_power, Cond.initialized RX0, Cond.code yX0_power cX0_power 6 (some .int), Cond.methodLink RX0 45 yX0_times, Cond.instanceMethod yX0_times, Cond.selects RX0 yX0_times yX0_times, Cond.code yX0_times cX0_times 15 (some .int), Cond.fieldLink RX0 9 "NumberFieldFactors$Extension" "degree" "I", Cond.fieldLink RX0 21 "NumberFieldFactors$Extension" "low1" "I", Cond.fieldLink RX0 18 "NumberFieldFactors$Extension" "low0" "I", Cond.fieldLink RX0 24 "NumberFieldFactors$Extension" "low2" "I"]
def wsX1_makeMonic_r2 : List Cond := [Cond.methodLink RX1 56 yX0_times, Cond.methodLink RX1 67 yX2_set, Cond.instanceMethod yX2_set, Cond.selects RX2 yX2_set yX2_set, Cond.code yX2_set cX2_set 3 none]
def wsX1_makeMonic : List Cond := .code yX1_makeMonic cX1_makeMonic 6 none :: ((wsX1_makeMonic_r1 ++ wsX1_makeMonic_r2) ++ wsX10 ++ wsX00 ++ wsX20)
def wsX1_findCommon_r1 : List Cond := [Cond.fieldLink RX1 28 "NumberFieldFactors$Ring" "older" "LNumberFieldFactors$Row;", Cond.fieldLink RX1 31 "NumberFieldFactors$Ring" "newer" "LNumberFieldFactors$Row;", Cond.methodLink RX1 74 yX2_copy, Cond.instanceMethod yX2_copy, Cond.selects RX2 yX2_copy yX2_copy, Cond.initialized RX2, Cond.code yX2_copy cX2_copy 3 none, Cond.fieldLink RX2 9 "NumberFieldFactors$Row" "elements" "[I", Cond.methodLink RX2 15 yX2_get, Cond.instanceMethod yX2_get, Cond.selects RX2 yX2_get yX2_get, Cond.code yX2_get cX2_get 2 (some .int), Cond.methodLink RX1 52 yX2_degree, Cond.instanceMethod yX2_degree, Cond.selects RX2 yX2_degree yX2_degree, Cond.code yX2_degree cX2_degree 2 (some .int), Cond.methodLink RX1 88 yX1_makeMonic, Cond.instanceMethod yX1_makeMonic, Cond.selects RX1 yX1_makeMonic yX1_makeMonic, Cond.initialized RX1, Cond.code yX1_makeMonic cX1_makeMonic 6 none, Cond.fieldLink RX1 12 "NumberFieldFactors$Ring" "extension" "LNumberFieldFactors$Extension;", Cond.methodLink RX1 60 yX2_get, Cond.methodLink RX1 85 yX0_power]
def wsX1_findCommon_r2 : List Cond := [Cond.instanceMethod yX0_power, Cond.selects RX0 yX0_power yX0_power, Cond.initialized RX0, Cond.code yX0_power cX0_power 6 (some .int), Cond.methodLink RX0 45 yX0_times, Cond.instanceMethod yX0_times, Cond.selects RX0 yX0_times yX0_times, Cond.code yX0_times cX0_times 15 (some .int), Cond.fieldLink RX0 9 "NumberFieldFactors$Extension" "degree" "I", Cond.fieldLink RX0 21 "NumberFieldFactors$Extension" "low1" "I", Cond.fieldLink RX0 18 "NumberFieldFactors$Extension" "low0" "I", Cond.fieldLink RX0 24 "NumberFieldFactors$Extension" "low2" "I", Cond.methodLink RX1 56 yX0_times, Cond.methodLink RX1 67 yX2_set, Cond.instanceMethod yX2_set, Cond.selects RX2 yX2_set yX2_set, Cond.code yX2_set cX2_set 3 none, Cond.methodLink RX1 91 yX1_divide, Cond.instanceMethod yX1_divide, Cond.selects RX1 yX1_divide yX1_divide, Cond.code yX1_divide cX1_divide 8 none, Cond.fieldLink RX1 25 "NumberFieldFactors$Ring" "quotient" "LNumberFieldFactors$Row;", Cond.methodLink RX1 71 yX2_clear, Cond.instanceMethod yX2_clear]
def wsX1_findCommon_r3 : List Cond := [Cond.selects RX2 yX2_clear yX2_clear, Cond.code yX2_clear cX2_clear 2 none, Cond.methodLink RX1 78 yX0_minus, Cond.instanceMethod yX0_minus, Cond.selects RX0 yX0_minus yX0_minus, Cond.code yX0_minus cX0_minus 6 (some .int)]
def wsX1_findCommon : List Cond := .code yX1_findCommon cX1_findCommon 8 none :: ((wsX1_findCommon_r1 ++ (wsX1_findCommon_r2 ++ wsX1_findCommon_r3)) ++ wsX10 ++ wsX20 ++ wsX00)
def wsX1_findSquares_r1 : List Cond := [Cond.fieldLink RX1 34 "NumberFieldFactors$Ring" "derived" "LNumberFieldFactors$Row;", Cond.fieldLink RX1 12 "NumberFieldFactors$Ring" "extension" "LNumberFieldFactors$Extension;", Cond.methodLink RX1 71 yX2_clear, Cond.instanceMethod yX2_clear, Cond.selects RX2 yX2_clear yX2_clear, Cond.initialized RX2, Cond.code yX2_clear cX2_clear 2 none, Cond.fieldLink RX2 9 "NumberFieldFactors$Row" "elements" "[I", Cond.methodLink RX1 52 yX2_degree, Cond.instanceMethod yX2_degree, Cond.selects RX2 yX2_degree yX2_degree, Cond.code yX2_degree cX2_degree 2 (some .int), Cond.methodLink RX1 60 yX2_get, Cond.instanceMethod yX2_get, Cond.selects RX2 yX2_get yX2_get, Cond.code yX2_get cX2_get 2 (some .int), Cond.methodLink RX1 56 yX0_times, Cond.instanceMethod yX0_times, Cond.selects RX0 yX0_times yX0_times, Cond.initialized RX0, Cond.code yX0_times cX0_times 15 (some .int), Cond.fieldLink RX0 9 "NumberFieldFactors$Extension" "degree" "I", Cond.fieldLink RX0 21 "NumberFieldFactors$Extension" "low1" "I", Cond.fieldLink RX0 18 "NumberFieldFactors$Extension" "low0" "I"]
def wsX1_findSquares_r2 : List Cond := [Cond.fieldLink RX0 24 "NumberFieldFactors$Extension" "low2" "I", Cond.methodLink RX1 67 yX2_set, Cond.instanceMethod yX2_set, Cond.selects RX2 yX2_set yX2_set, Cond.code yX2_set cX2_set 3 none, Cond.methodLink RX1 95 yX1_findCommon, Cond.instanceMethod yX1_findCommon, Cond.selects RX1 yX1_findCommon yX1_findCommon, Cond.initialized RX1, Cond.code yX1_findCommon cX1_findCommon 8 none, Cond.fieldLink RX1 28 "NumberFieldFactors$Ring" "older" "LNumberFieldFactors$Row;", Cond.fieldLink RX1 31 "NumberFieldFactors$Ring" "newer" "LNumberFieldFactors$Row;", Cond.methodLink RX1 74 yX2_copy, Cond.instanceMethod yX2_copy, Cond.selects RX2 yX2_copy yX2_copy, Cond.code yX2_copy cX2_copy 3 none, Cond.methodLink RX2 15 yX2_get, Cond.methodLink RX1 88 yX1_makeMonic, Cond.instanceMethod yX1_makeMonic, Cond.selects RX1 yX1_makeMonic yX1_makeMonic, Cond.code yX1_makeMonic cX1_makeMonic 6 none, Cond.methodLink RX1 85 yX0_power, Cond.instanceMethod yX0_power, Cond.selects RX0 yX0_power yX0_power]
def wsX1_findSquares_r3 : List Cond := [Cond.code yX0_power cX0_power 6 (some .int), Cond.methodLink RX0 45 yX0_times, Cond.methodLink RX1 91 yX1_divide, Cond.instanceMethod yX1_divide, Cond.selects RX1 yX1_divide yX1_divide, Cond.code yX1_divide cX1_divide 8 none, Cond.fieldLink RX1 25 "NumberFieldFactors$Ring" "quotient" "LNumberFieldFactors$Row;", Cond.methodLink RX1 78 yX0_minus, Cond.instanceMethod yX0_minus, Cond.selects RX0 yX0_minus yX0_minus, Cond.code yX0_minus cX0_minus 6 (some .int)]
def wsX1_findSquares : List Cond := .code yX1_findSquares cX1_findSquares 4 none :: ((wsX1_findSquares_r1 ++ (wsX1_findSquares_r2 ++ wsX1_findSquares_r3)) ++ wsX10 ++ wsX20 ++ wsX00)
def wsX2_becomeOne : List Cond := .code yX2_becomeOne cX2_becomeOne 1 none :: ([.methodLink RX2 19 yX2_clear, .instanceMethod yX2_clear, .selects RX2 yX2_clear yX2_clear, .initialized RX2, .code yX2_clear cX2_clear 2 none, .fieldLink RX2 9 "NumberFieldFactors$Row" "elements" "[I", .methodLink RX2 22 yX2_set, .instanceMethod yX2_set, .selects RX2 yX2_set yX2_set, .code yX2_set cX2_set 3 none] ++ wsX20)
def wsX1_raiseLinear_r1 : List Cond := [Cond.methodLink RX1 99 yX2_becomeOne, Cond.instanceMethod yX2_becomeOne, Cond.selects RX2 yX2_becomeOne yX2_becomeOne, Cond.initialized RX2, Cond.code yX2_becomeOne cX2_becomeOne 1 none, Cond.methodLink RX2 19 yX2_clear, Cond.instanceMethod yX2_clear, Cond.selects RX2 yX2_clear yX2_clear, Cond.code yX2_clear cX2_clear 2 none, Cond.fieldLink RX2 9 "NumberFieldFactors$Row" "elements" "[I", Cond.methodLink RX2 22 yX2_set, Cond.instanceMethod yX2_set, Cond.selects RX2 yX2_set yX2_set, Cond.code yX2_set cX2_set 3 none, Cond.methodLink RX1 102 yX1_multiply, Cond.instanceMethod yX1_multiply, Cond.selects RX1 yX1_multiply yX1_multiply, Cond.initialized RX1, Cond.code yX1_multiply cX1_multiply 8 none, Cond.fieldLink RX1 21 "NumberFieldFactors$Ring" "wide" "LNumberFieldFactors$Row;", Cond.fieldLink RX1 12 "NumberFieldFactors$Ring" "extension" "LNumberFieldFactors$Extension;", Cond.methodLink RX1 52 yX2_degree, Cond.instanceMethod yX2_degree, Cond.selects RX2 yX2_degree yX2_degree]
def wsX1_raiseLinear_r2 : List Cond := [Cond.code yX2_degree cX2_degree 2 (some .int), Cond.methodLink RX1 71 yX2_clear, Cond.methodLink RX1 60 yX2_get, Cond.instanceMethod yX2_get, Cond.selects RX2 yX2_get yX2_get, Cond.code yX2_get cX2_get 2 (some .int), Cond.methodLink RX1 56 yX0_times, Cond.instanceMethod yX0_times, Cond.selects RX0 yX0_times yX0_times, Cond.initialized RX0, Cond.code yX0_times cX0_times 15 (some .int), Cond.fieldLink RX0 9 "NumberFieldFactors$Extension" "degree" "I", Cond.fieldLink RX0 21 "NumberFieldFactors$Extension" "low1" "I", Cond.fieldLink RX0 18 "NumberFieldFactors$Extension" "low0" "I", Cond.fieldLink RX0 24 "NumberFieldFactors$Extension" "low2" "I", Cond.methodLink RX1 64 yX0_plus, Cond.instanceMethod yX0_plus, Cond.selects RX0 yX0_plus yX0_plus, Cond.code yX0_plus cX0_plus 6 (some .int), Cond.methodLink RX1 67 yX2_set, Cond.methodLink RX1 74 yX2_copy, Cond.instanceMethod yX2_copy, Cond.selects RX2 yX2_copy yX2_copy, Cond.code yX2_copy cX2_copy 3 none]
def wsX1_raiseLinear_r3 : List Cond := [Cond.methodLink RX2 15 yX2_get, Cond.methodLink RX1 105 yX1_multiplyLinear, Cond.instanceMethod yX1_multiplyLinear, Cond.selects RX1 yX1_multiplyLinear yX1_multiplyLinear, Cond.code yX1_multiplyLinear cX1_multiplyLinear 4 none, Cond.methodLink RX1 91 yX1_divide, Cond.instanceMethod yX1_divide, Cond.selects RX1 yX1_divide yX1_divide, Cond.code yX1_divide cX1_divide 8 none, Cond.fieldLink RX1 25 "NumberFieldFactors$Ring" "quotient" "LNumberFieldFactors$Row;", Cond.methodLink RX1 78 yX0_minus, Cond.instanceMethod yX0_minus, Cond.selects RX0 yX0_minus yX0_minus, Cond.code yX0_minus cX0_minus 6 (some .int)]
def wsX1_raiseLinear : List Cond := .code yX1_raiseLinear cX1_raiseLinear 7 none :: ((wsX1_raiseLinear_r1 ++ (wsX1_raiseLinear_r2 ++ wsX1_raiseLinear_r3)) ++ wsX20 ++ wsX10 ++ wsX00)
def wsX1_normOf_r1 : List Cond := [Cond.fieldLink RX1 40 "NumberFieldFactors$Ring" "product" "LNumberFieldFactors$Row;", Cond.fieldLink RX1 37 "NumberFieldFactors$Ring" "mates" "LNumberFieldFactors$Row;", Cond.fieldLink RX1 12 "NumberFieldFactors$Ring" "extension" "LNumberFieldFactors$Extension;", Cond.methodLink RX1 74 yX2_copy, Cond.instanceMethod yX2_copy, Cond.selects RX2 yX2_copy yX2_copy, Cond.initialized RX2, Cond.code yX2_copy cX2_copy 3 none, Cond.fieldLink RX2 9 "NumberFieldFactors$Row" "elements" "[I", Cond.methodLink RX2 15 yX2_get, Cond.instanceMethod yX2_get, Cond.selects RX2 yX2_get yX2_get, Cond.code yX2_get cX2_get 2 (some .int), Cond.methodLink RX1 52 yX2_degree, Cond.instanceMethod yX2_degree, Cond.selects RX2 yX2_degree yX2_degree, Cond.code yX2_degree cX2_degree 2 (some .int), Cond.methodLink RX1 60 yX2_get, Cond.methodLink RX1 111 yX0_mate, Cond.instanceMethod yX0_mate, Cond.selects RX0 yX0_mate yX0_mate, Cond.initialized RX0, Cond.code yX0_mate cX0_mate 4 (some .int), Cond.fieldLink RX0 33 "NumberFieldFactors$Extension" "mateOfTSquared" "I"]
def wsX1_normOf_r2 : List Cond := [Cond.fieldLink RX0 30 "NumberFieldFactors$Extension" "mateOfT" "I", Cond.methodLink RX0 45 yX0_times, Cond.instanceMethod yX0_times, Cond.selects RX0 yX0_times yX0_times, Cond.code yX0_times cX0_times 15 (some .int), Cond.fieldLink RX0 9 "NumberFieldFactors$Extension" "degree" "I", Cond.fieldLink RX0 21 "NumberFieldFactors$Extension" "low1" "I", Cond.fieldLink RX0 18 "NumberFieldFactors$Extension" "low0" "I", Cond.fieldLink RX0 24 "NumberFieldFactors$Extension" "low2" "I", Cond.methodLink RX0 48 yX0_plus, Cond.instanceMethod yX0_plus, Cond.selects RX0 yX0_plus yX0_plus, Cond.code yX0_plus cX0_plus 6 (some .int), Cond.methodLink RX1 67 yX2_set, Cond.instanceMethod yX2_set, Cond.selects RX2 yX2_set yX2_set, Cond.code yX2_set cX2_set 3 none, Cond.methodLink RX1 102 yX1_multiply, Cond.instanceMethod yX1_multiply, Cond.selects RX1 yX1_multiply yX1_multiply, Cond.initialized RX1, Cond.code yX1_multiply cX1_multiply 8 none, Cond.fieldLink RX1 21 "NumberFieldFactors$Ring" "wide" "LNumberFieldFactors$Row;", Cond.methodLink RX1 71 yX2_clear]
def wsX1_normOf_r3 : List Cond := [Cond.instanceMethod yX2_clear, Cond.selects RX2 yX2_clear yX2_clear, Cond.code yX2_clear cX2_clear 2 none, Cond.methodLink RX1 56 yX0_times, Cond.methodLink RX1 64 yX0_plus]
def wsX1_normOf : List Cond := .code yX1_normOf cX1_normOf 5 (some (.object "NumberFieldFactors$Row")) :: ((wsX1_normOf_r1 ++ (wsX1_normOf_r2 ++ wsX1_normOf_r3)) ++ wsX10 ++ wsX00 ++ wsX20)
def wsX1_leastPolynomial_r1 : List Cond := [Cond.fieldLink RX1 12 "NumberFieldFactors$Ring" "extension" "LNumberFieldFactors$Extension;", Cond.fieldLink RX1 46 "NumberFieldFactors$Ring" "least" "LNumberFieldFactors$Row;", Cond.methodLink RX1 114 yX0_differentMates, Cond.instanceMethod yX0_differentMates, Cond.selects RX0 yX0_differentMates yX0_differentMates, Cond.initialized RX0, Cond.code yX0_differentMates cX0_differentMates 2 (some .int), Cond.fieldLink RX0 9 "NumberFieldFactors$Extension" "degree" "I", Cond.methodLink RX0 51 yX0_mate, Cond.instanceMethod yX0_mate, Cond.selects RX0 yX0_mate yX0_mate, Cond.code yX0_mate cX0_mate 4 (some .int), Cond.fieldLink RX0 33 "NumberFieldFactors$Extension" "mateOfTSquared" "I", Cond.fieldLink RX0 30 "NumberFieldFactors$Extension" "mateOfT" "I", Cond.methodLink RX0 45 yX0_times, Cond.instanceMethod yX0_times, Cond.selects RX0 yX0_times yX0_times, Cond.code yX0_times cX0_times 15 (some .int), Cond.fieldLink RX0 21 "NumberFieldFactors$Extension" "low1" "I", Cond.fieldLink RX0 18 "NumberFieldFactors$Extension" "low0" "I", Cond.fieldLink RX0 24 "NumberFieldFactors$Extension" "low2" "I", Cond.methodLink RX0 48 yX0_plus, Cond.instanceMethod yX0_plus, Cond.selects RX0 yX0_plus yX0_plus]
def wsX1_leastPolynomial_r2 : List Cond := [Cond.code yX0_plus cX0_plus 6 (some .int), Cond.methodLink RX1 99 yX2_becomeOne, Cond.instanceMethod yX2_becomeOne, Cond.selects RX2 yX2_becomeOne yX2_becomeOne, Cond.initialized RX2, Cond.code yX2_becomeOne cX2_becomeOne 1 none, Cond.methodLink RX2 19 yX2_clear, Cond.instanceMethod yX2_clear, Cond.selects RX2 yX2_clear yX2_clear, Cond.code yX2_clear cX2_clear 2 none, Cond.fieldLink RX2 9 "NumberFieldFactors$Row" "elements" "[I", Cond.methodLink RX2 22 yX2_set, Cond.instanceMethod yX2_set, Cond.selects RX2 yX2_set yX2_set, Cond.code yX2_set cX2_set 3 none, Cond.methodLink RX1 78 yX0_minus, Cond.instanceMethod yX0_minus, Cond.selects RX0 yX0_minus yX0_minus, Cond.code yX0_minus cX0_minus 6 (some .int), Cond.methodLink RX1 105 yX1_multiplyLinear, Cond.instanceMethod yX1_multiplyLinear, Cond.selects RX1 yX1_multiplyLinear yX1_multiplyLinear, Cond.initialized RX1, Cond.code yX1_multiplyLinear cX1_multiplyLinear 4 none]
def wsX1_leastPolynomial_r3 : List Cond := [Cond.methodLink RX1 52 yX2_degree, Cond.instanceMethod yX2_degree, Cond.selects RX2 yX2_degree yX2_degree, Cond.code yX2_degree cX2_degree 2 (some .int), Cond.methodLink RX1 60 yX2_get, Cond.instanceMethod yX2_get, Cond.selects RX2 yX2_get yX2_get, Cond.code yX2_get cX2_get 2 (some .int), Cond.methodLink RX1 56 yX0_times, Cond.methodLink RX1 64 yX0_plus, Cond.methodLink RX1 67 yX2_set, Cond.methodLink RX1 111 yX0_mate]
def wsX1_leastPolynomial : List Cond := .code yX1_leastPolynomial cX1_leastPolynomial 5 (some (.object "NumberFieldFactors$Row")) :: ((wsX1_leastPolynomial_r1 ++ (wsX1_leastPolynomial_r2 ++ wsX1_leastPolynomial_r3)) ++ wsX10 ++ wsX00 ++ wsX20)
def wsX1_leastShift_r1 : List Cond := [Cond.fieldLink RX1 43 "NumberFieldFactors$Ring" "moved" "LNumberFieldFactors$Row;", Cond.fieldLink RX1 12 "NumberFieldFactors$Ring" "extension" "LNumberFieldFactors$Extension;", Cond.fieldLink RX1 49 "NumberFieldFactors$Ring" "common" "LNumberFieldFactors$Row;", Cond.methodLink RX1 74 yX2_copy, Cond.instanceMethod yX2_copy, Cond.selects RX2 yX2_copy yX2_copy, Cond.initialized RX2, Cond.code yX2_copy cX2_copy 3 none, Cond.fieldLink RX2 9 "NumberFieldFactors$Row" "elements" "[I", Cond.methodLink RX2 15 yX2_get, Cond.instanceMethod yX2_get, Cond.selects RX2 yX2_get yX2_get, Cond.code yX2_get cX2_get 2 (some .int), Cond.methodLink RX1 56 yX0_times, Cond.instanceMethod yX0_times, Cond.selects RX0 yX0_times yX0_times, Cond.initialized RX0, Cond.code yX0_times cX0_times 15 (some .int), Cond.fieldLink RX0 9 "NumberFieldFactors$Extension" "degree" "I", Cond.fieldLink RX0 21 "NumberFieldFactors$Extension" "low1" "I", Cond.fieldLink RX0 18 "NumberFieldFactors$Extension" "low0" "I", Cond.fieldLink RX0 24 "NumberFieldFactors$Extension" "low2" "I", Cond.methodLink RX1 78 yX0_minus, Cond.instanceMethod yX0_minus]
def wsX1_leastShift_r2 : List Cond := [Cond.selects RX0 yX0_minus yX0_minus, Cond.code yX0_minus cX0_minus 6 (some .int), Cond.methodLink RX1 120 yX1_displace, Cond.instanceMethod yX1_displace, Cond.selects RX1 yX1_displace yX1_displace, Cond.initialized RX1, Cond.code yX1_displace cX1_displace 6 none, Cond.methodLink RX1 52 yX2_degree, Cond.instanceMethod yX2_degree, Cond.selects RX2 yX2_degree yX2_degree, Cond.code yX2_degree cX2_degree 2 (some .int), Cond.methodLink RX1 60 yX2_get, Cond.methodLink RX1 64 yX0_plus, Cond.instanceMethod yX0_plus, Cond.selects RX0 yX0_plus yX0_plus, Cond.code yX0_plus cX0_plus 6 (some .int), Cond.methodLink RX1 67 yX2_set, Cond.instanceMethod yX2_set, Cond.selects RX2 yX2_set yX2_set, Cond.code yX2_set cX2_set 3 none, Cond.methodLink RX1 123 yX1_normOf, Cond.instanceMethod yX1_normOf, Cond.selects RX1 yX1_normOf yX1_normOf, Cond.code yX1_normOf cX1_normOf 5 (some (.object "NumberFieldFactors$Row"))]
def wsX1_leastShift_r3 : List Cond := [Cond.fieldLink RX1 40 "NumberFieldFactors$Ring" "product" "LNumberFieldFactors$Row;", Cond.fieldLink RX1 37 "NumberFieldFactors$Ring" "mates" "LNumberFieldFactors$Row;", Cond.methodLink RX1 111 yX0_mate, Cond.instanceMethod yX0_mate, Cond.selects RX0 yX0_mate yX0_mate, Cond.code yX0_mate cX0_mate 4 (some .int), Cond.fieldLink RX0 33 "NumberFieldFactors$Extension" "mateOfTSquared" "I", Cond.fieldLink RX0 30 "NumberFieldFactors$Extension" "mateOfT" "I", Cond.methodLink RX0 45 yX0_times, Cond.methodLink RX0 48 yX0_plus, Cond.methodLink RX1 102 yX1_multiply, Cond.instanceMethod yX1_multiply, Cond.selects RX1 yX1_multiply yX1_multiply, Cond.code yX1_multiply cX1_multiply 8 none, Cond.fieldLink RX1 21 "NumberFieldFactors$Ring" "wide" "LNumberFieldFactors$Row;", Cond.methodLink RX1 71 yX2_clear, Cond.instanceMethod yX2_clear, Cond.selects RX2 yX2_clear yX2_clear, Cond.code yX2_clear cX2_clear 2 none, Cond.methodLink RX1 127 yX1_findSquares, Cond.instanceMethod yX1_findSquares, Cond.selects RX1 yX1_findSquares yX1_findSquares, Cond.code yX1_findSquares cX1_findSquares 4 none, Cond.fieldLink RX1 34 "NumberFieldFactors$Ring" "derived" "LNumberFieldFactors$Row;"]
def wsX1_leastShift_r4 : List Cond := [Cond.methodLink RX1 95 yX1_findCommon, Cond.instanceMethod yX1_findCommon, Cond.selects RX1 yX1_findCommon yX1_findCommon, Cond.code yX1_findCommon cX1_findCommon 8 none, Cond.fieldLink RX1 28 "NumberFieldFactors$Ring" "older" "LNumberFieldFactors$Row;", Cond.fieldLink RX1 31 "NumberFieldFactors$Ring" "newer" "LNumberFieldFactors$Row;", Cond.methodLink RX1 88 yX1_makeMonic, Cond.instanceMethod yX1_makeMonic, Cond.selects RX1 yX1_makeMonic yX1_makeMonic, Cond.code yX1_makeMonic cX1_makeMonic 6 none, Cond.methodLink RX1 85 yX0_power, Cond.instanceMethod yX0_power, Cond.selects RX0 yX0_power yX0_power, Cond.code yX0_power cX0_power 6 (some .int), Cond.methodLink RX1 91 yX1_divide, Cond.instanceMethod yX1_divide, Cond.selects RX1 yX1_divide yX1_divide, Cond.code yX1_divide cX1_divide 8 none, Cond.fieldLink RX1 25 "NumberFieldFactors$Ring" "quotient" "LNumberFieldFactors$Row;"]
def wsX1_leastShift : List Cond := .code yX1_leastShift cX1_leastShift 3 (some .int) :: ((wsX1_leastShift_r1 ++ (wsX1_leastShift_r2 ++ (wsX1_leastShift_r3 ++ wsX1_leastShift_r4))) ++ wsX10 ++ wsX00 ++ wsX20)
def wsX2_isBefore : List Cond := .code yX2_isBefore cX2_isBefore 5 (some .boolean) :: ([.methodLink RX2 26 yX2_degree, .instanceMethod yX2_degree, .selects RX2 yX2_degree yX2_degree, .initialized RX2, .code yX2_degree cX2_degree 2 (some .int), .fieldLink RX2 9 "NumberFieldFactors$Row" "elements" "[I", .methodLink RX2 15 yX2_get, .instanceMethod yX2_get, .selects RX2 yX2_get yX2_get, .code yX2_get cX2_get 2 (some .int)] ++ wsX20)
def wsX3_init : List Cond := .code yX3_init cX3_init 2 none :: ([.methodLink RX3 3 objectInit, .instanceMethod objectInit, .code objectInit ⟨#[0xb1]⟩ 1 none, .classLink RX3 9 RX2, .fieldLink RX3 11 "NumberFieldFactors$Splitter" "parts" "[LNumberFieldFactors$Row;", .arrayClass .int, .fieldLink RX3 17 "NumberFieldFactors$Splitter" "counts" "[I", .fieldLink RX3 21 "NumberFieldFactors$Splitter" "count" "I", .fieldLink RX3 25 "NumberFieldFactors$Splitter" "found" "Z", .instantiable RX2 1, .initialized RX2, .fieldLink RX3 30 "NumberFieldFactors$Splitter" "root" "LNumberFieldFactors$Row;", .fieldLink RX3 34 "NumberFieldFactors$Splitter" "rest" "LNumberFieldFactors$Row;", .fieldLink RX3 37 "NumberFieldFactors$Splitter" "power" "LNumberFieldFactors$Row;", .fieldLink RX3 40 "NumberFieldFactors$Splitter" "shared" "LNumberFieldFactors$Row;", .instanceMethod yX2_init, .code yX2_init cX2_init 1 none, .methodLink RX2 3 objectInit, .fieldLink RX2 9 "NumberFieldFactors$Row" "elements" "[I"] ++ wsX30 ++ wsX20)
def wsX3_forget : List Cond := .code yX3_forget cX3_forget 1 none :: ([.fieldLink RX3 25 "NumberFieldFactors$Splitter" "found" "Z"] ++ wsX30)
def wsX3_part : List Cond := .code yX3_part cX3_part 2 (some (.object "NumberFieldFactors$Row")) :: ([.fieldLink RX3 11 "NumberFieldFactors$Splitter" "parts" "[LNumberFieldFactors$Row;", .fieldLink RX3 30 "NumberFieldFactors$Splitter" "root" "LNumberFieldFactors$Row;"] ++ wsX30)
def wsX3_timesOf : List Cond := .code yX3_timesOf cX3_timesOf 2 (some .int) :: ([.fieldLink RX3 17 "NumberFieldFactors$Splitter" "counts" "[I"] ++ wsX30)
def wsX3_commonDegree : List Cond := .code yX3_commonDegree cX3_commonDegree 5 (some .int) :: ([.fieldLink RX3 21 "NumberFieldFactors$Splitter" "count" "I", .methodLink RX3 43 yX3_part, .instanceMethod yX3_part, .selects RX3 yX3_part yX3_part, .initialized RX3, .code yX3_part cX3_part 2 (some (.object "NumberFieldFactors$Row")), .fieldLink RX3 11 "NumberFieldFactors$Splitter" "parts" "[LNumberFieldFactors$Row;", .fieldLink RX3 30 "NumberFieldFactors$Splitter" "root" "LNumberFieldFactors$Row;", .methodLink RX3 47 yX2_degree, .instanceMethod yX2_degree, .selects RX2 yX2_degree yX2_degree, .initialized RX2, .code yX2_degree cX2_degree 2 (some .int), .fieldLink RX2 9 "NumberFieldFactors$Row" "elements" "[I"] ++ wsX30 ++ wsX20)
def wsX3_keepRoot_r1 : List Cond := [Cond.fieldLink RX3 30 "NumberFieldFactors$Splitter" "root" "LNumberFieldFactors$Row;", Cond.fieldLink RX3 40 "NumberFieldFactors$Splitter" "shared" "LNumberFieldFactors$Row;", Cond.methodLink RX3 61 yX2_copy, Cond.instanceMethod yX2_copy, Cond.selects RX2 yX2_copy yX2_copy, Cond.initialized RX2, Cond.code yX2_copy cX2_copy 3 none, Cond.fieldLink RX2 9 "NumberFieldFactors$Row" "elements" "[I", Cond.methodLink RX2 15 yX2_get, Cond.instanceMethod yX2_get, Cond.selects RX2 yX2_get yX2_get, Cond.code yX2_get cX2_get 2 (some .int), Cond.methodLink RX3 82 yX1_divide, Cond.instanceMethod yX1_divide, Cond.selects RX1 yX1_divide yX1_divide, Cond.initialized RX1, Cond.code yX1_divide cX1_divide 8 none, Cond.fieldLink RX1 25 "NumberFieldFactors$Ring" "quotient" "LNumberFieldFactors$Row;", Cond.fieldLink RX1 12 "NumberFieldFactors$Ring" "extension" "LNumberFieldFactors$Extension;", Cond.methodLink RX1 52 yX2_degree, Cond.instanceMethod yX2_degree, Cond.selects RX2 yX2_degree yX2_degree, Cond.code yX2_degree cX2_degree 2 (some .int), Cond.methodLink RX1 71 yX2_clear]
def wsX3_keepRoot_r2 : List Cond := [Cond.instanceMethod yX2_clear, Cond.selects RX2 yX2_clear yX2_clear, Cond.code yX2_clear cX2_clear 2 none, Cond.methodLink RX1 60 yX2_get, Cond.methodLink RX1 67 yX2_set, Cond.instanceMethod yX2_set, Cond.selects RX2 yX2_set yX2_set, Cond.code yX2_set cX2_set 3 none, Cond.methodLink RX1 56 yX0_times, Cond.instanceMethod yX0_times, Cond.selects RX0 yX0_times yX0_times, Cond.initialized RX0, Cond.code yX0_times cX0_times 15 (some .int), Cond.fieldLink RX0 9 "NumberFieldFactors$Extension" "degree" "I", Cond.fieldLink RX0 21 "NumberFieldFactors$Extension" "low1" "I", Cond.fieldLink RX0 18 "NumberFieldFactors$Extension" "low0" "I", Cond.fieldLink RX0 24 "NumberFieldFactors$Extension" "low2" "I", Cond.methodLink RX1 78 yX0_minus, Cond.instanceMethod yX0_minus, Cond.selects RX0 yX0_minus yX0_minus, Cond.code yX0_minus cX0_minus 6 (some .int), Cond.methodLink RX3 88 yX1_makeMonic, Cond.instanceMethod yX1_makeMonic, Cond.selects RX1 yX1_makeMonic yX1_makeMonic]
def wsX3_keepRoot_r3 : List Cond := [Cond.code yX1_makeMonic cX1_makeMonic 6 none, Cond.methodLink RX1 85 yX0_power, Cond.instanceMethod yX0_power, Cond.selects RX0 yX0_power yX0_power, Cond.code yX0_power cX0_power 6 (some .int), Cond.methodLink RX0 45 yX0_times]
def wsX3_keepRoot : List Cond := .code yX3_keepRoot cX3_keepRoot 3 none :: ((wsX3_keepRoot_r1 ++ (wsX3_keepRoot_r2 ++ wsX3_keepRoot_r3)) ++ wsX30 ++ wsX10 ++ wsX20 ++ wsX00)
def wsX3_sizeToThe : List Cond := .code yX3_sizeToThe cX3_sizeToThe 4 (some .long) :: ([] ++ wsX10 ++ wsX00)
def wsX3_add : List Cond := .code yX3_add cX3_add 2 none :: ([.fieldLink RX3 21 "NumberFieldFactors$Splitter" "count" "I", .fieldLink RX3 11 "NumberFieldFactors$Splitter" "parts" "[LNumberFieldFactors$Row;", .methodLink RX3 61 yX2_copy, .instanceMethod yX2_copy, .selects RX2 yX2_copy yX2_copy, .initialized RX2, .code yX2_copy cX2_copy 3 none, .fieldLink RX2 9 "NumberFieldFactors$Row" "elements" "[I", .methodLink RX2 15 yX2_get, .instanceMethod yX2_get, .selects RX2 yX2_get yX2_get, .code yX2_get cX2_get 2 (some .int)] ++ wsX30 ++ wsX20)
def wsX3_collect_r1 : List Cond := [Cond.fieldLink RX3 34 "NumberFieldFactors$Splitter" "rest" "LNumberFieldFactors$Row;", Cond.fieldLink RX3 37 "NumberFieldFactors$Splitter" "power" "LNumberFieldFactors$Row;", Cond.fieldLink RX3 40 "NumberFieldFactors$Splitter" "shared" "LNumberFieldFactors$Row;", Cond.methodLink RX3 100 yX3_sizeToThe, Cond.static yX3_sizeToThe, Cond.initialized RX3, Cond.code yX3_sizeToThe cX3_sizeToThe 4 (some .long), Cond.methodLink RX3 104 yX1_raiseLinear, Cond.instanceMethod yX1_raiseLinear, Cond.selects RX1 yX1_raiseLinear yX1_raiseLinear, Cond.initialized RX1, Cond.code yX1_raiseLinear cX1_raiseLinear 7 none, Cond.methodLink RX1 99 yX2_becomeOne, Cond.instanceMethod yX2_becomeOne, Cond.selects RX2 yX2_becomeOne yX2_becomeOne, Cond.initialized RX2, Cond.code yX2_becomeOne cX2_becomeOne 1 none, Cond.methodLink RX2 19 yX2_clear, Cond.instanceMethod yX2_clear, Cond.selects RX2 yX2_clear yX2_clear, Cond.code yX2_clear cX2_clear 2 none, Cond.fieldLink RX2 9 "NumberFieldFactors$Row" "elements" "[I", Cond.methodLink RX2 22 yX2_set, Cond.instanceMethod yX2_set]
def wsX3_collect_r2 : List Cond := [Cond.selects RX2 yX2_set yX2_set, Cond.code yX2_set cX2_set 3 none, Cond.methodLink RX1 102 yX1_multiply, Cond.instanceMethod yX1_multiply, Cond.selects RX1 yX1_multiply yX1_multiply, Cond.code yX1_multiply cX1_multiply 8 none, Cond.fieldLink RX1 21 "NumberFieldFactors$Ring" "wide" "LNumberFieldFactors$Row;", Cond.fieldLink RX1 12 "NumberFieldFactors$Ring" "extension" "LNumberFieldFactors$Extension;", Cond.methodLink RX1 52 yX2_degree, Cond.instanceMethod yX2_degree, Cond.selects RX2 yX2_degree yX2_degree, Cond.code yX2_degree cX2_degree 2 (some .int), Cond.methodLink RX1 71 yX2_clear, Cond.methodLink RX1 60 yX2_get, Cond.instanceMethod yX2_get, Cond.selects RX2 yX2_get yX2_get, Cond.code yX2_get cX2_get 2 (some .int), Cond.methodLink RX1 56 yX0_times, Cond.instanceMethod yX0_times, Cond.selects RX0 yX0_times yX0_times, Cond.initialized RX0, Cond.code yX0_times cX0_times 15 (some .int), Cond.fieldLink RX0 9 "NumberFieldFactors$Extension" "degree" "I", Cond.fieldLink RX0 21 "NumberFieldFactors$Extension" "low1" "I"]
def wsX3_collect_r3 : List Cond := [Cond.fieldLink RX0 18 "NumberFieldFactors$Extension" "low0" "I", Cond.fieldLink RX0 24 "NumberFieldFactors$Extension" "low2" "I", Cond.methodLink RX1 64 yX0_plus, Cond.instanceMethod yX0_plus, Cond.selects RX0 yX0_plus yX0_plus, Cond.code yX0_plus cX0_plus 6 (some .int), Cond.methodLink RX1 67 yX2_set, Cond.methodLink RX1 74 yX2_copy, Cond.instanceMethod yX2_copy, Cond.selects RX2 yX2_copy yX2_copy, Cond.code yX2_copy cX2_copy 3 none, Cond.methodLink RX2 15 yX2_get, Cond.methodLink RX1 105 yX1_multiplyLinear, Cond.instanceMethod yX1_multiplyLinear, Cond.selects RX1 yX1_multiplyLinear yX1_multiplyLinear, Cond.code yX1_multiplyLinear cX1_multiplyLinear 4 none, Cond.methodLink RX1 91 yX1_divide, Cond.instanceMethod yX1_divide, Cond.selects RX1 yX1_divide yX1_divide, Cond.code yX1_divide cX1_divide 8 none, Cond.fieldLink RX1 25 "NumberFieldFactors$Ring" "quotient" "LNumberFieldFactors$Row;", Cond.methodLink RX1 78 yX0_minus, Cond.instanceMethod yX0_minus, Cond.selects RX0 yX0_minus yX0_minus]
def wsX3_collect_r4 : List Cond := [Cond.code yX0_minus cX0_minus 6 (some .int), Cond.methodLink RX3 108 yX2_get, Cond.methodLink RX3 112 yX0_minus, Cond.methodLink RX3 116 yX2_set, Cond.methodLink RX3 120 yX1_findCommon, Cond.instanceMethod yX1_findCommon, Cond.selects RX1 yX1_findCommon yX1_findCommon, Cond.code yX1_findCommon cX1_findCommon 8 none, Cond.fieldLink RX1 28 "NumberFieldFactors$Ring" "older" "LNumberFieldFactors$Row;", Cond.fieldLink RX1 31 "NumberFieldFactors$Ring" "newer" "LNumberFieldFactors$Row;", Cond.methodLink RX1 88 yX1_makeMonic, Cond.instanceMethod yX1_makeMonic, Cond.selects RX1 yX1_makeMonic yX1_makeMonic, Cond.code yX1_makeMonic cX1_makeMonic 6 none, Cond.methodLink RX1 85 yX0_power, Cond.instanceMethod yX0_power, Cond.selects RX0 yX0_power yX0_power, Cond.code yX0_power cX0_power 6 (some .int), Cond.methodLink RX0 45 yX0_times, Cond.methodLink RX3 47 yX2_degree, Cond.methodLink RX3 73 yX3_add, Cond.instanceMethod yX3_add, Cond.selects RX3 yX3_add yX3_add, Cond.code yX3_add cX3_add 2 none]
def wsX3_collect_r5 : List Cond := [Cond.fieldLink RX3 21 "NumberFieldFactors$Splitter" "count" "I", Cond.fieldLink RX3 11 "NumberFieldFactors$Splitter" "parts" "[LNumberFieldFactors$Row;", Cond.methodLink RX3 61 yX2_copy, Cond.methodLink RX3 82 yX1_divide]
def wsX3_collect : List Cond := .code yX3_collect cX3_collect 3 none :: ((wsX3_collect_r1 ++ (wsX3_collect_r2 ++ (wsX3_collect_r3 ++ (wsX3_collect_r4 ++ wsX3_collect_r5)))) ++ wsX30 ++ wsX10 ++ wsX00 ++ wsX20)
def wsX3_separate_r1 : List Cond := [Cond.constantLong RX3 124 (2), Cond.fieldLink RX3 21 "NumberFieldFactors$Splitter" "count" "I", Cond.fieldLink RX3 37 "NumberFieldFactors$Splitter" "power" "LNumberFieldFactors$Row;", Cond.fieldLink RX3 40 "NumberFieldFactors$Splitter" "shared" "LNumberFieldFactors$Row;", Cond.methodLink RX3 100 yX3_sizeToThe, Cond.static yX3_sizeToThe, Cond.initialized RX3, Cond.code yX3_sizeToThe cX3_sizeToThe 4 (some .long), Cond.methodLink RX3 43 yX3_part, Cond.instanceMethod yX3_part, Cond.selects RX3 yX3_part yX3_part, Cond.code yX3_part cX3_part 2 (some (.object "NumberFieldFactors$Row")), Cond.fieldLink RX3 11 "NumberFieldFactors$Splitter" "parts" "[LNumberFieldFactors$Row;", Cond.fieldLink RX3 30 "NumberFieldFactors$Splitter" "root" "LNumberFieldFactors$Row;", Cond.methodLink RX3 47 yX2_degree, Cond.instanceMethod yX2_degree, Cond.selects RX2 yX2_degree yX2_degree, Cond.initialized RX2, Cond.code yX2_degree cX2_degree 2 (some .int), Cond.fieldLink RX2 9 "NumberFieldFactors$Row" "elements" "[I", Cond.methodLink RX3 104 yX1_raiseLinear, Cond.instanceMethod yX1_raiseLinear, Cond.selects RX1 yX1_raiseLinear yX1_raiseLinear, Cond.initialized RX1]
def wsX3_separate_r2 : List Cond := [Cond.code yX1_raiseLinear cX1_raiseLinear 7 none, Cond.methodLink RX1 99 yX2_becomeOne, Cond.instanceMethod yX2_becomeOne, Cond.selects RX2 yX2_becomeOne yX2_becomeOne, Cond.code yX2_becomeOne cX2_becomeOne 1 none, Cond.methodLink RX2 19 yX2_clear, Cond.instanceMethod yX2_clear, Cond.selects RX2 yX2_clear yX2_clear, Cond.code yX2_clear cX2_clear 2 none, Cond.methodLink RX2 22 yX2_set, Cond.instanceMethod yX2_set, Cond.selects RX2 yX2_set yX2_set, Cond.code yX2_set cX2_set 3 none, Cond.methodLink RX1 102 yX1_multiply, Cond.instanceMethod yX1_multiply, Cond.selects RX1 yX1_multiply yX1_multiply, Cond.code yX1_multiply cX1_multiply 8 none, Cond.fieldLink RX1 21 "NumberFieldFactors$Ring" "wide" "LNumberFieldFactors$Row;", Cond.fieldLink RX1 12 "NumberFieldFactors$Ring" "extension" "LNumberFieldFactors$Extension;", Cond.methodLink RX1 52 yX2_degree, Cond.methodLink RX1 71 yX2_clear, Cond.methodLink RX1 60 yX2_get, Cond.instanceMethod yX2_get, Cond.selects RX2 yX2_get yX2_get]
def wsX3_separate_r3 : List Cond := [Cond.code yX2_get cX2_get 2 (some .int), Cond.methodLink RX1 56 yX0_times, Cond.instanceMethod yX0_times, Cond.selects RX0 yX0_times yX0_times, Cond.initialized RX0, Cond.code yX0_times cX0_times 15 (some .int), Cond.fieldLink RX0 9 "NumberFieldFactors$Extension" "degree" "I", Cond.fieldLink RX0 21 "NumberFieldFactors$Extension" "low1" "I", Cond.fieldLink RX0 18 "NumberFieldFactors$Extension" "low0" "I", Cond.fieldLink RX0 24 "NumberFieldFactors$Extension" "low2" "I", Cond.methodLink RX1 64 yX0_plus, Cond.instanceMethod yX0_plus, Cond.selects RX0 yX0_plus yX0_plus, Cond.code yX0_plus cX0_plus 6 (some .int), Cond.methodLink RX1 67 yX2_set, Cond.methodLink RX1 74 yX2_copy, Cond.instanceMethod yX2_copy, Cond.selects RX2 yX2_copy yX2_copy, Cond.code yX2_copy cX2_copy 3 none, Cond.methodLink RX2 15 yX2_get, Cond.methodLink RX1 105 yX1_multiplyLinear, Cond.instanceMethod yX1_multiplyLinear, Cond.selects RX1 yX1_multiplyLinear yX1_multiplyLinear, Cond.code yX1_multiplyLinear cX1_multiplyLinear 4 none]
def wsX3_separate_r4 : List Cond := [Cond.methodLink RX1 91 yX1_divide, Cond.instanceMethod yX1_divide, Cond.selects RX1 yX1_divide yX1_divide, Cond.code yX1_divide cX1_divide 8 none, Cond.fieldLink RX1 25 "NumberFieldFactors$Ring" "quotient" "LNumberFieldFactors$Row;", Cond.methodLink RX1 78 yX0_minus, Cond.instanceMethod yX0_minus, Cond.selects RX0 yX0_minus yX0_minus, Cond.code yX0_minus cX0_minus 6 (some .int), Cond.methodLink RX3 108 yX2_get, Cond.methodLink RX3 112 yX0_minus, Cond.methodLink RX3 116 yX2_set, Cond.methodLink RX3 120 yX1_findCommon, Cond.instanceMethod yX1_findCommon, Cond.selects RX1 yX1_findCommon yX1_findCommon, Cond.code yX1_findCommon cX1_findCommon 8 none, Cond.fieldLink RX1 28 "NumberFieldFactors$Ring" "older" "LNumberFieldFactors$Row;", Cond.fieldLink RX1 31 "NumberFieldFactors$Ring" "newer" "LNumberFieldFactors$Row;", Cond.methodLink RX1 88 yX1_makeMonic, Cond.instanceMethod yX1_makeMonic, Cond.selects RX1 yX1_makeMonic yX1_makeMonic, Cond.code yX1_makeMonic cX1_makeMonic 6 none, Cond.methodLink RX1 85 yX0_power, Cond.instanceMethod yX0_power]
def wsX3_separate_r5 : List Cond := [Cond.selects RX0 yX0_power yX0_power, Cond.code yX0_power cX0_power 6 (some .int), Cond.methodLink RX0 45 yX0_times, Cond.methodLink RX3 82 yX1_divide, Cond.methodLink RX3 61 yX2_copy, Cond.methodLink RX3 73 yX3_add, Cond.instanceMethod yX3_add, Cond.selects RX3 yX3_add yX3_add, Cond.code yX3_add cX3_add 2 none]
def wsX3_separate : List Cond := .code yX3_separate cX3_separate 13 none :: ((wsX3_separate_r1 ++ (wsX3_separate_r2 ++ (wsX3_separate_r3 ++ (wsX3_separate_r4 ++ wsX3_separate_r5)))) ++ wsX10 ++ wsX00 ++ wsX30 ++ wsX20)
def wsX3_sort : List Cond := .code yX3_sort cX3_sort 4 none :: ([.fieldLink RX3 21 "NumberFieldFactors$Splitter" "count" "I", .fieldLink RX3 11 "NumberFieldFactors$Splitter" "parts" "[LNumberFieldFactors$Row;", .methodLink RX3 126 yX2_isBefore, .instanceMethod yX2_isBefore, .selects RX2 yX2_isBefore yX2_isBefore, .initialized RX2, .code yX2_isBefore cX2_isBefore 5 (some .boolean), .methodLink RX2 26 yX2_degree, .instanceMethod yX2_degree, .selects RX2 yX2_degree yX2_degree, .code yX2_degree cX2_degree 2 (some .int), .fieldLink RX2 9 "NumberFieldFactors$Row" "elements" "[I", .methodLink RX2 15 yX2_get, .instanceMethod yX2_get, .selects RX2 yX2_get yX2_get, .code yX2_get cX2_get 2 (some .int)] ++ wsX30 ++ wsX20)
def wsX3_countTimes_r1 : List Cond := [Cond.fieldLink RX3 21 "NumberFieldFactors$Splitter" "count" "I", Cond.fieldLink RX3 17 "NumberFieldFactors$Splitter" "counts" "[I", Cond.fieldLink RX3 34 "NumberFieldFactors$Splitter" "rest" "LNumberFieldFactors$Row;", Cond.methodLink RX3 61 yX2_copy, Cond.instanceMethod yX2_copy, Cond.selects RX2 yX2_copy yX2_copy, Cond.initialized RX2, Cond.code yX2_copy cX2_copy 3 none, Cond.fieldLink RX2 9 "NumberFieldFactors$Row" "elements" "[I", Cond.methodLink RX2 15 yX2_get, Cond.instanceMethod yX2_get, Cond.selects RX2 yX2_get yX2_get, Cond.code yX2_get cX2_get 2 (some .int), Cond.methodLink RX3 43 yX3_part, Cond.instanceMethod yX3_part, Cond.selects RX3 yX3_part yX3_part, Cond.initialized RX3, Cond.code yX3_part cX3_part 2 (some (.object "NumberFieldFactors$Row")), Cond.fieldLink RX3 11 "NumberFieldFactors$Splitter" "parts" "[LNumberFieldFactors$Row;", Cond.fieldLink RX3 30 "NumberFieldFactors$Splitter" "root" "LNumberFieldFactors$Row;", Cond.methodLink RX3 82 yX1_divide, Cond.instanceMethod yX1_divide, Cond.selects RX1 yX1_divide yX1_divide, Cond.initialized RX1]
def wsX3_countTimes_r2 : List Cond := [Cond.code yX1_divide cX1_divide 8 none, Cond.fieldLink RX1 25 "NumberFieldFactors$Ring" "quotient" "LNumberFieldFactors$Row;", Cond.fieldLink RX1 12 "NumberFieldFactors$Ring" "extension" "LNumberFieldFactors$Extension;", Cond.methodLink RX1 52 yX2_degree, Cond.instanceMethod yX2_degree, Cond.selects RX2 yX2_degree yX2_degree, Cond.code yX2_degree cX2_degree 2 (some .int), Cond.methodLink RX1 71 yX2_clear, Cond.instanceMethod yX2_clear, Cond.selects RX2 yX2_clear yX2_clear, Cond.code yX2_clear cX2_clear 2 none, Cond.methodLink RX1 60 yX2_get, Cond.methodLink RX1 67 yX2_set, Cond.instanceMethod yX2_set, Cond.selects RX2 yX2_set yX2_set, Cond.code yX2_set cX2_set 3 none, Cond.methodLink RX1 56 yX0_times, Cond.instanceMethod yX0_times, Cond.selects RX0 yX0_times yX0_times, Cond.initialized RX0, Cond.code yX0_times cX0_times 15 (some .int), Cond.fieldLink RX0 9 "NumberFieldFactors$Extension" "degree" "I", Cond.fieldLink RX0 21 "NumberFieldFactors$Extension" "low1" "I", Cond.fieldLink RX0 18 "NumberFieldFactors$Extension" "low0" "I"]
def wsX3_countTimes_r3 : List Cond := [Cond.fieldLink RX0 24 "NumberFieldFactors$Extension" "low2" "I", Cond.methodLink RX1 78 yX0_minus, Cond.instanceMethod yX0_minus, Cond.selects RX0 yX0_minus yX0_minus, Cond.code yX0_minus cX0_minus 6 (some .int), Cond.methodLink RX3 47 yX2_degree]
def wsX3_countTimes : List Cond := .code yX3_countTimes cX3_countTimes 5 none :: ((wsX3_countTimes_r1 ++ (wsX3_countTimes_r2 ++ wsX3_countTimes_r3)) ++ wsX30 ++ wsX10 ++ wsX20 ++ wsX00)
def wsX3_find_r1 : List Cond := [Cond.fieldLink RX3 25 "NumberFieldFactors$Splitter" "found" "Z", Cond.fieldLink RX3 21 "NumberFieldFactors$Splitter" "count" "I", Cond.fieldLink RX3 40 "NumberFieldFactors$Splitter" "shared" "LNumberFieldFactors$Row;", Cond.fieldLink RX3 34 "NumberFieldFactors$Splitter" "rest" "LNumberFieldFactors$Row;", Cond.fieldLink RX3 30 "NumberFieldFactors$Splitter" "root" "LNumberFieldFactors$Row;", Cond.methodLink RX3 51 yX1_findSquares, Cond.instanceMethod yX1_findSquares, Cond.selects RX1 yX1_findSquares yX1_findSquares, Cond.initialized RX1, Cond.code yX1_findSquares cX1_findSquares 4 none, Cond.fieldLink RX1 34 "NumberFieldFactors$Ring" "derived" "LNumberFieldFactors$Row;", Cond.fieldLink RX1 12 "NumberFieldFactors$Ring" "extension" "LNumberFieldFactors$Extension;", Cond.methodLink RX1 71 yX2_clear, Cond.instanceMethod yX2_clear, Cond.selects RX2 yX2_clear yX2_clear, Cond.initialized RX2, Cond.code yX2_clear cX2_clear 2 none, Cond.fieldLink RX2 9 "NumberFieldFactors$Row" "elements" "[I", Cond.methodLink RX1 52 yX2_degree, Cond.instanceMethod yX2_degree, Cond.selects RX2 yX2_degree yX2_degree, Cond.code yX2_degree cX2_degree 2 (some .int), Cond.methodLink RX1 60 yX2_get, Cond.instanceMethod yX2_get]
def wsX3_find_r2 : List Cond := [Cond.selects RX2 yX2_get yX2_get, Cond.code yX2_get cX2_get 2 (some .int), Cond.methodLink RX1 56 yX0_times, Cond.instanceMethod yX0_times, Cond.selects RX0 yX0_times yX0_times, Cond.initialized RX0, Cond.code yX0_times cX0_times 15 (some .int), Cond.fieldLink RX0 9 "NumberFieldFactors$Extension" "degree" "I", Cond.fieldLink RX0 21 "NumberFieldFactors$Extension" "low1" "I", Cond.fieldLink RX0 18 "NumberFieldFactors$Extension" "low0" "I", Cond.fieldLink RX0 24 "NumberFieldFactors$Extension" "low2" "I", Cond.methodLink RX1 67 yX2_set, Cond.instanceMethod yX2_set, Cond.selects RX2 yX2_set yX2_set, Cond.code yX2_set cX2_set 3 none, Cond.methodLink RX1 95 yX1_findCommon, Cond.instanceMethod yX1_findCommon, Cond.selects RX1 yX1_findCommon yX1_findCommon, Cond.code yX1_findCommon cX1_findCommon 8 none, Cond.fieldLink RX1 28 "NumberFieldFactors$Ring" "older" "LNumberFieldFactors$Row;", Cond.fieldLink RX1 31 "NumberFieldFactors$Ring" "newer" "LNumberFieldFactors$Row;", Cond.methodLink RX1 74 yX2_copy, Cond.instanceMethod yX2_copy, Cond.selects RX2 yX2_copy yX2_copy]
def wsX3_find_r3 : List Cond := [Cond.code yX2_copy cX2_copy 3 none, Cond.methodLink RX2 15 yX2_get, Cond.methodLink RX1 88 yX1_makeMonic, Cond.instanceMethod yX1_makeMonic, Cond.selects RX1 yX1_makeMonic yX1_makeMonic, Cond.code yX1_makeMonic cX1_makeMonic 6 none, Cond.methodLink RX1 85 yX0_power, Cond.instanceMethod yX0_power, Cond.selects RX0 yX0_power yX0_power, Cond.code yX0_power cX0_power 6 (some .int), Cond.methodLink RX0 45 yX0_times, Cond.methodLink RX1 91 yX1_divide, Cond.instanceMethod yX1_divide, Cond.selects RX1 yX1_divide yX1_divide, Cond.code yX1_divide cX1_divide 8 none, Cond.fieldLink RX1 25 "NumberFieldFactors$Ring" "quotient" "LNumberFieldFactors$Row;", Cond.methodLink RX1 78 yX0_minus, Cond.instanceMethod yX0_minus, Cond.selects RX0 yX0_minus yX0_minus, Cond.code yX0_minus cX0_minus 6 (some .int), Cond.methodLink RX3 57 yX3_keepRoot, Cond.instanceMethod yX3_keepRoot, Cond.selects RX3 yX3_keepRoot yX3_keepRoot, Cond.initialized RX3]
def wsX3_find_r4 : List Cond := [Cond.code yX3_keepRoot cX3_keepRoot 3 none, Cond.methodLink RX3 61 yX2_copy, Cond.methodLink RX3 82 yX1_divide, Cond.methodLink RX3 88 yX1_makeMonic, Cond.methodLink RX3 47 yX2_degree, Cond.methodLink RX3 65 yX3_collect, Cond.instanceMethod yX3_collect, Cond.selects RX3 yX3_collect yX3_collect, Cond.code yX3_collect cX3_collect 3 none, Cond.fieldLink RX3 37 "NumberFieldFactors$Splitter" "power" "LNumberFieldFactors$Row;", Cond.methodLink RX3 100 yX3_sizeToThe, Cond.static yX3_sizeToThe, Cond.code yX3_sizeToThe cX3_sizeToThe 4 (some .long), Cond.methodLink RX3 104 yX1_raiseLinear, Cond.instanceMethod yX1_raiseLinear, Cond.selects RX1 yX1_raiseLinear yX1_raiseLinear, Cond.code yX1_raiseLinear cX1_raiseLinear 7 none, Cond.methodLink RX1 99 yX2_becomeOne, Cond.instanceMethod yX2_becomeOne, Cond.selects RX2 yX2_becomeOne yX2_becomeOne, Cond.code yX2_becomeOne cX2_becomeOne 1 none, Cond.methodLink RX2 19 yX2_clear, Cond.methodLink RX2 22 yX2_set, Cond.methodLink RX1 102 yX1_multiply]
def wsX3_find_r5 : List Cond := [Cond.instanceMethod yX1_multiply, Cond.selects RX1 yX1_multiply yX1_multiply, Cond.code yX1_multiply cX1_multiply 8 none, Cond.fieldLink RX1 21 "NumberFieldFactors$Ring" "wide" "LNumberFieldFactors$Row;", Cond.methodLink RX1 64 yX0_plus, Cond.instanceMethod yX0_plus, Cond.selects RX0 yX0_plus yX0_plus, Cond.code yX0_plus cX0_plus 6 (some .int), Cond.methodLink RX1 105 yX1_multiplyLinear, Cond.instanceMethod yX1_multiplyLinear, Cond.selects RX1 yX1_multiplyLinear yX1_multiplyLinear, Cond.code yX1_multiplyLinear cX1_multiplyLinear 4 none, Cond.methodLink RX3 108 yX2_get, Cond.methodLink RX3 112 yX0_minus, Cond.methodLink RX3 116 yX2_set, Cond.methodLink RX3 120 yX1_findCommon, Cond.methodLink RX3 73 yX3_add, Cond.instanceMethod yX3_add, Cond.selects RX3 yX3_add yX3_add, Cond.code yX3_add cX3_add 2 none, Cond.fieldLink RX3 11 "NumberFieldFactors$Splitter" "parts" "[LNumberFieldFactors$Row;", Cond.methodLink RX3 69 yX3_separate, Cond.instanceMethod yX3_separate, Cond.selects RX3 yX3_separate yX3_separate]
def wsX3_find_r6 : List Cond := [Cond.code yX3_separate cX3_separate 13 none, Cond.constantLong RX3 124 (2), Cond.methodLink RX3 43 yX3_part, Cond.instanceMethod yX3_part, Cond.selects RX3 yX3_part yX3_part, Cond.code yX3_part cX3_part 2 (some (.object "NumberFieldFactors$Row")), Cond.methodLink RX3 76 yX3_sort, Cond.instanceMethod yX3_sort, Cond.selects RX3 yX3_sort yX3_sort, Cond.code yX3_sort cX3_sort 4 none, Cond.methodLink RX3 126 yX2_isBefore, Cond.instanceMethod yX2_isBefore, Cond.selects RX2 yX2_isBefore yX2_isBefore, Cond.code yX2_isBefore cX2_isBefore 5 (some .boolean), Cond.methodLink RX2 26 yX2_degree, Cond.methodLink RX3 79 yX3_countTimes, Cond.instanceMethod yX3_countTimes, Cond.selects RX3 yX3_countTimes yX3_countTimes, Cond.code yX3_countTimes cX3_countTimes 5 none, Cond.fieldLink RX3 17 "NumberFieldFactors$Splitter" "counts" "[I"]
def wsX3_find : List Cond := .code yX3_find cX3_find 5 none :: ((wsX3_find_r1 ++ (wsX3_find_r2 ++ (wsX3_find_r3 ++ (wsX3_find_r4 ++ (wsX3_find_r5 ++ wsX3_find_r6))))) ++ wsX30 ++ wsX10 ++ wsX20 ++ wsX00)
abbrev vwCl : List vw_C := [(RX0, TX0, 8), (RX1, TX1, 11), (RX2, TX2, 1), (RX3, TX3, 8), (RX4, TX4, 3), (RX5, TX5, 10)]
end
section
theorem dX2_init_0 : decode cX2_init 0 = .ok (.aload_n 0, 1) := by decide +kernel
theorem dX2_init_1 : decode cX2_init 1 = .ok (.invokespecial 3, 3) := by decide +kernel
theorem dX2_init_4 : decode cX2_init 4 = .ok (.aload_n 0, 1) := by decide +kernel
theorem dX2_init_5 : decode cX2_init 5 = .ok (.bipush 16, 2) := by decide +kernel
theorem dX2_init_7 : decode cX2_init 7 = .ok (.newarray .int, 2) := by decide +kernel
theorem dX2_init_9 : decode cX2_init 9 = .ok (.putfield 9, 3) := by decide +kernel
theorem dX2_init_12 : decode cX2_init 12 = .ok (.return_, 1) := by decide +kernel
theorem dX2_get_0 : decode cX2_get 0 = .ok (.iload_n 1, 1) := by decide +kernel
theorem dX2_get_1 : decode cX2_get 1 = .ok (.ifCond .lt 21, 3) := by decide +kernel
theorem dX2_get_4 : decode cX2_get 4 = .ok (.iload_n 1, 1) := by decide +kernel
theorem dX2_get_5 : decode cX2_get 5 = .ok (.aload_n 0, 1) := by decide +kernel
theorem dX2_get_6 : decode cX2_get 6 = .ok (.getfield 9, 3) := by decide +kernel
theorem dX2_get_9 : decode cX2_get 9 = .ok (.arraylength, 1) := by decide +kernel
theorem dX2_get_10 : decode cX2_get 10 = .ok (.if_icmp .ge 12, 3) := by decide +kernel
theorem dX2_get_13 : decode cX2_get 13 = .ok (.aload_n 0, 1) := by decide +kernel
theorem dX2_get_14 : decode cX2_get 14 = .ok (.getfield 9, 3) := by decide +kernel
theorem dX2_get_17 : decode cX2_get 17 = .ok (.iload_n 1, 1) := by decide +kernel
theorem dX2_get_18 : decode cX2_get 18 = .ok (.iaload, 1) := by decide +kernel
theorem dX2_get_19 : decode cX2_get 19 = .ok (.goto 4, 3) := by decide +kernel
theorem dX2_get_22 : decode cX2_get 22 = .ok (.iconst 0, 1) := by decide +kernel
theorem dX2_get_23 : decode cX2_get 23 = .ok (.ireturn, 1) := by decide +kernel
theorem dX2_set_0 : decode cX2_set 0 = .ok (.iload_n 1, 1) := by decide +kernel
theorem dX2_set_1 : decode cX2_set 1 = .ok (.ifCond .lt 19, 3) := by decide +kernel
theorem dX2_set_4 : decode cX2_set 4 = .ok (.iload_n 1, 1) := by decide +kernel
theorem dX2_set_5 : decode cX2_set 5 = .ok (.aload_n 0, 1) := by decide +kernel
theorem dX2_set_6 : decode cX2_set 6 = .ok (.getfield 9, 3) := by decide +kernel
theorem dX2_set_9 : decode cX2_set 9 = .ok (.arraylength, 1) := by decide +kernel
theorem dX2_set_10 : decode cX2_set 10 = .ok (.if_icmp .ge 10, 3) := by decide +kernel
theorem dX2_set_13 : decode cX2_set 13 = .ok (.aload_n 0, 1) := by decide +kernel
theorem dX2_set_14 : decode cX2_set 14 = .ok (.getfield 9, 3) := by decide +kernel
theorem dX2_set_17 : decode cX2_set 17 = .ok (.iload_n 1, 1) := by decide +kernel
theorem dX2_set_18 : decode cX2_set 18 = .ok (.iload_n 2, 1) := by decide +kernel
theorem dX2_set_19 : decode cX2_set 19 = .ok (.iastore, 1) := by decide +kernel
theorem dX2_set_20 : decode cX2_set 20 = .ok (.return_, 1) := by decide +kernel
theorem dX2_degree_0 : decode cX2_degree 0 = .ok (.aload_n 0, 1) := by decide +kernel
theorem dX2_degree_1 : decode cX2_degree 1 = .ok (.getfield 9, 3) := by decide +kernel
theorem dX2_degree_4 : decode cX2_degree 4 = .ok (.arraylength, 1) := by decide +kernel
theorem dX2_degree_5 : decode cX2_degree 5 = .ok (.iconst 1, 1) := by decide +kernel
theorem dX2_degree_6 : decode cX2_degree 6 = .ok (.isub, 1) := by decide +kernel
theorem dX2_degree_7 : decode cX2_degree 7 = .ok (.istore_n 1, 1) := by decide +kernel
theorem dX2_degree_8 : decode cX2_degree 8 = .ok (.iload_n 1, 1) := by decide +kernel
theorem dX2_degree_9 : decode cX2_degree 9 = .ok (.ifCond .lt 18, 3) := by decide +kernel
theorem dX2_degree_12 : decode cX2_degree 12 = .ok (.aload_n 0, 1) := by decide +kernel
theorem dX2_degree_13 : decode cX2_degree 13 = .ok (.getfield 9, 3) := by decide +kernel
theorem dX2_degree_16 : decode cX2_degree 16 = .ok (.iload_n 1, 1) := by decide +kernel
theorem dX2_degree_17 : decode cX2_degree 17 = .ok (.iaload, 1) := by decide +kernel
theorem dX2_degree_18 : decode cX2_degree 18 = .ok (.ifCond .ne 9, 3) := by decide +kernel
theorem dX2_degree_21 : decode cX2_degree 21 = .ok (.iinc 1 (-1), 3) := by decide +kernel
theorem dX2_degree_24 : decode cX2_degree 24 = .ok (.goto (-16), 3) := by decide +kernel
theorem dX2_degree_27 : decode cX2_degree 27 = .ok (.iload_n 1, 1) := by decide +kernel
theorem dX2_degree_28 : decode cX2_degree 28 = .ok (.ireturn, 1) := by decide +kernel
theorem dX2_clear_0 : decode cX2_clear 0 = .ok (.iconst 0, 1) := by decide +kernel
theorem dX2_clear_1 : decode cX2_clear 1 = .ok (.istore_n 1, 1) := by decide +kernel
theorem dX2_clear_2 : decode cX2_clear 2 = .ok (.iload_n 1, 1) := by decide +kernel
theorem dX2_clear_3 : decode cX2_clear 3 = .ok (.aload_n 0, 1) := by decide +kernel
theorem dX2_clear_4 : decode cX2_clear 4 = .ok (.getfield 9, 3) := by decide +kernel
theorem dX2_clear_7 : decode cX2_clear 7 = .ok (.arraylength, 1) := by decide +kernel
theorem dX2_clear_8 : decode cX2_clear 8 = .ok (.if_icmp .ge 16, 3) := by decide +kernel
theorem dX2_clear_11 : decode cX2_clear 11 = .ok (.aload_n 0, 1) := by decide +kernel
theorem dX2_clear_12 : decode cX2_clear 12 = .ok (.getfield 9, 3) := by decide +kernel
theorem dX2_clear_15 : decode cX2_clear 15 = .ok (.iload_n 1, 1) := by decide +kernel
theorem dX2_clear_16 : decode cX2_clear 16 = .ok (.iconst 0, 1) := by decide +kernel
theorem dX2_clear_17 : decode cX2_clear 17 = .ok (.iastore, 1) := by decide +kernel
theorem dX2_clear_18 : decode cX2_clear 18 = .ok (.iinc 1 1, 3) := by decide +kernel
theorem dX2_clear_21 : decode cX2_clear 21 = .ok (.goto (-19), 3) := by decide +kernel
theorem dX2_clear_24 : decode cX2_clear 24 = .ok (.return_, 1) := by decide +kernel
set_option maxRecDepth 20000 in
theorem ggX2_copy_X2_get : GoodIn wsX2_copy wsX2_get := goodIn_r _ [6, 1, 7] (by decide +kernel) (by decide +kernel)
set_option maxRecDepth 20000 in
theorem gX2_copy_X2_get : GoodIn wsX2_copy (wsV RX2 15 RX2 yX2_get wsX2_get) := goodIn_app (goodIn_of _ (by decide +kernel)) ggX2_copy_X2_get
theorem dX2_copy_0 : decode cX2_copy 0 = .ok (.iconst 0, 1) := by decide +kernel
theorem dX2_copy_1 : decode cX2_copy 1 = .ok (.istore_n 2, 1) := by decide +kernel
theorem dX2_copy_2 : decode cX2_copy 2 = .ok (.iload_n 2, 1) := by decide +kernel
theorem dX2_copy_3 : decode cX2_copy 3 = .ok (.aload_n 0, 1) := by decide +kernel
theorem dX2_copy_4 : decode cX2_copy 4 = .ok (.getfield 9, 3) := by decide +kernel
theorem dX2_copy_7 : decode cX2_copy 7 = .ok (.arraylength, 1) := by decide +kernel
theorem dX2_copy_8 : decode cX2_copy 8 = .ok (.if_icmp .ge 20, 3) := by decide +kernel
theorem dX2_copy_11 : decode cX2_copy 11 = .ok (.aload_n 0, 1) := by decide +kernel
theorem dX2_copy_12 : decode cX2_copy 12 = .ok (.getfield 9, 3) := by decide +kernel
theorem dX2_copy_15 : decode cX2_copy 15 = .ok (.iload_n 2, 1) := by decide +kernel
theorem dX2_copy_16 : decode cX2_copy 16 = .ok (.aload_n 1, 1) := by decide +kernel
theorem dX2_copy_17 : decode cX2_copy 17 = .ok (.iload_n 2, 1) := by decide +kernel
theorem dX2_copy_18 : decode cX2_copy 18 = .ok (.invokevirtual 15, 3) := by decide +kernel
theorem dX2_copy_21 : decode cX2_copy 21 = .ok (.iastore, 1) := by decide +kernel
theorem dX2_copy_22 : decode cX2_copy 22 = .ok (.iinc 2 1, 3) := by decide +kernel
theorem dX2_copy_25 : decode cX2_copy 25 = .ok (.goto (-23), 3) := by decide +kernel
theorem dX2_copy_28 : decode cX2_copy 28 = .ok (.return_, 1) := by decide +kernel
set_option maxRecDepth 20000 in
theorem ggX2_becomeOne_X2_clear : GoodIn wsX2_becomeOne wsX2_clear := goodIn_r _ [5, 6, 11] (by decide +kernel) (by decide +kernel)
set_option maxRecDepth 20000 in
theorem gX2_becomeOne_X2_clear : GoodIn wsX2_becomeOne (wsV RX2 19 RX2 yX2_clear wsX2_clear) := goodIn_app (goodIn_of _ (by decide +kernel)) ggX2_becomeOne_X2_clear
set_option maxRecDepth 20000 in
theorem ggX2_becomeOne_X2_set : GoodIn wsX2_becomeOne wsX2_set := goodIn_r _ [10, 6, 11] (by decide +kernel) (by decide +kernel)
set_option maxRecDepth 20000 in
theorem gX2_becomeOne_X2_set : GoodIn wsX2_becomeOne (wsV RX2 22 RX2 yX2_set wsX2_set) := goodIn_app (goodIn_of _ (by decide +kernel)) ggX2_becomeOne_X2_set
theorem dX2_becomeOne_0 : decode cX2_becomeOne 0 = .ok (.aload_n 0, 1) := by decide +kernel
theorem dX2_becomeOne_1 : decode cX2_becomeOne 1 = .ok (.invokevirtual 19, 3) := by decide +kernel
theorem dX2_becomeOne_4 : decode cX2_becomeOne 4 = .ok (.aload_n 0, 1) := by decide +kernel
theorem dX2_becomeOne_5 : decode cX2_becomeOne 5 = .ok (.iconst 0, 1) := by decide +kernel
theorem dX2_becomeOne_6 : decode cX2_becomeOne 6 = .ok (.iconst 1, 1) := by decide +kernel
theorem dX2_becomeOne_7 : decode cX2_becomeOne 7 = .ok (.invokevirtual 22, 3) := by decide +kernel
theorem dX2_becomeOne_10 : decode cX2_becomeOne 10 = .ok (.return_, 1) := by decide +kernel
set_option maxRecDepth 20000 in
theorem ggX2_isBefore_X2_degree : GoodIn wsX2_isBefore wsX2_degree := goodIn_r _ [5, 6, 11] (by decide +kernel) (by decide +kernel)
set_option maxRecDepth 20000 in
theorem gX2_isBefore_X2_degree : GoodIn wsX2_isBefore (wsV RX2 26 RX2 yX2_degree wsX2_degree) := goodIn_app (goodIn_of _ (by decide +kernel)) ggX2_isBefore_X2_degree
set_option maxRecDepth 20000 in
theorem ggX2_isBefore_X2_get : GoodIn wsX2_isBefore wsX2_get := goodIn_r _ [10, 6, 11] (by decide +kernel) (by decide +kernel)
set_option maxRecDepth 20000 in
theorem gX2_isBefore_X2_get : GoodIn wsX2_isBefore (wsV RX2 15 RX2 yX2_get wsX2_get) := goodIn_app (goodIn_of _ (by decide +kernel)) ggX2_isBefore_X2_get
theorem dX2_isBefore_0 : decode cX2_isBefore 0 = .ok (.aload_n 0, 1) := by decide +kernel
theorem dX2_isBefore_1 : decode cX2_isBefore 1 = .ok (.invokevirtual 26, 3) := by decide +kernel
theorem dX2_isBefore_4 : decode cX2_isBefore 4 = .ok (.istore_n 2, 1) := by decide +kernel
theorem dX2_isBefore_5 : decode cX2_isBefore 5 = .ok (.aload_n 1, 1) := by decide +kernel
theorem dX2_isBefore_6 : decode cX2_isBefore 6 = .ok (.invokevirtual 26, 3) := by decide +kernel
theorem dX2_isBefore_9 : decode cX2_isBefore 9 = .ok (.istore_n 3, 1) := by decide +kernel
theorem dX2_isBefore_10 : decode cX2_isBefore 10 = .ok (.iload_n 2, 1) := by decide +kernel
theorem dX2_isBefore_11 : decode cX2_isBefore 11 = .ok (.iload_n 3, 1) := by decide +kernel
theorem dX2_isBefore_12 : decode cX2_isBefore 12 = .ok (.if_icmp .eq 14, 3) := by decide +kernel
theorem dX2_isBefore_15 : decode cX2_isBefore 15 = .ok (.iload_n 2, 1) := by decide +kernel
theorem dX2_isBefore_16 : decode cX2_isBefore 16 = .ok (.iload_n 3, 1) := by decide +kernel
theorem dX2_isBefore_17 : decode cX2_isBefore 17 = .ok (.if_icmp .ge 7, 3) := by decide +kernel
theorem dX2_isBefore_20 : decode cX2_isBefore 20 = .ok (.iconst 1, 1) := by decide +kernel
theorem dX2_isBefore_21 : decode cX2_isBefore 21 = .ok (.goto 4, 3) := by decide +kernel
theorem dX2_isBefore_24 : decode cX2_isBefore 24 = .ok (.iconst 0, 1) := by decide +kernel
theorem dX2_isBefore_25 : decode cX2_isBefore 25 = .ok (.ireturn, 1) := by decide +kernel
theorem dX2_isBefore_26 : decode cX2_isBefore 26 = .ok (.iload_n 2, 1) := by decide +kernel
theorem dX2_isBefore_27 : decode cX2_isBefore 27 = .ok (.istore 4, 2) := by decide +kernel
theorem dX2_isBefore_29 : decode cX2_isBefore 29 = .ok (.iload 4, 2) := by decide +kernel
theorem dX2_isBefore_31 : decode cX2_isBefore 31 = .ok (.ifCond .lt 45, 3) := by decide +kernel
theorem dX2_isBefore_34 : decode cX2_isBefore 34 = .ok (.aload_n 0, 1) := by decide +kernel
theorem dX2_isBefore_35 : decode cX2_isBefore 35 = .ok (.iload 4, 2) := by decide +kernel
theorem dX2_isBefore_37 : decode cX2_isBefore 37 = .ok (.invokevirtual 15, 3) := by decide +kernel
theorem dX2_isBefore_40 : decode cX2_isBefore 40 = .ok (.aload_n 1, 1) := by decide +kernel
theorem dX2_isBefore_41 : decode cX2_isBefore 41 = .ok (.iload 4, 2) := by decide +kernel
theorem dX2_isBefore_43 : decode cX2_isBefore 43 = .ok (.invokevirtual 15, 3) := by decide +kernel
theorem dX2_isBefore_46 : decode cX2_isBefore 46 = .ok (.if_icmp .eq 24, 3) := by decide +kernel
theorem dX2_isBefore_49 : decode cX2_isBefore 49 = .ok (.aload_n 0, 1) := by decide +kernel
theorem dX2_isBefore_50 : decode cX2_isBefore 50 = .ok (.iload 4, 2) := by decide +kernel
theorem dX2_isBefore_52 : decode cX2_isBefore 52 = .ok (.invokevirtual 15, 3) := by decide +kernel
theorem dX2_isBefore_55 : decode cX2_isBefore 55 = .ok (.aload_n 1, 1) := by decide +kernel
theorem dX2_isBefore_56 : decode cX2_isBefore 56 = .ok (.iload 4, 2) := by decide +kernel
theorem dX2_isBefore_58 : decode cX2_isBefore 58 = .ok (.invokevirtual 15, 3) := by decide +kernel
theorem dX2_isBefore_61 : decode cX2_isBefore 61 = .ok (.if_icmp .ge 7, 3) := by decide +kernel
theorem dX2_isBefore_64 : decode cX2_isBefore 64 = .ok (.iconst 1, 1) := by decide +kernel
theorem dX2_isBefore_65 : decode cX2_isBefore 65 = .ok (.goto 4, 3) := by decide +kernel
theorem dX2_isBefore_68 : decode cX2_isBefore 68 = .ok (.iconst 0, 1) := by decide +kernel
theorem dX2_isBefore_69 : decode cX2_isBefore 69 = .ok (.ireturn, 1) := by decide +kernel
theorem dX2_isBefore_70 : decode cX2_isBefore 70 = .ok (.iinc 4 (-1), 3) := by decide +kernel
theorem dX2_isBefore_73 : decode cX2_isBefore 73 = .ok (.goto (-44), 3) := by decide +kernel
theorem dX2_isBefore_76 : decode cX2_isBefore 76 = .ok (.iconst 0, 1) := by decide +kernel
theorem dX2_isBefore_77 : decode cX2_isBefore 77 = .ok (.ireturn, 1) := by decide +kernel
end
section
theorem dX0_init_0 : decode cX0_init 0 = .ok (.aload_n 0, 1) := by decide +kernel
theorem dX0_init_1 : decode cX0_init 1 = .ok (.invokespecial 3, 3) := by decide +kernel
theorem dX0_init_4 : decode cX0_init 4 = .ok (.aload_n 0, 1) := by decide +kernel
theorem dX0_init_5 : decode cX0_init 5 = .ok (.iconst 1, 1) := by decide +kernel
theorem dX0_init_6 : decode cX0_init 6 = .ok (.putfield 9, 3) := by decide +kernel
theorem dX0_init_9 : decode cX0_init 9 = .ok (.aload_n 0, 1) := by decide +kernel
theorem dX0_init_10 : decode cX0_init 10 = .ok (.bipush 101, 2) := by decide +kernel
theorem dX0_init_12 : decode cX0_init 12 = .ok (.putfield 15, 3) := by decide +kernel
theorem dX0_init_15 : decode cX0_init 15 = .ok (.aload_n 0, 1) := by decide +kernel
theorem dX0_init_16 : decode cX0_init 16 = .ok (.iconst 0, 1) := by decide +kernel
theorem dX0_init_17 : decode cX0_init 17 = .ok (.putfield 18, 3) := by decide +kernel
theorem dX0_init_20 : decode cX0_init 20 = .ok (.aload_n 0, 1) := by decide +kernel
theorem dX0_init_21 : decode cX0_init 21 = .ok (.iconst 0, 1) := by decide +kernel
theorem dX0_init_22 : decode cX0_init 22 = .ok (.putfield 21, 3) := by decide +kernel
theorem dX0_init_25 : decode cX0_init 25 = .ok (.aload_n 0, 1) := by decide +kernel
theorem dX0_init_26 : decode cX0_init 26 = .ok (.iconst 0, 1) := by decide +kernel
theorem dX0_init_27 : decode cX0_init 27 = .ok (.putfield 24, 3) := by decide +kernel
theorem dX0_init_30 : decode cX0_init 30 = .ok (.aload_n 0, 1) := by decide +kernel
theorem dX0_init_31 : decode cX0_init 31 = .ok (.iconst 0, 1) := by decide +kernel
theorem dX0_init_32 : decode cX0_init 32 = .ok (.putfield 27, 3) := by decide +kernel
theorem dX0_init_35 : decode cX0_init 35 = .ok (.aload_n 0, 1) := by decide +kernel
theorem dX0_init_36 : decode cX0_init 36 = .ok (.iconst 0, 1) := by decide +kernel
theorem dX0_init_37 : decode cX0_init 37 = .ok (.putfield 30, 3) := by decide +kernel
theorem dX0_init_40 : decode cX0_init 40 = .ok (.aload_n 0, 1) := by decide +kernel
theorem dX0_init_41 : decode cX0_init 41 = .ok (.iconst 0, 1) := by decide +kernel
theorem dX0_init_42 : decode cX0_init 42 = .ok (.putfield 33, 3) := by decide +kernel
theorem dX0_init_45 : decode cX0_init 45 = .ok (.return_, 1) := by decide +kernel
set_option maxRecDepth 20000 in
theorem ggX0_become_X0_hasRoot : GoodIn wsX0_become wsX0_hasRoot := goodIn_r _ [13] (by decide +kernel) (by decide +kernel)
set_option maxRecDepth 20000 in
theorem gX0_become_X0_hasRoot : GoodIn wsX0_become (va_wsS RX0 36 yX0_hasRoot wsX0_hasRoot) := goodIn_app (goodIn_of _ (by decide +kernel)) ggX0_become_X0_hasRoot
set_option maxRecDepth 20000 in
theorem ggX0_become_X0_power : GoodIn wsX0_become wsX0_power := goodIn_r _ [17, 18, 19, 20, 12, 21, 1, 5, 4, 6, 22, 23, 24, 25, 26, 27, 28, 29] (by decide +kernel) (by decide +kernel)
set_option maxRecDepth 20000 in
theorem gX0_become_X0_power : GoodIn wsX0_become (wsV RX0 41 RX0 yX0_power wsX0_power) := goodIn_app (goodIn_of _ (by decide +kernel)) ggX0_become_X0_power
set_option maxRecDepth 20000 in
theorem ggX0_become_X0_times : GoodIn wsX0_become wsX0_times := goodIn_r _ [21, 1, 5, 4, 6, 22, 23, 24, 25, 26, 27, 28, 29] (by decide +kernel) (by decide +kernel)
set_option maxRecDepth 20000 in
theorem gX0_become_X0_times : GoodIn wsX0_become (wsV RX0 45 RX0 yX0_times wsX0_times) := goodIn_app (goodIn_of _ (by decide +kernel)) ggX0_become_X0_times
theorem dX0_become_0 : decode cX0_become 0 = .ok (.iload_n 1, 1) := by decide +kernel
theorem dX0_become_1 : decode cX0_become 1 = .ok (.iconst 1, 1) := by decide +kernel
theorem dX0_become_2 : decode cX0_become 2 = .ok (.if_icmp .le 7, 3) := by decide +kernel
theorem dX0_become_5 : decode cX0_become 5 = .ok (.iload_n 3, 1) := by decide +kernel
theorem dX0_become_6 : decode cX0_become 6 = .ok (.goto 4, 3) := by decide +kernel
theorem dX0_become_9 : decode cX0_become 9 = .ok (.iconst 0, 1) := by decide +kernel
theorem dX0_become_10 : decode cX0_become 10 = .ok (.istore 5, 2) := by decide +kernel
theorem dX0_become_12 : decode cX0_become 12 = .ok (.iload_n 1, 1) := by decide +kernel
theorem dX0_become_13 : decode cX0_become 13 = .ok (.iconst 2, 1) := by decide +kernel
theorem dX0_become_14 : decode cX0_become 14 = .ok (.if_icmp .le 8, 3) := by decide +kernel
theorem dX0_become_17 : decode cX0_become 17 = .ok (.iload 4, 2) := by decide +kernel
theorem dX0_become_19 : decode cX0_become 19 = .ok (.goto 4, 3) := by decide +kernel
theorem dX0_become_22 : decode cX0_become 22 = .ok (.iconst 0, 1) := by decide +kernel
theorem dX0_become_23 : decode cX0_become 23 = .ok (.istore 6, 2) := by decide +kernel
theorem dX0_become_25 : decode cX0_become 25 = .ok (.iload_n 1, 1) := by decide +kernel
theorem dX0_become_26 : decode cX0_become 26 = .ok (.iconst 1, 1) := by decide +kernel
theorem dX0_become_27 : decode cX0_become 27 = .ok (.if_icmp .le 17, 3) := by decide +kernel
theorem dX0_become_30 : decode cX0_become 30 = .ok (.iload_n 1, 1) := by decide +kernel
theorem dX0_become_31 : decode cX0_become 31 = .ok (.iload_n 2, 1) := by decide +kernel
theorem dX0_become_32 : decode cX0_become 32 = .ok (.iload 5, 2) := by decide +kernel
theorem dX0_become_34 : decode cX0_become 34 = .ok (.iload 6, 2) := by decide +kernel
theorem dX0_become_36 : decode cX0_become 36 = .ok (.invokestatic 36, 3) := by decide +kernel
theorem dX0_become_39 : decode cX0_become 39 = .ok (.ifCond .eq 5, 3) := by decide +kernel
theorem dX0_become_42 : decode cX0_become 42 = .ok (.iconst 0, 1) := by decide +kernel
theorem dX0_become_43 : decode cX0_become 43 = .ok (.ireturn, 1) := by decide +kernel
theorem dX0_become_44 : decode cX0_become 44 = .ok (.aload_n 0, 1) := by decide +kernel
theorem dX0_become_45 : decode cX0_become 45 = .ok (.iload_n 1, 1) := by decide +kernel
theorem dX0_become_46 : decode cX0_become 46 = .ok (.putfield 9, 3) := by decide +kernel
theorem dX0_become_49 : decode cX0_become 49 = .ok (.aload_n 0, 1) := by decide +kernel
theorem dX0_become_50 : decode cX0_become 50 = .ok (.iload_n 1, 1) := by decide +kernel
theorem dX0_become_51 : decode cX0_become 51 = .ok (.iconst 1, 1) := by decide +kernel
theorem dX0_become_52 : decode cX0_become 52 = .ok (.if_icmp .ne 8, 3) := by decide +kernel
theorem dX0_become_55 : decode cX0_become 55 = .ok (.bipush 101, 2) := by decide +kernel
theorem dX0_become_57 : decode cX0_become 57 = .ok (.goto 16, 3) := by decide +kernel
theorem dX0_become_60 : decode cX0_become 60 = .ok (.iload_n 1, 1) := by decide +kernel
theorem dX0_become_61 : decode cX0_become 61 = .ok (.iconst 2, 1) := by decide +kernel
theorem dX0_become_62 : decode cX0_become 62 = .ok (.if_icmp .ne 9, 3) := by decide +kernel
theorem dX0_become_65 : decode cX0_become 65 = .ok (.sipush 10201, 3) := by decide +kernel
theorem dX0_become_68 : decode cX0_become 68 = .ok (.goto 5, 3) := by decide +kernel
theorem dX0_become_71 : decode cX0_become 71 = .ok (.ldc 40, 2) := by decide +kernel
theorem dX0_become_73 : decode cX0_become 73 = .ok (.putfield 15, 3) := by decide +kernel
theorem dX0_become_76 : decode cX0_become 76 = .ok (.aload_n 0, 1) := by decide +kernel
theorem dX0_become_77 : decode cX0_become 77 = .ok (.iload_n 2, 1) := by decide +kernel
theorem dX0_become_78 : decode cX0_become 78 = .ok (.putfield 18, 3) := by decide +kernel
theorem dX0_become_81 : decode cX0_become 81 = .ok (.aload_n 0, 1) := by decide +kernel
theorem dX0_become_82 : decode cX0_become 82 = .ok (.iload 5, 2) := by decide +kernel
theorem dX0_become_84 : decode cX0_become 84 = .ok (.putfield 21, 3) := by decide +kernel
theorem dX0_become_87 : decode cX0_become 87 = .ok (.aload_n 0, 1) := by decide +kernel
theorem dX0_become_88 : decode cX0_become 88 = .ok (.iload 6, 2) := by decide +kernel
theorem dX0_become_90 : decode cX0_become 90 = .ok (.putfield 24, 3) := by decide +kernel
theorem dX0_become_93 : decode cX0_become 93 = .ok (.aload_n 0, 1) := by decide +kernel
theorem dX0_become_94 : decode cX0_become 94 = .ok (.iload_n 1, 1) := by decide +kernel
theorem dX0_become_95 : decode cX0_become 95 = .ok (.iconst 1, 1) := by decide +kernel
theorem dX0_become_96 : decode cX0_become 96 = .ok (.if_icmp .ne 13, 3) := by decide +kernel
theorem dX0_become_99 : decode cX0_become 99 = .ok (.bipush 101, 2) := by decide +kernel
theorem dX0_become_101 : decode cX0_become 101 = .ok (.iload_n 2, 1) := by decide +kernel
theorem dX0_become_102 : decode cX0_become 102 = .ok (.isub, 1) := by decide +kernel
theorem dX0_become_103 : decode cX0_become 103 = .ok (.bipush 101, 2) := by decide +kernel
theorem dX0_become_105 : decode cX0_become 105 = .ok (.irem, 1) := by decide +kernel
theorem dX0_become_106 : decode cX0_become 106 = .ok (.goto 5, 3) := by decide +kernel
theorem dX0_become_109 : decode cX0_become 109 = .ok (.bipush 101, 2) := by decide +kernel
theorem dX0_become_111 : decode cX0_become 111 = .ok (.putfield 27, 3) := by decide +kernel
theorem dX0_become_114 : decode cX0_become 114 = .ok (.aload_n 0, 1) := by decide +kernel
theorem dX0_become_115 : decode cX0_become 115 = .ok (.aload_n 0, 1) := by decide +kernel
theorem dX0_become_116 : decode cX0_become 116 = .ok (.aload_n 0, 1) := by decide +kernel
theorem dX0_become_117 : decode cX0_become 117 = .ok (.getfield 27, 3) := by decide +kernel
theorem dX0_become_120 : decode cX0_become 120 = .ok (.bipush 101, 2) := by decide +kernel
theorem dX0_become_122 : decode cX0_become 122 = .ok (.invokevirtual 41, 3) := by decide +kernel
theorem dX0_become_125 : decode cX0_become 125 = .ok (.putfield 30, 3) := by decide +kernel
theorem dX0_become_128 : decode cX0_become 128 = .ok (.aload_n 0, 1) := by decide +kernel
theorem dX0_become_129 : decode cX0_become 129 = .ok (.aload_n 0, 1) := by decide +kernel
theorem dX0_become_130 : decode cX0_become 130 = .ok (.aload_n 0, 1) := by decide +kernel
theorem dX0_become_131 : decode cX0_become 131 = .ok (.getfield 30, 3) := by decide +kernel
theorem dX0_become_134 : decode cX0_become 134 = .ok (.aload_n 0, 1) := by decide +kernel
theorem dX0_become_135 : decode cX0_become 135 = .ok (.getfield 30, 3) := by decide +kernel
theorem dX0_become_138 : decode cX0_become 138 = .ok (.invokevirtual 45, 3) := by decide +kernel
theorem dX0_become_141 : decode cX0_become 141 = .ok (.putfield 33, 3) := by decide +kernel
theorem dX0_become_144 : decode cX0_become 144 = .ok (.iconst 1, 1) := by decide +kernel
theorem dX0_become_145 : decode cX0_become 145 = .ok (.ireturn, 1) := by decide +kernel
theorem dX0_hasRoot_0 : decode cX0_hasRoot 0 = .ok (.iconst 0, 1) := by decide +kernel
theorem dX0_hasRoot_1 : decode cX0_hasRoot 1 = .ok (.istore 4, 2) := by decide +kernel
theorem dX0_hasRoot_3 : decode cX0_hasRoot 3 = .ok (.iload 4, 2) := by decide +kernel
theorem dX0_hasRoot_5 : decode cX0_hasRoot 5 = .ok (.bipush 101, 2) := by decide +kernel
theorem dX0_hasRoot_7 : decode cX0_hasRoot 7 = .ok (.if_icmp .ge 50, 3) := by decide +kernel
theorem dX0_hasRoot_10 : decode cX0_hasRoot 10 = .ok (.iload_n 0, 1) := by decide +kernel
theorem dX0_hasRoot_11 : decode cX0_hasRoot 11 = .ok (.iconst 2, 1) := by decide +kernel
theorem dX0_hasRoot_12 : decode cX0_hasRoot 12 = .ok (.if_icmp .ne 7, 3) := by decide +kernel
theorem dX0_hasRoot_15 : decode cX0_hasRoot 15 = .ok (.iconst 1, 1) := by decide +kernel
theorem dX0_hasRoot_16 : decode cX0_hasRoot 16 = .ok (.goto 10, 3) := by decide +kernel
theorem dX0_hasRoot_19 : decode cX0_hasRoot 19 = .ok (.iload 4, 2) := by decide +kernel
theorem dX0_hasRoot_21 : decode cX0_hasRoot 21 = .ok (.iload_n 3, 1) := by decide +kernel
theorem dX0_hasRoot_22 : decode cX0_hasRoot 22 = .ok (.iadd, 1) := by decide +kernel
theorem dX0_hasRoot_23 : decode cX0_hasRoot 23 = .ok (.bipush 101, 2) := by decide +kernel
theorem dX0_hasRoot_25 : decode cX0_hasRoot 25 = .ok (.irem, 1) := by decide +kernel
theorem dX0_hasRoot_26 : decode cX0_hasRoot 26 = .ok (.istore 5, 2) := by decide +kernel
theorem dX0_hasRoot_28 : decode cX0_hasRoot 28 = .ok (.iload 5, 2) := by decide +kernel
theorem dX0_hasRoot_30 : decode cX0_hasRoot 30 = .ok (.iload 4, 2) := by decide +kernel
theorem dX0_hasRoot_32 : decode cX0_hasRoot 32 = .ok (.imul, 1) := by decide +kernel
theorem dX0_hasRoot_33 : decode cX0_hasRoot 33 = .ok (.iload_n 2, 1) := by decide +kernel
theorem dX0_hasRoot_34 : decode cX0_hasRoot 34 = .ok (.iadd, 1) := by decide +kernel
theorem dX0_hasRoot_35 : decode cX0_hasRoot 35 = .ok (.bipush 101, 2) := by decide +kernel
theorem dX0_hasRoot_37 : decode cX0_hasRoot 37 = .ok (.irem, 1) := by decide +kernel
theorem dX0_hasRoot_38 : decode cX0_hasRoot 38 = .ok (.iload 4, 2) := by decide +kernel
theorem dX0_hasRoot_40 : decode cX0_hasRoot 40 = .ok (.imul, 1) := by decide +kernel
theorem dX0_hasRoot_41 : decode cX0_hasRoot 41 = .ok (.iload_n 1, 1) := by decide +kernel
theorem dX0_hasRoot_42 : decode cX0_hasRoot 42 = .ok (.iadd, 1) := by decide +kernel
theorem dX0_hasRoot_43 : decode cX0_hasRoot 43 = .ok (.bipush 101, 2) := by decide +kernel
theorem dX0_hasRoot_45 : decode cX0_hasRoot 45 = .ok (.irem, 1) := by decide +kernel
theorem dX0_hasRoot_46 : decode cX0_hasRoot 46 = .ok (.ifCond .ne 5, 3) := by decide +kernel
theorem dX0_hasRoot_49 : decode cX0_hasRoot 49 = .ok (.iconst 1, 1) := by decide +kernel
theorem dX0_hasRoot_50 : decode cX0_hasRoot 50 = .ok (.ireturn, 1) := by decide +kernel
theorem dX0_hasRoot_51 : decode cX0_hasRoot 51 = .ok (.iinc 4 1, 3) := by decide +kernel
theorem dX0_hasRoot_54 : decode cX0_hasRoot 54 = .ok (.goto (-51), 3) := by decide +kernel
theorem dX0_hasRoot_57 : decode cX0_hasRoot 57 = .ok (.iconst 0, 1) := by decide +kernel
theorem dX0_hasRoot_58 : decode cX0_hasRoot 58 = .ok (.ireturn, 1) := by decide +kernel
theorem dX0_modulusAt_0 : decode cX0_modulusAt 0 = .ok (.iload_n 1, 1) := by decide +kernel
theorem dX0_modulusAt_1 : decode cX0_modulusAt 1 = .ok (.aload_n 0, 1) := by decide +kernel
theorem dX0_modulusAt_2 : decode cX0_modulusAt 2 = .ok (.getfield 9, 3) := by decide +kernel
theorem dX0_modulusAt_5 : decode cX0_modulusAt 5 = .ok (.if_icmp .ne 5, 3) := by decide +kernel
theorem dX0_modulusAt_8 : decode cX0_modulusAt 8 = .ok (.iconst 1, 1) := by decide +kernel
theorem dX0_modulusAt_9 : decode cX0_modulusAt 9 = .ok (.ireturn, 1) := by decide +kernel
theorem dX0_modulusAt_10 : decode cX0_modulusAt 10 = .ok (.iload_n 1, 1) := by decide +kernel
theorem dX0_modulusAt_11 : decode cX0_modulusAt 11 = .ok (.tableswitch 40 0 2 #[25, 30, 35], 25) := by decide +kernel
theorem dX0_modulusAt_36 : decode cX0_modulusAt 36 = .ok (.aload_n 0, 1) := by decide +kernel
theorem dX0_modulusAt_37 : decode cX0_modulusAt 37 = .ok (.getfield 18, 3) := by decide +kernel
theorem dX0_modulusAt_40 : decode cX0_modulusAt 40 = .ok (.ireturn, 1) := by decide +kernel
theorem dX0_modulusAt_41 : decode cX0_modulusAt 41 = .ok (.aload_n 0, 1) := by decide +kernel
theorem dX0_modulusAt_42 : decode cX0_modulusAt 42 = .ok (.getfield 21, 3) := by decide +kernel
theorem dX0_modulusAt_45 : decode cX0_modulusAt 45 = .ok (.ireturn, 1) := by decide +kernel
theorem dX0_modulusAt_46 : decode cX0_modulusAt 46 = .ok (.aload_n 0, 1) := by decide +kernel
theorem dX0_modulusAt_47 : decode cX0_modulusAt 47 = .ok (.getfield 24, 3) := by decide +kernel
theorem dX0_modulusAt_50 : decode cX0_modulusAt 50 = .ok (.ireturn, 1) := by decide +kernel
theorem dX0_modulusAt_51 : decode cX0_modulusAt 51 = .ok (.iconst 0, 1) := by decide +kernel
theorem dX0_modulusAt_52 : decode cX0_modulusAt 52 = .ok (.ireturn, 1) := by decide +kernel
theorem dX0_plus_0 : decode cX0_plus 0 = .ok (.iload_n 1, 1) := by decide +kernel
theorem dX0_plus_1 : decode cX0_plus 1 = .ok (.bipush 101, 2) := by decide +kernel
theorem dX0_plus_3 : decode cX0_plus 3 = .ok (.irem, 1) := by decide +kernel
theorem dX0_plus_4 : decode cX0_plus 4 = .ok (.iload_n 2, 1) := by decide +kernel
theorem dX0_plus_5 : decode cX0_plus 5 = .ok (.bipush 101, 2) := by decide +kernel
theorem dX0_plus_7 : decode cX0_plus 7 = .ok (.irem, 1) := by decide +kernel
theorem dX0_plus_8 : decode cX0_plus 8 = .ok (.iadd, 1) := by decide +kernel
theorem dX0_plus_9 : decode cX0_plus 9 = .ok (.bipush 101, 2) := by decide +kernel
theorem dX0_plus_11 : decode cX0_plus 11 = .ok (.irem, 1) := by decide +kernel
theorem dX0_plus_12 : decode cX0_plus 12 = .ok (.istore_n 3, 1) := by decide +kernel
theorem dX0_plus_13 : decode cX0_plus 13 = .ok (.iload_n 1, 1) := by decide +kernel
theorem dX0_plus_14 : decode cX0_plus 14 = .ok (.bipush 101, 2) := by decide +kernel
theorem dX0_plus_16 : decode cX0_plus 16 = .ok (.idiv, 1) := by decide +kernel
theorem dX0_plus_17 : decode cX0_plus 17 = .ok (.bipush 101, 2) := by decide +kernel
theorem dX0_plus_19 : decode cX0_plus 19 = .ok (.irem, 1) := by decide +kernel
theorem dX0_plus_20 : decode cX0_plus 20 = .ok (.iload_n 2, 1) := by decide +kernel
theorem dX0_plus_21 : decode cX0_plus 21 = .ok (.bipush 101, 2) := by decide +kernel
theorem dX0_plus_23 : decode cX0_plus 23 = .ok (.idiv, 1) := by decide +kernel
theorem dX0_plus_24 : decode cX0_plus 24 = .ok (.bipush 101, 2) := by decide +kernel
theorem dX0_plus_26 : decode cX0_plus 26 = .ok (.irem, 1) := by decide +kernel
theorem dX0_plus_27 : decode cX0_plus 27 = .ok (.iadd, 1) := by decide +kernel
theorem dX0_plus_28 : decode cX0_plus 28 = .ok (.bipush 101, 2) := by decide +kernel
theorem dX0_plus_30 : decode cX0_plus 30 = .ok (.irem, 1) := by decide +kernel
theorem dX0_plus_31 : decode cX0_plus 31 = .ok (.istore 4, 2) := by decide +kernel
theorem dX0_plus_33 : decode cX0_plus 33 = .ok (.iload_n 1, 1) := by decide +kernel
theorem dX0_plus_34 : decode cX0_plus 34 = .ok (.sipush 10201, 3) := by decide +kernel
theorem dX0_plus_37 : decode cX0_plus 37 = .ok (.idiv, 1) := by decide +kernel
theorem dX0_plus_38 : decode cX0_plus 38 = .ok (.iload_n 2, 1) := by decide +kernel
theorem dX0_plus_39 : decode cX0_plus 39 = .ok (.sipush 10201, 3) := by decide +kernel
theorem dX0_plus_42 : decode cX0_plus 42 = .ok (.idiv, 1) := by decide +kernel
theorem dX0_plus_43 : decode cX0_plus 43 = .ok (.iadd, 1) := by decide +kernel
theorem dX0_plus_44 : decode cX0_plus 44 = .ok (.bipush 101, 2) := by decide +kernel
theorem dX0_plus_46 : decode cX0_plus 46 = .ok (.irem, 1) := by decide +kernel
theorem dX0_plus_47 : decode cX0_plus 47 = .ok (.istore 5, 2) := by decide +kernel
theorem dX0_plus_49 : decode cX0_plus 49 = .ok (.iload_n 3, 1) := by decide +kernel
theorem dX0_plus_50 : decode cX0_plus 50 = .ok (.bipush 101, 2) := by decide +kernel
theorem dX0_plus_52 : decode cX0_plus 52 = .ok (.iload 4, 2) := by decide +kernel
theorem dX0_plus_54 : decode cX0_plus 54 = .ok (.imul, 1) := by decide +kernel
theorem dX0_plus_55 : decode cX0_plus 55 = .ok (.iadd, 1) := by decide +kernel
theorem dX0_plus_56 : decode cX0_plus 56 = .ok (.sipush 10201, 3) := by decide +kernel
theorem dX0_plus_59 : decode cX0_plus 59 = .ok (.iload 5, 2) := by decide +kernel
theorem dX0_plus_61 : decode cX0_plus 61 = .ok (.imul, 1) := by decide +kernel
theorem dX0_plus_62 : decode cX0_plus 62 = .ok (.iadd, 1) := by decide +kernel
theorem dX0_plus_63 : decode cX0_plus 63 = .ok (.ireturn, 1) := by decide +kernel
theorem dX0_minus_0 : decode cX0_minus 0 = .ok (.iload_n 1, 1) := by decide +kernel
theorem dX0_minus_1 : decode cX0_minus 1 = .ok (.bipush 101, 2) := by decide +kernel
theorem dX0_minus_3 : decode cX0_minus 3 = .ok (.irem, 1) := by decide +kernel
theorem dX0_minus_4 : decode cX0_minus 4 = .ok (.iload_n 2, 1) := by decide +kernel
theorem dX0_minus_5 : decode cX0_minus 5 = .ok (.bipush 101, 2) := by decide +kernel
theorem dX0_minus_7 : decode cX0_minus 7 = .ok (.irem, 1) := by decide +kernel
theorem dX0_minus_8 : decode cX0_minus 8 = .ok (.isub, 1) := by decide +kernel
theorem dX0_minus_9 : decode cX0_minus 9 = .ok (.bipush 101, 2) := by decide +kernel
theorem dX0_minus_11 : decode cX0_minus 11 = .ok (.iadd, 1) := by decide +kernel
theorem dX0_minus_12 : decode cX0_minus 12 = .ok (.bipush 101, 2) := by decide +kernel
theorem dX0_minus_14 : decode cX0_minus 14 = .ok (.irem, 1) := by decide +kernel
theorem dX0_minus_15 : decode cX0_minus 15 = .ok (.istore_n 3, 1) := by decide +kernel
theorem dX0_minus_16 : decode cX0_minus 16 = .ok (.iload_n 1, 1) := by decide +kernel
theorem dX0_minus_17 : decode cX0_minus 17 = .ok (.bipush 101, 2) := by decide +kernel
theorem dX0_minus_19 : decode cX0_minus 19 = .ok (.idiv, 1) := by decide +kernel
theorem dX0_minus_20 : decode cX0_minus 20 = .ok (.bipush 101, 2) := by decide +kernel
theorem dX0_minus_22 : decode cX0_minus 22 = .ok (.irem, 1) := by decide +kernel
theorem dX0_minus_23 : decode cX0_minus 23 = .ok (.iload_n 2, 1) := by decide +kernel
theorem dX0_minus_24 : decode cX0_minus 24 = .ok (.bipush 101, 2) := by decide +kernel
theorem dX0_minus_26 : decode cX0_minus 26 = .ok (.idiv, 1) := by decide +kernel
theorem dX0_minus_27 : decode cX0_minus 27 = .ok (.bipush 101, 2) := by decide +kernel
theorem dX0_minus_29 : decode cX0_minus 29 = .ok (.irem, 1) := by decide +kernel
theorem dX0_minus_30 : decode cX0_minus 30 = .ok (.isub, 1) := by decide +kernel
theorem dX0_minus_31 : decode cX0_minus 31 = .ok (.bipush 101, 2) := by decide +kernel
theorem dX0_minus_33 : decode cX0_minus 33 = .ok (.iadd, 1) := by decide +kernel
theorem dX0_minus_34 : decode cX0_minus 34 = .ok (.bipush 101, 2) := by decide +kernel
theorem dX0_minus_36 : decode cX0_minus 36 = .ok (.irem, 1) := by decide +kernel
theorem dX0_minus_37 : decode cX0_minus 37 = .ok (.istore 4, 2) := by decide +kernel
theorem dX0_minus_39 : decode cX0_minus 39 = .ok (.iload_n 1, 1) := by decide +kernel
theorem dX0_minus_40 : decode cX0_minus 40 = .ok (.sipush 10201, 3) := by decide +kernel
theorem dX0_minus_43 : decode cX0_minus 43 = .ok (.idiv, 1) := by decide +kernel
theorem dX0_minus_44 : decode cX0_minus 44 = .ok (.iload_n 2, 1) := by decide +kernel
theorem dX0_minus_45 : decode cX0_minus 45 = .ok (.sipush 10201, 3) := by decide +kernel
theorem dX0_minus_48 : decode cX0_minus 48 = .ok (.idiv, 1) := by decide +kernel
theorem dX0_minus_49 : decode cX0_minus 49 = .ok (.isub, 1) := by decide +kernel
theorem dX0_minus_50 : decode cX0_minus 50 = .ok (.bipush 101, 2) := by decide +kernel
theorem dX0_minus_52 : decode cX0_minus 52 = .ok (.iadd, 1) := by decide +kernel
theorem dX0_minus_53 : decode cX0_minus 53 = .ok (.bipush 101, 2) := by decide +kernel
theorem dX0_minus_55 : decode cX0_minus 55 = .ok (.irem, 1) := by decide +kernel
theorem dX0_minus_56 : decode cX0_minus 56 = .ok (.istore 5, 2) := by decide +kernel
theorem dX0_minus_58 : decode cX0_minus 58 = .ok (.iload_n 3, 1) := by decide +kernel
theorem dX0_minus_59 : decode cX0_minus 59 = .ok (.bipush 101, 2) := by decide +kernel
theorem dX0_minus_61 : decode cX0_minus 61 = .ok (.iload 4, 2) := by decide +kernel
theorem dX0_minus_63 : decode cX0_minus 63 = .ok (.imul, 1) := by decide +kernel
theorem dX0_minus_64 : decode cX0_minus 64 = .ok (.iadd, 1) := by decide +kernel
theorem dX0_minus_65 : decode cX0_minus 65 = .ok (.sipush 10201, 3) := by decide +kernel
theorem dX0_minus_68 : decode cX0_minus 68 = .ok (.iload 5, 2) := by decide +kernel
theorem dX0_minus_70 : decode cX0_minus 70 = .ok (.imul, 1) := by decide +kernel
theorem dX0_minus_71 : decode cX0_minus 71 = .ok (.iadd, 1) := by decide +kernel
theorem dX0_minus_72 : decode cX0_minus 72 = .ok (.ireturn, 1) := by decide +kernel
theorem dX0_times_0 : decode cX0_times 0 = .ok (.iload_n 1, 1) := by decide +kernel
theorem dX0_times_1 : decode cX0_times 1 = .ok (.bipush 101, 2) := by decide +kernel
theorem dX0_times_3 : decode cX0_times 3 = .ok (.if_icmp .ge 16, 3) := by decide +kernel
theorem dX0_times_6 : decode cX0_times 6 = .ok (.iload_n 2, 1) := by decide +kernel
theorem dX0_times_7 : decode cX0_times 7 = .ok (.bipush 101, 2) := by decide +kernel
theorem dX0_times_9 : decode cX0_times 9 = .ok (.if_icmp .ge 10, 3) := by decide +kernel
theorem dX0_times_12 : decode cX0_times 12 = .ok (.iload_n 1, 1) := by decide +kernel
theorem dX0_times_13 : decode cX0_times 13 = .ok (.iload_n 2, 1) := by decide +kernel
theorem dX0_times_14 : decode cX0_times 14 = .ok (.imul, 1) := by decide +kernel
theorem dX0_times_15 : decode cX0_times 15 = .ok (.bipush 101, 2) := by decide +kernel
theorem dX0_times_17 : decode cX0_times 17 = .ok (.irem, 1) := by decide +kernel
theorem dX0_times_18 : decode cX0_times 18 = .ok (.ireturn, 1) := by decide +kernel
theorem dX0_times_19 : decode cX0_times 19 = .ok (.iload_n 1, 1) := by decide +kernel
theorem dX0_times_20 : decode cX0_times 20 = .ok (.bipush 101, 2) := by decide +kernel
theorem dX0_times_22 : decode cX0_times 22 = .ok (.irem, 1) := by decide +kernel
theorem dX0_times_23 : decode cX0_times 23 = .ok (.istore_n 3, 1) := by decide +kernel
theorem dX0_times_24 : decode cX0_times 24 = .ok (.iload_n 1, 1) := by decide +kernel
theorem dX0_times_25 : decode cX0_times 25 = .ok (.bipush 101, 2) := by decide +kernel
theorem dX0_times_27 : decode cX0_times 27 = .ok (.idiv, 1) := by decide +kernel
theorem dX0_times_28 : decode cX0_times 28 = .ok (.bipush 101, 2) := by decide +kernel
theorem dX0_times_30 : decode cX0_times 30 = .ok (.irem, 1) := by decide +kernel
theorem dX0_times_31 : decode cX0_times 31 = .ok (.istore 4, 2) := by decide +kernel
theorem dX0_times_33 : decode cX0_times 33 = .ok (.iload_n 1, 1) := by decide +kernel
theorem dX0_times_34 : decode cX0_times 34 = .ok (.sipush 10201, 3) := by decide +kernel
theorem dX0_times_37 : decode cX0_times 37 = .ok (.idiv, 1) := by decide +kernel
theorem dX0_times_38 : decode cX0_times 38 = .ok (.istore 5, 2) := by decide +kernel
theorem dX0_times_40 : decode cX0_times 40 = .ok (.iload_n 2, 1) := by decide +kernel
theorem dX0_times_41 : decode cX0_times 41 = .ok (.bipush 101, 2) := by decide +kernel
theorem dX0_times_43 : decode cX0_times 43 = .ok (.irem, 1) := by decide +kernel
theorem dX0_times_44 : decode cX0_times 44 = .ok (.istore 6, 2) := by decide +kernel
theorem dX0_times_46 : decode cX0_times 46 = .ok (.iload_n 2, 1) := by decide +kernel
theorem dX0_times_47 : decode cX0_times 47 = .ok (.bipush 101, 2) := by decide +kernel
theorem dX0_times_49 : decode cX0_times 49 = .ok (.idiv, 1) := by decide +kernel
theorem dX0_times_50 : decode cX0_times 50 = .ok (.bipush 101, 2) := by decide +kernel
theorem dX0_times_52 : decode cX0_times 52 = .ok (.irem, 1) := by decide +kernel
theorem dX0_times_53 : decode cX0_times 53 = .ok (.istore 7, 2) := by decide +kernel
theorem dX0_times_55 : decode cX0_times 55 = .ok (.iload_n 2, 1) := by decide +kernel
theorem dX0_times_56 : decode cX0_times 56 = .ok (.sipush 10201, 3) := by decide +kernel
theorem dX0_times_59 : decode cX0_times 59 = .ok (.idiv, 1) := by decide +kernel
theorem dX0_times_60 : decode cX0_times 60 = .ok (.istore 8, 2) := by decide +kernel
theorem dX0_times_62 : decode cX0_times 62 = .ok (.iload_n 3, 1) := by decide +kernel
theorem dX0_times_63 : decode cX0_times 63 = .ok (.iload 6, 2) := by decide +kernel
theorem dX0_times_65 : decode cX0_times 65 = .ok (.imul, 1) := by decide +kernel
theorem dX0_times_66 : decode cX0_times 66 = .ok (.istore 9, 2) := by decide +kernel
theorem dX0_times_68 : decode cX0_times 68 = .ok (.iload_n 3, 1) := by decide +kernel
theorem dX0_times_69 : decode cX0_times 69 = .ok (.iload 7, 2) := by decide +kernel
theorem dX0_times_71 : decode cX0_times 71 = .ok (.imul, 1) := by decide +kernel
theorem dX0_times_72 : decode cX0_times 72 = .ok (.iload 4, 2) := by decide +kernel
theorem dX0_times_74 : decode cX0_times 74 = .ok (.iload 6, 2) := by decide +kernel
theorem dX0_times_76 : decode cX0_times 76 = .ok (.imul, 1) := by decide +kernel
theorem dX0_times_77 : decode cX0_times 77 = .ok (.iadd, 1) := by decide +kernel
theorem dX0_times_78 : decode cX0_times 78 = .ok (.istore 10, 2) := by decide +kernel
theorem dX0_times_80 : decode cX0_times 80 = .ok (.iload_n 3, 1) := by decide +kernel
theorem dX0_times_81 : decode cX0_times 81 = .ok (.iload 8, 2) := by decide +kernel
theorem dX0_times_83 : decode cX0_times 83 = .ok (.imul, 1) := by decide +kernel
theorem dX0_times_84 : decode cX0_times 84 = .ok (.iload 4, 2) := by decide +kernel
theorem dX0_times_86 : decode cX0_times 86 = .ok (.iload 7, 2) := by decide +kernel
theorem dX0_times_88 : decode cX0_times 88 = .ok (.imul, 1) := by decide +kernel
theorem dX0_times_89 : decode cX0_times 89 = .ok (.iadd, 1) := by decide +kernel
theorem dX0_times_90 : decode cX0_times 90 = .ok (.iload 5, 2) := by decide +kernel
theorem dX0_times_92 : decode cX0_times 92 = .ok (.iload 6, 2) := by decide +kernel
theorem dX0_times_94 : decode cX0_times 94 = .ok (.imul, 1) := by decide +kernel
theorem dX0_times_95 : decode cX0_times 95 = .ok (.iadd, 1) := by decide +kernel
theorem dX0_times_96 : decode cX0_times 96 = .ok (.istore 11, 2) := by decide +kernel
theorem dX0_times_98 : decode cX0_times 98 = .ok (.aload_n 0, 1) := by decide +kernel
theorem dX0_times_99 : decode cX0_times 99 = .ok (.getfield 9, 3) := by decide +kernel
theorem dX0_times_102 : decode cX0_times 102 = .ok (.iconst 2, 1) := by decide +kernel
theorem dX0_times_103 : decode cX0_times 103 = .ok (.if_icmp .ne 55, 3) := by decide +kernel
theorem dX0_times_106 : decode cX0_times 106 = .ok (.bipush 101, 2) := by decide +kernel
theorem dX0_times_108 : decode cX0_times 108 = .ok (.iload 11, 2) := by decide +kernel
theorem dX0_times_110 : decode cX0_times 110 = .ok (.bipush 101, 2) := by decide +kernel
theorem dX0_times_112 : decode cX0_times 112 = .ok (.irem, 1) := by decide +kernel
theorem dX0_times_113 : decode cX0_times 113 = .ok (.isub, 1) := by decide +kernel
theorem dX0_times_114 : decode cX0_times 114 = .ok (.bipush 101, 2) := by decide +kernel
theorem dX0_times_116 : decode cX0_times 116 = .ok (.irem, 1) := by decide +kernel
theorem dX0_times_117 : decode cX0_times 117 = .ok (.istore 12, 2) := by decide +kernel
theorem dX0_times_119 : decode cX0_times 119 = .ok (.iload 10, 2) := by decide +kernel
theorem dX0_times_121 : decode cX0_times 121 = .ok (.iload 12, 2) := by decide +kernel
theorem dX0_times_123 : decode cX0_times 123 = .ok (.aload_n 0, 1) := by decide +kernel
theorem dX0_times_124 : decode cX0_times 124 = .ok (.getfield 21, 3) := by decide +kernel
theorem dX0_times_127 : decode cX0_times 127 = .ok (.imul, 1) := by decide +kernel
theorem dX0_times_128 : decode cX0_times 128 = .ok (.iadd, 1) := by decide +kernel
theorem dX0_times_129 : decode cX0_times 129 = .ok (.istore 10, 2) := by decide +kernel
theorem dX0_times_131 : decode cX0_times 131 = .ok (.iload 9, 2) := by decide +kernel
theorem dX0_times_133 : decode cX0_times 133 = .ok (.iload 12, 2) := by decide +kernel
theorem dX0_times_135 : decode cX0_times 135 = .ok (.aload_n 0, 1) := by decide +kernel
theorem dX0_times_136 : decode cX0_times 136 = .ok (.getfield 18, 3) := by decide +kernel
theorem dX0_times_139 : decode cX0_times 139 = .ok (.imul, 1) := by decide +kernel
theorem dX0_times_140 : decode cX0_times 140 = .ok (.iadd, 1) := by decide +kernel
theorem dX0_times_141 : decode cX0_times 141 = .ok (.istore 9, 2) := by decide +kernel
theorem dX0_times_143 : decode cX0_times 143 = .ok (.iload 9, 2) := by decide +kernel
theorem dX0_times_145 : decode cX0_times 145 = .ok (.bipush 101, 2) := by decide +kernel
theorem dX0_times_147 : decode cX0_times 147 = .ok (.irem, 1) := by decide +kernel
theorem dX0_times_148 : decode cX0_times 148 = .ok (.bipush 101, 2) := by decide +kernel
theorem dX0_times_150 : decode cX0_times 150 = .ok (.iload 10, 2) := by decide +kernel
theorem dX0_times_152 : decode cX0_times 152 = .ok (.bipush 101, 2) := by decide +kernel
theorem dX0_times_154 : decode cX0_times 154 = .ok (.irem, 1) := by decide +kernel
theorem dX0_times_155 : decode cX0_times 155 = .ok (.imul, 1) := by decide +kernel
theorem dX0_times_156 : decode cX0_times 156 = .ok (.iadd, 1) := by decide +kernel
theorem dX0_times_157 : decode cX0_times 157 = .ok (.ireturn, 1) := by decide +kernel
theorem dX0_times_158 : decode cX0_times 158 = .ok (.bipush 101, 2) := by decide +kernel
theorem dX0_times_160 : decode cX0_times 160 = .ok (.iload 5, 2) := by decide +kernel
theorem dX0_times_162 : decode cX0_times 162 = .ok (.iload 8, 2) := by decide +kernel
theorem dX0_times_164 : decode cX0_times 164 = .ok (.imul, 1) := by decide +kernel
theorem dX0_times_165 : decode cX0_times 165 = .ok (.bipush 101, 2) := by decide +kernel
theorem dX0_times_167 : decode cX0_times 167 = .ok (.irem, 1) := by decide +kernel
theorem dX0_times_168 : decode cX0_times 168 = .ok (.isub, 1) := by decide +kernel
theorem dX0_times_169 : decode cX0_times 169 = .ok (.bipush 101, 2) := by decide +kernel
theorem dX0_times_171 : decode cX0_times 171 = .ok (.irem, 1) := by decide +kernel
theorem dX0_times_172 : decode cX0_times 172 = .ok (.istore 12, 2) := by decide +kernel
theorem dX0_times_174 : decode cX0_times 174 = .ok (.iload 4, 2) := by decide +kernel
theorem dX0_times_176 : decode cX0_times 176 = .ok (.iload 8, 2) := by decide +kernel
theorem dX0_times_178 : decode cX0_times 178 = .ok (.imul, 1) := by decide +kernel
theorem dX0_times_179 : decode cX0_times 179 = .ok (.iload 5, 2) := by decide +kernel
theorem dX0_times_181 : decode cX0_times 181 = .ok (.iload 7, 2) := by decide +kernel
theorem dX0_times_183 : decode cX0_times 183 = .ok (.imul, 1) := by decide +kernel
theorem dX0_times_184 : decode cX0_times 184 = .ok (.iadd, 1) := by decide +kernel
theorem dX0_times_185 : decode cX0_times 185 = .ok (.iload 12, 2) := by decide +kernel
theorem dX0_times_187 : decode cX0_times 187 = .ok (.aload_n 0, 1) := by decide +kernel
theorem dX0_times_188 : decode cX0_times 188 = .ok (.getfield 24, 3) := by decide +kernel
theorem dX0_times_191 : decode cX0_times 191 = .ok (.imul, 1) := by decide +kernel
theorem dX0_times_192 : decode cX0_times 192 = .ok (.iadd, 1) := by decide +kernel
theorem dX0_times_193 : decode cX0_times 193 = .ok (.istore 13, 2) := by decide +kernel
theorem dX0_times_195 : decode cX0_times 195 = .ok (.bipush 101, 2) := by decide +kernel
theorem dX0_times_197 : decode cX0_times 197 = .ok (.iload 13, 2) := by decide +kernel
theorem dX0_times_199 : decode cX0_times 199 = .ok (.bipush 101, 2) := by decide +kernel
theorem dX0_times_201 : decode cX0_times 201 = .ok (.irem, 1) := by decide +kernel
theorem dX0_times_202 : decode cX0_times 202 = .ok (.isub, 1) := by decide +kernel
theorem dX0_times_203 : decode cX0_times 203 = .ok (.bipush 101, 2) := by decide +kernel
theorem dX0_times_205 : decode cX0_times 205 = .ok (.irem, 1) := by decide +kernel
theorem dX0_times_206 : decode cX0_times 206 = .ok (.istore 14, 2) := by decide +kernel
theorem dX0_times_208 : decode cX0_times 208 = .ok (.iload 11, 2) := by decide +kernel
theorem dX0_times_210 : decode cX0_times 210 = .ok (.iload 12, 2) := by decide +kernel
theorem dX0_times_212 : decode cX0_times 212 = .ok (.aload_n 0, 1) := by decide +kernel
theorem dX0_times_213 : decode cX0_times 213 = .ok (.getfield 21, 3) := by decide +kernel
theorem dX0_times_216 : decode cX0_times 216 = .ok (.imul, 1) := by decide +kernel
theorem dX0_times_217 : decode cX0_times 217 = .ok (.iload 14, 2) := by decide +kernel
theorem dX0_times_219 : decode cX0_times 219 = .ok (.aload_n 0, 1) := by decide +kernel
theorem dX0_times_220 : decode cX0_times 220 = .ok (.getfield 24, 3) := by decide +kernel
theorem dX0_times_223 : decode cX0_times 223 = .ok (.imul, 1) := by decide +kernel
theorem dX0_times_224 : decode cX0_times 224 = .ok (.iadd, 1) := by decide +kernel
theorem dX0_times_225 : decode cX0_times 225 = .ok (.iadd, 1) := by decide +kernel
theorem dX0_times_226 : decode cX0_times 226 = .ok (.istore 11, 2) := by decide +kernel
theorem dX0_times_228 : decode cX0_times 228 = .ok (.iload 10, 2) := by decide +kernel
theorem dX0_times_230 : decode cX0_times 230 = .ok (.iload 12, 2) := by decide +kernel
theorem dX0_times_232 : decode cX0_times 232 = .ok (.aload_n 0, 1) := by decide +kernel
theorem dX0_times_233 : decode cX0_times 233 = .ok (.getfield 18, 3) := by decide +kernel
theorem dX0_times_236 : decode cX0_times 236 = .ok (.imul, 1) := by decide +kernel
theorem dX0_times_237 : decode cX0_times 237 = .ok (.iload 14, 2) := by decide +kernel
theorem dX0_times_239 : decode cX0_times 239 = .ok (.aload_n 0, 1) := by decide +kernel
theorem dX0_times_240 : decode cX0_times 240 = .ok (.getfield 21, 3) := by decide +kernel
theorem dX0_times_243 : decode cX0_times 243 = .ok (.imul, 1) := by decide +kernel
theorem dX0_times_244 : decode cX0_times 244 = .ok (.iadd, 1) := by decide +kernel
theorem dX0_times_245 : decode cX0_times 245 = .ok (.iadd, 1) := by decide +kernel
theorem dX0_times_246 : decode cX0_times 246 = .ok (.istore 10, 2) := by decide +kernel
theorem dX0_times_248 : decode cX0_times 248 = .ok (.iload 9, 2) := by decide +kernel
theorem dX0_times_250 : decode cX0_times 250 = .ok (.iload 14, 2) := by decide +kernel
theorem dX0_times_252 : decode cX0_times 252 = .ok (.aload_n 0, 1) := by decide +kernel
theorem dX0_times_253 : decode cX0_times 253 = .ok (.getfield 18, 3) := by decide +kernel
theorem dX0_times_256 : decode cX0_times 256 = .ok (.imul, 1) := by decide +kernel
theorem dX0_times_257 : decode cX0_times 257 = .ok (.iadd, 1) := by decide +kernel
theorem dX0_times_258 : decode cX0_times 258 = .ok (.istore 9, 2) := by decide +kernel
theorem dX0_times_260 : decode cX0_times 260 = .ok (.iload 9, 2) := by decide +kernel
theorem dX0_times_262 : decode cX0_times 262 = .ok (.bipush 101, 2) := by decide +kernel
theorem dX0_times_264 : decode cX0_times 264 = .ok (.irem, 1) := by decide +kernel
theorem dX0_times_265 : decode cX0_times 265 = .ok (.bipush 101, 2) := by decide +kernel
theorem dX0_times_267 : decode cX0_times 267 = .ok (.iload 10, 2) := by decide +kernel
theorem dX0_times_269 : decode cX0_times 269 = .ok (.bipush 101, 2) := by decide +kernel
theorem dX0_times_271 : decode cX0_times 271 = .ok (.irem, 1) := by decide +kernel
theorem dX0_times_272 : decode cX0_times 272 = .ok (.imul, 1) := by decide +kernel
theorem dX0_times_273 : decode cX0_times 273 = .ok (.iadd, 1) := by decide +kernel
theorem dX0_times_274 : decode cX0_times 274 = .ok (.sipush 10201, 3) := by decide +kernel
theorem dX0_times_277 : decode cX0_times 277 = .ok (.iload 11, 2) := by decide +kernel
theorem dX0_times_279 : decode cX0_times 279 = .ok (.bipush 101, 2) := by decide +kernel
theorem dX0_times_281 : decode cX0_times 281 = .ok (.irem, 1) := by decide +kernel
theorem dX0_times_282 : decode cX0_times 282 = .ok (.imul, 1) := by decide +kernel
theorem dX0_times_283 : decode cX0_times 283 = .ok (.iadd, 1) := by decide +kernel
theorem dX0_times_284 : decode cX0_times 284 = .ok (.ireturn, 1) := by decide +kernel
set_option maxRecDepth 20000 in
theorem ggX0_power_X0_times : GoodIn wsX0_power wsX0_times := goodIn_r _ [5, 6, 7, 8, 9, 10, 11, 12, 13, 14, 15, 16, 17] (by decide +kernel) (by decide +kernel)
set_option maxRecDepth 20000 in
theorem gX0_power_X0_times : GoodIn wsX0_power (wsV RX0 45 RX0 yX0_times wsX0_times) := goodIn_app (goodIn_of _ (by decide +kernel)) ggX0_power_X0_times
theorem dX0_power_0 : decode cX0_power 0 = .ok (.iconst 1, 1) := by decide +kernel
theorem dX0_power_1 : decode cX0_power 1 = .ok (.istore_n 3, 1) := by decide +kernel
theorem dX0_power_2 : decode cX0_power 2 = .ok (.iload_n 1, 1) := by decide +kernel
theorem dX0_power_3 : decode cX0_power 3 = .ok (.istore 4, 2) := by decide +kernel
theorem dX0_power_5 : decode cX0_power 5 = .ok (.iload_n 2, 1) := by decide +kernel
theorem dX0_power_6 : decode cX0_power 6 = .ok (.istore 5, 2) := by decide +kernel
theorem dX0_power_8 : decode cX0_power 8 = .ok (.iload 5, 2) := by decide +kernel
theorem dX0_power_10 : decode cX0_power 10 = .ok (.ifCond .le 38, 3) := by decide +kernel
theorem dX0_power_13 : decode cX0_power 13 = .ok (.iload 5, 2) := by decide +kernel
theorem dX0_power_15 : decode cX0_power 15 = .ok (.iconst 1, 1) := by decide +kernel
theorem dX0_power_16 : decode cX0_power 16 = .ok (.iand, 1) := by decide +kernel
theorem dX0_power_17 : decode cX0_power 17 = .ok (.iconst 1, 1) := by decide +kernel
theorem dX0_power_18 : decode cX0_power 18 = .ok (.if_icmp .ne 11, 3) := by decide +kernel
theorem dX0_power_21 : decode cX0_power 21 = .ok (.aload_n 0, 1) := by decide +kernel
theorem dX0_power_22 : decode cX0_power 22 = .ok (.iload_n 3, 1) := by decide +kernel
theorem dX0_power_23 : decode cX0_power 23 = .ok (.iload 4, 2) := by decide +kernel
theorem dX0_power_25 : decode cX0_power 25 = .ok (.invokevirtual 45, 3) := by decide +kernel
theorem dX0_power_28 : decode cX0_power 28 = .ok (.istore_n 3, 1) := by decide +kernel
theorem dX0_power_29 : decode cX0_power 29 = .ok (.aload_n 0, 1) := by decide +kernel
theorem dX0_power_30 : decode cX0_power 30 = .ok (.iload 4, 2) := by decide +kernel
theorem dX0_power_32 : decode cX0_power 32 = .ok (.iload 4, 2) := by decide +kernel
theorem dX0_power_34 : decode cX0_power 34 = .ok (.invokevirtual 45, 3) := by decide +kernel
theorem dX0_power_37 : decode cX0_power 37 = .ok (.istore 4, 2) := by decide +kernel
theorem dX0_power_39 : decode cX0_power 39 = .ok (.iload 5, 2) := by decide +kernel
theorem dX0_power_41 : decode cX0_power 41 = .ok (.iconst 1, 1) := by decide +kernel
theorem dX0_power_42 : decode cX0_power 42 = .ok (.ishr, 1) := by decide +kernel
theorem dX0_power_43 : decode cX0_power 43 = .ok (.istore 5, 2) := by decide +kernel
theorem dX0_power_45 : decode cX0_power 45 = .ok (.goto (-37), 3) := by decide +kernel
theorem dX0_power_48 : decode cX0_power 48 = .ok (.iload_n 3, 1) := by decide +kernel
theorem dX0_power_49 : decode cX0_power 49 = .ok (.ireturn, 1) := by decide +kernel
set_option maxRecDepth 20000 in
theorem ggX0_mate_X0_times : GoodIn wsX0_mate wsX0_times := goodIn_r _ [7, 8, 9, 10, 11, 16, 17, 18, 19, 20, 21, 22, 23] (by decide +kernel) (by decide +kernel)
set_option maxRecDepth 20000 in
theorem gX0_mate_X0_times : GoodIn wsX0_mate (wsV RX0 45 RX0 yX0_times wsX0_times) := goodIn_app (goodIn_of _ (by decide +kernel)) ggX0_mate_X0_times
set_option maxRecDepth 20000 in
theorem ggX0_mate_X0_plus : GoodIn wsX0_mate wsX0_plus := goodIn_r _ [15] (by decide +kernel) (by decide +kernel)
set_option maxRecDepth 20000 in
theorem gX0_mate_X0_plus : GoodIn wsX0_mate (wsV RX0 48 RX0 yX0_plus wsX0_plus) := goodIn_app (goodIn_of _ (by decide +kernel)) ggX0_mate_X0_plus
theorem dX0_mate_0 : decode cX0_mate 0 = .ok (.aload_n 0, 1) := by decide +kernel
theorem dX0_mate_1 : decode cX0_mate 1 = .ok (.iload_n 1, 1) := by decide +kernel
theorem dX0_mate_2 : decode cX0_mate 2 = .ok (.sipush 10201, 3) := by decide +kernel
theorem dX0_mate_5 : decode cX0_mate 5 = .ok (.idiv, 1) := by decide +kernel
theorem dX0_mate_6 : decode cX0_mate 6 = .ok (.aload_n 0, 1) := by decide +kernel
theorem dX0_mate_7 : decode cX0_mate 7 = .ok (.getfield 33, 3) := by decide +kernel
theorem dX0_mate_10 : decode cX0_mate 10 = .ok (.invokevirtual 45, 3) := by decide +kernel
theorem dX0_mate_13 : decode cX0_mate 13 = .ok (.istore_n 2, 1) := by decide +kernel
theorem dX0_mate_14 : decode cX0_mate 14 = .ok (.aload_n 0, 1) := by decide +kernel
theorem dX0_mate_15 : decode cX0_mate 15 = .ok (.iload_n 1, 1) := by decide +kernel
theorem dX0_mate_16 : decode cX0_mate 16 = .ok (.bipush 101, 2) := by decide +kernel
theorem dX0_mate_18 : decode cX0_mate 18 = .ok (.idiv, 1) := by decide +kernel
theorem dX0_mate_19 : decode cX0_mate 19 = .ok (.bipush 101, 2) := by decide +kernel
theorem dX0_mate_21 : decode cX0_mate 21 = .ok (.irem, 1) := by decide +kernel
theorem dX0_mate_22 : decode cX0_mate 22 = .ok (.aload_n 0, 1) := by decide +kernel
theorem dX0_mate_23 : decode cX0_mate 23 = .ok (.getfield 30, 3) := by decide +kernel
theorem dX0_mate_26 : decode cX0_mate 26 = .ok (.invokevirtual 45, 3) := by decide +kernel
theorem dX0_mate_29 : decode cX0_mate 29 = .ok (.istore_n 3, 1) := by decide +kernel
theorem dX0_mate_30 : decode cX0_mate 30 = .ok (.aload_n 0, 1) := by decide +kernel
theorem dX0_mate_31 : decode cX0_mate 31 = .ok (.iload_n 1, 1) := by decide +kernel
theorem dX0_mate_32 : decode cX0_mate 32 = .ok (.bipush 101, 2) := by decide +kernel
theorem dX0_mate_34 : decode cX0_mate 34 = .ok (.irem, 1) := by decide +kernel
theorem dX0_mate_35 : decode cX0_mate 35 = .ok (.aload_n 0, 1) := by decide +kernel
theorem dX0_mate_36 : decode cX0_mate 36 = .ok (.iload_n 3, 1) := by decide +kernel
theorem dX0_mate_37 : decode cX0_mate 37 = .ok (.iload_n 2, 1) := by decide +kernel
theorem dX0_mate_38 : decode cX0_mate 38 = .ok (.invokevirtual 48, 3) := by decide +kernel
theorem dX0_mate_41 : decode cX0_mate 41 = .ok (.invokevirtual 48, 3) := by decide +kernel
theorem dX0_mate_44 : decode cX0_mate 44 = .ok (.ireturn, 1) := by decide +kernel
set_option maxRecDepth 20000 in
theorem ggX0_isSquare_X0_power : GoodIn wsX0_isSquare wsX0_power := goodIn_r _ [6, 7, 8, 9, 5, 10, 11, 12, 13, 14, 15, 16, 17, 18, 19, 20, 21, 22] (by decide +kernel) (by decide +kernel)
set_option maxRecDepth 20000 in
theorem gX0_isSquare_X0_power : GoodIn wsX0_isSquare (wsV RX0 41 RX0 yX0_power wsX0_power) := goodIn_app (goodIn_of _ (by decide +kernel)) ggX0_isSquare_X0_power
theorem dX0_isSquare_0 : decode cX0_isSquare 0 = .ok (.iload_n 1, 1) := by decide +kernel
theorem dX0_isSquare_1 : decode cX0_isSquare 1 = .ok (.ifCond .eq 18, 3) := by decide +kernel
theorem dX0_isSquare_4 : decode cX0_isSquare 4 = .ok (.aload_n 0, 1) := by decide +kernel
theorem dX0_isSquare_5 : decode cX0_isSquare 5 = .ok (.iload_n 1, 1) := by decide +kernel
theorem dX0_isSquare_6 : decode cX0_isSquare 6 = .ok (.aload_n 0, 1) := by decide +kernel
theorem dX0_isSquare_7 : decode cX0_isSquare 7 = .ok (.getfield 15, 3) := by decide +kernel
theorem dX0_isSquare_10 : decode cX0_isSquare 10 = .ok (.iconst 2, 1) := by decide +kernel
theorem dX0_isSquare_11 : decode cX0_isSquare 11 = .ok (.idiv, 1) := by decide +kernel
theorem dX0_isSquare_12 : decode cX0_isSquare 12 = .ok (.invokevirtual 41, 3) := by decide +kernel
theorem dX0_isSquare_15 : decode cX0_isSquare 15 = .ok (.iconst 1, 1) := by decide +kernel
theorem dX0_isSquare_16 : decode cX0_isSquare 16 = .ok (.if_icmp .ne 7, 3) := by decide +kernel
theorem dX0_isSquare_19 : decode cX0_isSquare 19 = .ok (.iconst 1, 1) := by decide +kernel
theorem dX0_isSquare_20 : decode cX0_isSquare 20 = .ok (.goto 4, 3) := by decide +kernel
theorem dX0_isSquare_23 : decode cX0_isSquare 23 = .ok (.iconst 0, 1) := by decide +kernel
theorem dX0_isSquare_24 : decode cX0_isSquare 24 = .ok (.ireturn, 1) := by decide +kernel
set_option maxRecDepth 20000 in
theorem ggX0_matesProduct_X0_mate : GoodIn wsX0_matesProduct wsX0_mate := goodIn_r _ [6, 7, 8, 9, 10, 11, 5, 12, 1, 13, 14, 15, 16, 17, 18, 19, 20, 21, 22, 23, 24, 25, 26, 27] (by decide +kernel) (by decide +kernel)
set_option maxRecDepth 20000 in
theorem gX0_matesProduct_X0_mate : GoodIn wsX0_matesProduct (wsV RX0 51 RX0 yX0_mate wsX0_mate) := goodIn_app (goodIn_of _ (by decide +kernel)) ggX0_matesProduct_X0_mate
set_option maxRecDepth 20000 in
theorem ggX0_matesProduct_X0_times : GoodIn wsX0_matesProduct wsX0_times := goodIn_r _ [12, 1, 13, 14, 15, 20, 21, 22, 23, 24, 25, 26, 27] (by decide +kernel) (by decide +kernel)
set_option maxRecDepth 20000 in
theorem gX0_matesProduct_X0_times : GoodIn wsX0_matesProduct (wsV RX0 45 RX0 yX0_times wsX0_times) := goodIn_app (goodIn_of _ (by decide +kernel)) ggX0_matesProduct_X0_times
theorem dX0_matesProduct_0 : decode cX0_matesProduct 0 = .ok (.iload_n 1, 1) := by decide +kernel
theorem dX0_matesProduct_1 : decode cX0_matesProduct 1 = .ok (.istore_n 2, 1) := by decide +kernel
theorem dX0_matesProduct_2 : decode cX0_matesProduct 2 = .ok (.iload_n 1, 1) := by decide +kernel
theorem dX0_matesProduct_3 : decode cX0_matesProduct 3 = .ok (.istore_n 3, 1) := by decide +kernel
theorem dX0_matesProduct_4 : decode cX0_matesProduct 4 = .ok (.iconst 1, 1) := by decide +kernel
theorem dX0_matesProduct_5 : decode cX0_matesProduct 5 = .ok (.istore 4, 2) := by decide +kernel
theorem dX0_matesProduct_7 : decode cX0_matesProduct 7 = .ok (.iload 4, 2) := by decide +kernel
theorem dX0_matesProduct_9 : decode cX0_matesProduct 9 = .ok (.aload_n 0, 1) := by decide +kernel
theorem dX0_matesProduct_10 : decode cX0_matesProduct 10 = .ok (.getfield 9, 3) := by decide +kernel
theorem dX0_matesProduct_13 : decode cX0_matesProduct 13 = .ok (.if_icmp .ge 22, 3) := by decide +kernel
theorem dX0_matesProduct_16 : decode cX0_matesProduct 16 = .ok (.aload_n 0, 1) := by decide +kernel
theorem dX0_matesProduct_17 : decode cX0_matesProduct 17 = .ok (.iload_n 3, 1) := by decide +kernel
theorem dX0_matesProduct_18 : decode cX0_matesProduct 18 = .ok (.invokevirtual 51, 3) := by decide +kernel
theorem dX0_matesProduct_21 : decode cX0_matesProduct 21 = .ok (.istore_n 3, 1) := by decide +kernel
theorem dX0_matesProduct_22 : decode cX0_matesProduct 22 = .ok (.aload_n 0, 1) := by decide +kernel
theorem dX0_matesProduct_23 : decode cX0_matesProduct 23 = .ok (.iload_n 2, 1) := by decide +kernel
theorem dX0_matesProduct_24 : decode cX0_matesProduct 24 = .ok (.iload_n 3, 1) := by decide +kernel
theorem dX0_matesProduct_25 : decode cX0_matesProduct 25 = .ok (.invokevirtual 45, 3) := by decide +kernel
theorem dX0_matesProduct_28 : decode cX0_matesProduct 28 = .ok (.istore_n 2, 1) := by decide +kernel
theorem dX0_matesProduct_29 : decode cX0_matesProduct 29 = .ok (.iinc 4 1, 3) := by decide +kernel
theorem dX0_matesProduct_32 : decode cX0_matesProduct 32 = .ok (.goto (-25), 3) := by decide +kernel
theorem dX0_matesProduct_35 : decode cX0_matesProduct 35 = .ok (.iload_n 2, 1) := by decide +kernel
theorem dX0_matesProduct_36 : decode cX0_matesProduct 36 = .ok (.ireturn, 1) := by decide +kernel
set_option maxRecDepth 20000 in
theorem ggX0_matesSum_X0_mate : GoodIn wsX0_matesSum wsX0_mate := goodIn_r _ [6, 7, 8, 9, 10, 11, 5, 12, 1, 13, 14, 15, 16, 17, 18, 19, 20, 21, 22, 23, 24, 25, 26, 27] (by decide +kernel) (by decide +kernel)
set_option maxRecDepth 20000 in
theorem gX0_matesSum_X0_mate : GoodIn wsX0_matesSum (wsV RX0 51 RX0 yX0_mate wsX0_mate) := goodIn_app (goodIn_of _ (by decide +kernel)) ggX0_matesSum_X0_mate
set_option maxRecDepth 20000 in
theorem ggX0_matesSum_X0_plus : GoodIn wsX0_matesSum wsX0_plus := goodIn_r _ [19] (by decide +kernel) (by decide +kernel)
set_option maxRecDepth 20000 in
theorem gX0_matesSum_X0_plus : GoodIn wsX0_matesSum (wsV RX0 48 RX0 yX0_plus wsX0_plus) := goodIn_app (goodIn_of _ (by decide +kernel)) ggX0_matesSum_X0_plus
theorem dX0_matesSum_0 : decode cX0_matesSum 0 = .ok (.iload_n 1, 1) := by decide +kernel
theorem dX0_matesSum_1 : decode cX0_matesSum 1 = .ok (.istore_n 2, 1) := by decide +kernel
theorem dX0_matesSum_2 : decode cX0_matesSum 2 = .ok (.iload_n 1, 1) := by decide +kernel
theorem dX0_matesSum_3 : decode cX0_matesSum 3 = .ok (.istore_n 3, 1) := by decide +kernel
theorem dX0_matesSum_4 : decode cX0_matesSum 4 = .ok (.iconst 1, 1) := by decide +kernel
theorem dX0_matesSum_5 : decode cX0_matesSum 5 = .ok (.istore 4, 2) := by decide +kernel
theorem dX0_matesSum_7 : decode cX0_matesSum 7 = .ok (.iload 4, 2) := by decide +kernel
theorem dX0_matesSum_9 : decode cX0_matesSum 9 = .ok (.aload_n 0, 1) := by decide +kernel
theorem dX0_matesSum_10 : decode cX0_matesSum 10 = .ok (.getfield 9, 3) := by decide +kernel
theorem dX0_matesSum_13 : decode cX0_matesSum 13 = .ok (.if_icmp .ge 22, 3) := by decide +kernel
theorem dX0_matesSum_16 : decode cX0_matesSum 16 = .ok (.aload_n 0, 1) := by decide +kernel
theorem dX0_matesSum_17 : decode cX0_matesSum 17 = .ok (.iload_n 3, 1) := by decide +kernel
theorem dX0_matesSum_18 : decode cX0_matesSum 18 = .ok (.invokevirtual 51, 3) := by decide +kernel
theorem dX0_matesSum_21 : decode cX0_matesSum 21 = .ok (.istore_n 3, 1) := by decide +kernel
theorem dX0_matesSum_22 : decode cX0_matesSum 22 = .ok (.aload_n 0, 1) := by decide +kernel
theorem dX0_matesSum_23 : decode cX0_matesSum 23 = .ok (.iload_n 2, 1) := by decide +kernel
theorem dX0_matesSum_24 : decode cX0_matesSum 24 = .ok (.iload_n 3, 1) := by decide +kernel
theorem dX0_matesSum_25 : decode cX0_matesSum 25 = .ok (.invokevirtual 48, 3) := by decide +kernel
theorem dX0_matesSum_28 : decode cX0_matesSum 28 = .ok (.istore_n 2, 1) := by decide +kernel
theorem dX0_matesSum_29 : decode cX0_matesSum 29 = .ok (.iinc 4 1, 3) := by decide +kernel
theorem dX0_matesSum_32 : decode cX0_matesSum 32 = .ok (.goto (-25), 3) := by decide +kernel
theorem dX0_matesSum_35 : decode cX0_matesSum 35 = .ok (.iload_n 2, 1) := by decide +kernel
theorem dX0_matesSum_36 : decode cX0_matesSum 36 = .ok (.ireturn, 1) := by decide +kernel
set_option maxRecDepth 20000 in
theorem ggX0_differentMates_X0_mate : GoodIn wsX0_differentMates wsX0_mate := goodIn_r _ [6, 7, 8, 9, 10, 11, 5, 12, 1, 13, 14, 15, 16, 17, 18, 19, 20, 21, 22, 23, 24, 25, 26, 27] (by decide +kernel) (by decide +kernel)
set_option maxRecDepth 20000 in
theorem gX0_differentMates_X0_mate : GoodIn wsX0_differentMates (wsV RX0 51 RX0 yX0_mate wsX0_mate) := goodIn_app (goodIn_of _ (by decide +kernel)) ggX0_differentMates_X0_mate
theorem dX0_differentMates_0 : decode cX0_differentMates 0 = .ok (.aload_n 0, 1) := by decide +kernel
theorem dX0_differentMates_1 : decode cX0_differentMates 1 = .ok (.iload_n 1, 1) := by decide +kernel
theorem dX0_differentMates_2 : decode cX0_differentMates 2 = .ok (.invokevirtual 51, 3) := by decide +kernel
theorem dX0_differentMates_5 : decode cX0_differentMates 5 = .ok (.iload_n 1, 1) := by decide +kernel
theorem dX0_differentMates_6 : decode cX0_differentMates 6 = .ok (.if_icmp .ne 7, 3) := by decide +kernel
theorem dX0_differentMates_9 : decode cX0_differentMates 9 = .ok (.iconst 1, 1) := by decide +kernel
theorem dX0_differentMates_10 : decode cX0_differentMates 10 = .ok (.goto 7, 3) := by decide +kernel
theorem dX0_differentMates_13 : decode cX0_differentMates 13 = .ok (.aload_n 0, 1) := by decide +kernel
theorem dX0_differentMates_14 : decode cX0_differentMates 14 = .ok (.getfield 9, 3) := by decide +kernel
theorem dX0_differentMates_17 : decode cX0_differentMates 17 = .ok (.ireturn, 1) := by decide +kernel
end
section
/-! A world of n cells at the addresses ad 0 .. ad (n - 1), with the contents c. -/
def ww (n : Nat) (ad : Nat → Nat) (c : Nat → va_E) : va_W := (List.range n).map (fun k => (ad k, c k))
theorem ww_get {n : Nat} {ad : Nat → Nat} {c : Nat → va_E} {k : Nat} (hk : k < n) : (ww n ad c)[k]? = some (ad k, c k) := by
  simp [ww, List.getElem?_map, List.getElem?_range hk]
theorem ww_len {n : Nat} {ad : Nat → Nat} {c : Nat → va_E} : (ww n ad c).length = n := by simp [ww]
theorem ww_of {n : Nat} {ad : Nat → Nat} {c : Nat → va_E} {k : Nat} {q : Nat × va_E} (h : (ww n ad c)[k]? = some q) : k < n ∧ q = (ad k, c k) := by
  have hl : k < n := by
    have h1 := (List.getElem?_eq_some_iff.mp h).1
    rw [ww_len] at h1
    exact h1
  rw [ww_get hl] at h
  exact ⟨hl, (Option.some.inj h).symm⟩
theorem ww_set {n : Nat} {ad : Nat → Nat} {c c' : Nat → va_E} {k : Nat} {e : va_E} (h1 : c' k = e) (h2 : ∀ j, j ≠ k → c' j = c j) : (ww n ad c).set k (ad k, e) = ww n ad c' := by
  apply List.ext_getElem?
  intro i
  by_cases hi : i < n
  · by_cases hk : i = k
    · subst hk
      rw [ww_get hi, List.getElem?_set]
      simp [ww_len, hi, h1]
    · rw [ww_get (c := c') hi, List.getElem?_set, if_neg (fun h => hk h.symm), ww_get hi, h2 i hk]
  · rw [List.getElem?_eq_none (by rw [List.length_set, ww_len]; omega), List.getElem?_eq_none (by rw [ww_len]; omega)]
/-- the addresses of the world -/
def ww_A (n : Nat) (ad : Nat → Nat) : Nat → Prop := fun q => ∃ k, k < n ∧ q = ad k
def ww_inj (n : Nat) (ad : Nat → Nat) : Prop := ∀ i j, i < n → j < n → ad i = ad j → i = j
theorem ww_D {n : Nat} {ad : Nat → Nat} {c : Nat → va_E} (h : ww_inj n ad) : va_D (ww_A n ad) (ww n ad c) := by
  refine ⟨fun i j p q hp hq e => ?_, fun k q hk => ?_⟩
  · obtain ⟨h1, rfl⟩ := ww_of hp
    obtain ⟨h2, rfl⟩ := ww_of hq
    exact h i j h1 h2 e
  · obtain ⟨h1, rfl⟩ := ww_of hk
    exact ⟨k, h1, rfl⟩
/-- the words on nest mates, as the state at a method's start has them -/
def nw_ok (nw : List Cond) (U : State) : Prop := ∀ w ∈ nw, va_Nw w U
def nw_kind (w : Cond) : Bool := match w with
  | .fieldLinkNest .. => true
  | .methodLinkNest .. => true
  | _ => false
theorem nw_moved {nw : List Cond} (hk : nw.all nw_kind = true) {s U : State} (hW : s.WarmedH U.vm) (h : nw_ok nw s) : nw_ok nw U := by
  intro w hw
  have h1 := List.all_eq_true.mp hk w hw
  have h2 := h w hw
  cases w <;> simp [nw_kind] at h1
  · exact va_Nw.warmM hW h2
  · exact va_Nw.warmF hW h2
/-- what a state holds at a method's start: the world, the tables' words on its classes, the words on nest mates -/
def ws_B (D : va_G) (tys : List (ClassId × FieldType)) (nw : List Cond) (w : va_W) (U : State) : Prop := va_P D vwCl w U.heap ∧ va_K D vwCl tys U ∧ nw_ok nw U
/-- a method's end: it returns v, the world is w', nothing else has changed -/
def ct_Q (D : va_G) (w' : va_W) (A : Nat → Prop) (v : Option Value) : Array Value → State → Outcome → State → Prop := fun _ st o t => o = .returned v ∧ va_P D vwCl w' t.heap ∧ va_F A st t
theorem ct_pre {D : va_G} {tys : List (ClassId × FieldType)} {nw : List Cond} {w : va_W} {H : Heap} {s : State} (hn : nw.all nw_kind = true) (hP : va_P D vwCl w H) (hK : va_K D vwCl tys s) (hN : nw_ok nw s) {av : List Value} :
    FrameBlind (va_Pc av (ws_B D tys nw w)) ∧ ∀ U : State, U.heap = H → s.WarmedH U.vm → va_Pc av (ws_B D tys nw w) av.toArray U := by
  refine ⟨fun a U g mk q => ?_, fun U hU hW => ⟨rfl, by rw [hU]; exact hP, va_K.moved hW.alike hK, nw_moved hn hW hN⟩⟩
  obtain ⟨q0, qP, qK, qN⟩ := q
  exact ⟨q0, qP, va_K.moved (u := U) (U := U.calling g mk a) (Vm.Alike.refl U.vm) qK, fun w hw => va_Nw.same (u := U) (U := U.calling g mk a) (by
    have h1 := List.all_eq_true.mp hn w hw
    cases w <;> simp [nw_kind] at h1 <;> rfl) rfl (qN w hw)⟩
theorem ct_preV {D : va_G} {tys : List (ClassId × FieldType)} {nw : List Cond} {n : Nat} {ad : Nat → Nat} {c : Nat → va_E} {H : Heap} {s : State} {As : List Value} {ci k : Nat} {q : vw_C} {fs : List Value} (hn : nw.all nw_kind = true) (hP : va_P D vwCl (ww n ad c) H) (hK : va_K D vwCl tys s) (hN : nw_ok nw s) (hc : vwCl[ci]? = some q) (hk : k < n) (he : c k = .inr (ci, fs)) :
    PreV s H q.1 (ad k) (va_Pc (.ref (ad k) :: As) (ws_B D tys nw (ww n ad c))) As := by
  obtain ⟨h1, h2⟩ := ct_pre (av := .ref (ad k) :: As) hn hP hK hN
  exact ⟨h1, va_recv hK hP hc (q0 := k) (fs := fs) (by rw [ww_get hk, he]), h2⟩
theorem ct_preS {D : va_G} {tys : List (ClassId × FieldType)} {nw : List Cond} {w : va_W} {H : Heap} {s : State} {As : List Value} (hn : nw.all nw_kind = true) (hP : va_P D vwCl w H) (hK : va_K D vwCl tys s) (hN : nw_ok nw s) :
    PreS s H (va_Pc As (ws_B D tys nw w)) As := ct_pre hn hP hK hN
section CT
variable {p : Program} {l : Launch} {e : Env} {R : Room} {s : State} {m : MethodId} {args : Array Value} {below : List Frame} {meth : Method} {c : Code} {H : Heap} {locs : List Loc} {Q : State → Prop}
variable {pc : Nat} {ls : Array Slot} {rest st0 : List Value} {a : Array Value} {A : Nat → Prop} {H0 : Heap}
/-- behind a call of a method whose end is ct_Q -/
theorem ct_call {D : va_G} {w' : va_W} {v : Option Value} (hr : va_Run p l e R s m args below meth c H locs 0 0 0 0 (F0 m pc ls st0) rest (ct_Q D w' A v a) A) (hS : va_S A H0 H locs)
    (kk : ∀ (H1 : Heap) (locs1 : List Loc), va_P D vwCl w' H1 → va_S A H0 H1 locs1 → W p l e R s m args below meth c H1 locs1 0 0 Q (F0 m (pc + 3) ls (v.toList ++ rest))) : W p l e R s m args below meth c H locs 0 0 Q (F0 m pc ls st0) := by
  intro T hT X
  obtain ⟨v1, st₀, t, T', L, h0, X', hL, e1, e2, ⟨hv, hp, hz, hk⟩, st⟩ := hr T hT X
  cases hv
  rw [h0] at hz hk
  obtain ⟨t2, a1, b1⟩ := kk T'.heap (locs ++ L) (by rw [e1]; exact hp)
    ⟨Nat.le_trans hS.1 (by rw [e1]; exact hz), fun q h1 h2 => by rw [e1, hk q (Nat.lt_of_lt_of_le h1 hS.1) h2]; exact hS.2.1 q h1 h2, fun q hq => by
      rcases List.mem_append.mp hq with h | h
      · exact hS.2.2 q h
      · exact hL q h⟩ T' rfl X'
  exact ⟨t2, st t2 a1, b1⟩
/-- behind a call of a method that changes nothing -/
theorem rd_call {v : Option Value} {A1 : Nat → Prop} (hr : va_Run p l e R s m args below meth c H locs 0 0 0 0 (F0 m pc ls st0) rest (fun st o t => o = .returned v ∧ t.heap = st.heap) A1) (hf : ∀ q, ¬ A1 q)
    (kk : W p l e R s m args below meth c H locs 0 0 Q (F0 m (pc + 3) ls (v.toList ++ rest))) : W p l e R s m args below meth c H locs 0 0 Q (F0 m pc ls st0) := by
  intro T hT X
  obtain ⟨v1, st₀, t, T', L, h0, X', hL, e1, e2, ⟨hv, hh⟩, st⟩ := hr T hT X
  cases hv
  obtain ⟨t2, a1, b1⟩ := kk T' (by rw [e1, hh, h0]) (Stand.forget X' (fun q h => (hf _ (hL q h)).elim))
  exact ⟨t2, st t2 a1, b1⟩
end CT
end
section
/-! The world of the class: 46 cells. Rows 0 .. 19: their arrays at places 0 .. 19, the objects at 20 .. 39. 0 f; 1 .. 10 the ring's (wide, quotient, older, newer, derived, mates, product, moved, least, common); 11 .. 14 the splitter's (root, rest, power, shared); 15 .. 19 the parts. 40 Extension, 41 Ring, 42 Splitter, 43 parts, 44 counts, 45 the object itself. M: what the rows hold; E: the extension's fields; P: which row a part is; C: counts; N 0, N 1: count, found. -/
abbrev ra (ad : Nat → Nat) (i : Fin 20) : Nat := ad (20 + i.val)
abbrev aa (ad : Nat → Nat) (i : Fin 20) : Nat := ad i.val
def fup {β : Type} (f : Fin 20 → β) (i : Fin 20) (v : β) : Fin 20 → β := fun j => if j = i then v else f j
def cellC (cI cR : ClassId) (ad : Nat → Nat) (M : Fin 20 → Nat → Int32) (E : Nat → Int32) (P : Nat → Fin 20) (C N : Nat → Int32) : Nat → va_E := fun k =>
  if h : k < 20 then .inl (cI, 16, .inl (M ⟨k, h⟩))
  else if k < 40 then .inr (2, [.ref (ad (k - 20))])
  else if k = 40 then .inr (0, [.int (E 0), .int (E 1), .int (E 2), .int (E 3), .int (E 4), .int (E 5), .int (E 6), .int (E 7)])
  else if k = 41 then .inr (1, [.ref (ad 40), .ref (ra ad 1), .ref (ra ad 2), .ref (ra ad 3), .ref (ra ad 4), .ref (ra ad 5), .ref (ra ad 6), .ref (ra ad 7), .ref (ra ad 8), .ref (ra ad 9), .ref (ra ad 10)])
  else if k = 42 then .inr (3, [.ref (ad 43), .ref (ad 44), .int (N 0), .int (N 1), .ref (ra ad 11), .ref (ra ad 12), .ref (ra ad 13), .ref (ra ad 14)])
  else if k = 43 then .inl (cR, 5, .inr (.inr (.inr (.inr (fun i => some (ra ad (P i)))))))
  else if k = 44 then .inl (cI, 5, .inl C)
  else .inr (4, [.ref (ra ad 0), .ref (ad 41), .ref (ad 42)])
section WC
variable {D : va_G} {H : Heap} {cI cR : ClassId} {ad : Nat → Nat} {M : Fin 20 → Nat → Int32} {E : Nat → Int32} {P : Nat → Fin 20} {C N : Nat → Int32}
theorem ra_lt (i : Fin 20) : 20 + i.val < 46 := by omega
theorem cl_arr (i : Fin 20) : cellC cI cR ad M E P C N i.val = .inl (cI, 16, .inl (M i)) := by simp [cellC, i.isLt]
theorem cl_row (i : Fin 20) : cellC cI cR ad M E P C N (20 + i.val) = .inr (2, [.ref (aa ad i)]) := by
  have h1 : ¬ 20 + i.val < 20 := by omega
  have h2 : 20 + i.val < 40 := by omega
  simp [cellC, h2]
theorem cc_arr (i : Fin 20) : (ww 46 ad (cellC cI cR ad M E P C N))[i.val]? = some (aa ad i, .inl (cI, 16, .inl (M i))) := by rw [ww_get (by omega), cl_arr]
theorem cc_row (i : Fin 20) : (ww 46 ad (cellC cI cR ad M E P C N))[20 + i.val]? = some (ra ad i, .inr (2, [.ref (aa ad i)])) := by rw [ww_get (by omega), cl_row]
theorem cc_ext : (ww 46 ad (cellC cI cR ad M E P C N))[40]? = some (ad 40, .inr (0, [.int (E 0), .int (E 1), .int (E 2), .int (E 3), .int (E 4), .int (E 5), .int (E 6), .int (E 7)])) := ww_get (by decide)
theorem cc_ring : (ww 46 ad (cellC cI cR ad M E P C N))[41]? = some (ad 41, .inr (1, [.ref (ad 40), .ref (ra ad 1), .ref (ra ad 2), .ref (ra ad 3), .ref (ra ad 4), .ref (ra ad 5), .ref (ra ad 6), .ref (ra ad 7), .ref (ra ad 8), .ref (ra ad 9), .ref (ra ad 10)])) := ww_get (by decide)
theorem cc_spl : (ww 46 ad (cellC cI cR ad M E P C N))[42]? = some (ad 42, .inr (3, [.ref (ad 43), .ref (ad 44), .int (N 0), .int (N 1), .ref (ra ad 11), .ref (ra ad 12), .ref (ra ad 13), .ref (ra ad 14)])) := ww_get (by decide)
theorem cc_parts : (ww 46 ad (cellC cI cR ad M E P C N))[43]? = some (ad 43, .inl (cR, 5, .inr (.inr (.inr (.inr (fun i => some (ra ad (P i)))))))) := ww_get (by decide)
theorem cc_counts : (ww 46 ad (cellC cI cR ad M E P C N))[44]? = some (ad 44, .inl (cI, 5, .inl C)) := ww_get (by decide)
theorem cc_main : (ww 46 ad (cellC cI cR ad M E P C N))[45]? = some (ad 45, .inr (4, [.ref (ra ad 0), .ref (ad 41), .ref (ad 42)])) := ww_get (by decide)
theorem cs_M (i : Fin 20) {v : Nat → Int32} (h : va_P D vwCl ((ww 46 ad (cellC cI cR ad M E P C N)).set i.val (aa ad i, .inl (cI, 16, .inl v))) H) : va_P D vwCl (ww 46 ad (cellC cI cR ad (fup M i v) E P C N)) H := by
  rw [ww_set (c' := cellC cI cR ad (fup M i v) E P C N)] at h
  · exact h
  · rw [cl_arr]; simp [fup]
  · intro j hj
    by_cases h2 : j < 20
    · have h3 : (⟨j, h2⟩ : Fin 20) ≠ i := fun e => hj (by rw [← e])
      simp [cellC, h2, fup, h3]
    · simp [cellC, h2]
theorem cs_of {c' : Nat → va_E} {k : Nat} {e : va_E} (h : va_P D vwCl ((ww 46 ad (cellC cI cR ad M E P C N)).set k (ad k, e)) H) (h1 : c' k = e) (h2 : ∀ j, j ≠ k → c' j = cellC cI cR ad M E P C N j) : va_P D vwCl (ww 46 ad c') H := by
  rw [ww_set h1 h2] at h
  exact h
theorem ce_off {E' : Nat → Int32} : ∀ j, j ≠ 40 → cellC cI cR ad M E' P C N j = cellC cI cR ad M E P C N j := by
  intro j hj
  simp [cellC, hj]
theorem cn_off {N' : Nat → Int32} : ∀ j, j ≠ 42 → cellC cI cR ad M E P C N' j = cellC cI cR ad M E P C N j := by
  intro j hj
  simp [cellC, hj]
theorem cs_C {v : Nat → Int32} (h : va_P D vwCl ((ww 46 ad (cellC cI cR ad M E P C N)).set 44 (ad 44, .inl (cI, 5, .inl v))) H) : va_P D vwCl (ww 46 ad (cellC cI cR ad M E P v N)) H := cs_of h rfl (fun j hj => by simp [cellC, hj])
theorem cs_P {j : Nat} {r : Fin 20} (h : va_P D vwCl ((ww 46 ad (cellC cI cR ad M E P C N)).set 43 (ad 43, .inl (cR, 5, .inr (.inr (.inr (.inr (va_up (fun i => some (ra ad (P i))) j (some (ra ad r))))))))) H) : va_P D vwCl (ww 46 ad (cellC cI cR ad M E (va_up P j r) C N)) H := by
  refine cs_of h ?_ (fun k hk => by simp [cellC, hk])
  have e : va_up (fun i => some (ra ad (P i))) j (some (ra ad r)) = fun i => some (ra ad (va_up P j r i)) := by
    funext i
    by_cases hi : i = j <;> simp [va_up, hi]
  rw [e]
  rfl
theorem cs_E0 {v : Int32} (h : va_P D vwCl ((ww 46 ad (cellC cI cR ad M E P C N)).set 40 (ad 40, .inr (0, [.int (E 0), .int (E 1), .int (E 2), .int (E 3), .int (E 4), .int (E 5), .int (E 6), .int (E 7)].set 0 (.int v)))) H) : va_P D vwCl (ww 46 ad (cellC cI cR ad M (va_up E 0 v) P C N)) H := cs_of h rfl ce_off
theorem cs_E1 {v : Int32} (h : va_P D vwCl ((ww 46 ad (cellC cI cR ad M E P C N)).set 40 (ad 40, .inr (0, [.int (E 0), .int (E 1), .int (E 2), .int (E 3), .int (E 4), .int (E 5), .int (E 6), .int (E 7)].set 1 (.int v)))) H) : va_P D vwCl (ww 46 ad (cellC cI cR ad M (va_up E 1 v) P C N)) H := cs_of h rfl ce_off
theorem cs_E2 {v : Int32} (h : va_P D vwCl ((ww 46 ad (cellC cI cR ad M E P C N)).set 40 (ad 40, .inr (0, [.int (E 0), .int (E 1), .int (E 2), .int (E 3), .int (E 4), .int (E 5), .int (E 6), .int (E 7)].set 2 (.int v)))) H) : va_P D vwCl (ww 46 ad (cellC cI cR ad M (va_up E 2 v) P C N)) H := cs_of h rfl ce_off
theorem cs_E3 {v : Int32} (h : va_P D vwCl ((ww 46 ad (cellC cI cR ad M E P C N)).set 40 (ad 40, .inr (0, [.int (E 0), .int (E 1), .int (E 2), .int (E 3), .int (E 4), .int (E 5), .int (E 6), .int (E 7)].set 3 (.int v)))) H) : va_P D vwCl (ww 46 ad (cellC cI cR ad M (va_up E 3 v) P C N)) H := cs_of h rfl ce_off
theorem cs_E4 {v : Int32} (h : va_P D vwCl ((ww 46 ad (cellC cI cR ad M E P C N)).set 40 (ad 40, .inr (0, [.int (E 0), .int (E 1), .int (E 2), .int (E 3), .int (E 4), .int (E 5), .int (E 6), .int (E 7)].set 4 (.int v)))) H) : va_P D vwCl (ww 46 ad (cellC cI cR ad M (va_up E 4 v) P C N)) H := cs_of h rfl ce_off
theorem cs_E5 {v : Int32} (h : va_P D vwCl ((ww 46 ad (cellC cI cR ad M E P C N)).set 40 (ad 40, .inr (0, [.int (E 0), .int (E 1), .int (E 2), .int (E 3), .int (E 4), .int (E 5), .int (E 6), .int (E 7)].set 5 (.int v)))) H) : va_P D vwCl (ww 46 ad (cellC cI cR ad M (va_up E 5 v) P C N)) H := cs_of h rfl ce_off
theorem cs_E6 {v : Int32} (h : va_P D vwCl ((ww 46 ad (cellC cI cR ad M E P C N)).set 40 (ad 40, .inr (0, [.int (E 0), .int (E 1), .int (E 2), .int (E 3), .int (E 4), .int (E 5), .int (E 6), .int (E 7)].set 6 (.int v)))) H) : va_P D vwCl (ww 46 ad (cellC cI cR ad M (va_up E 6 v) P C N)) H := cs_of h rfl ce_off
theorem cs_E7 {v : Int32} (h : va_P D vwCl ((ww 46 ad (cellC cI cR ad M E P C N)).set 40 (ad 40, .inr (0, [.int (E 0), .int (E 1), .int (E 2), .int (E 3), .int (E 4), .int (E 5), .int (E 6), .int (E 7)].set 7 (.int v)))) H) : va_P D vwCl (ww 46 ad (cellC cI cR ad M (va_up E 7 v) P C N)) H := cs_of h rfl ce_off
theorem cs_N0 {v : Int32} (h : va_P D vwCl ((ww 46 ad (cellC cI cR ad M E P C N)).set 42 (ad 42, .inr (3, [.ref (ad 43), .ref (ad 44), .int (N 0), .int (N 1), .ref (ra ad 11), .ref (ra ad 12), .ref (ra ad 13), .ref (ra ad 14)].set 2 (.int v)))) H) : va_P D vwCl (ww 46 ad (cellC cI cR ad M E P C (va_up N 0 v))) H := cs_of h rfl cn_off
theorem cs_N1 {v : Int32} (h : va_P D vwCl ((ww 46 ad (cellC cI cR ad M E P C N)).set 42 (ad 42, .inr (3, [.ref (ad 43), .ref (ad 44), .int (N 0), .int (N 1), .ref (ra ad 11), .ref (ra ad 12), .ref (ra ad 13), .ref (ra ad 14)].set 3 (.int v)))) H) : va_P D vwCl (ww 46 ad (cellC cI cR ad M E P C (va_up N 1 v))) H := cs_of h rfl cn_off
end WC
/-- the words on nest mates' fields -/
def nw0 : List Cond := [.fieldLinkNest RX1 109 "NumberFieldFactors$Extension" "degree" "I" "NumberFieldFactors", .fieldLinkNest RX4 97 "NumberFieldFactors$Extension" "size" "I" "NumberFieldFactors", .fieldLinkNest RX1 81 "NumberFieldFactors$Extension" "size" "I" "NumberFieldFactors", .fieldLinkNest RX3 95 "NumberFieldFactors$Extension" "size" "I" "NumberFieldFactors", .fieldLinkNest RX1 117 "NumberFieldFactors$Extension" "t" "I" "NumberFieldFactors", .fieldLinkNest RX4 37 "NumberFieldFactors$Ring" "extension" "LNumberFieldFactors$Extension;" "NumberFieldFactors", .fieldLinkNest RX3 91 "NumberFieldFactors$Ring" "extension" "LNumberFieldFactors$Extension;" "NumberFieldFactors", .fieldLinkNest RX3 85 "NumberFieldFactors$Ring" "quotient" "LNumberFieldFactors$Row;" "NumberFieldFactors", .fieldLinkNest RX4 150 "NumberFieldFactors$Splitter" "count" "I" "NumberFieldFactors", .fieldLinkNest RX4 143 "NumberFieldFactors$Splitter" "root" "LNumberFieldFactors$Row;" "NumberFieldFactors"]
end
section
def f_X2_get (M : Fin 20 → Nat → Int32) (r0 : Fin 20) (p0 : Int32) : Option (Int32) :=
  if p0 < 0 then
    some 0
  else
    if 16 ≤ p0 then
      some 0
    else
      if p0 < 0 ∨ 16 ≤ (p0).toNatClampNeg then none else
      some (M r0 (p0).toNatClampNeg)
set_option maxHeartbeats 4000000 in
set_option maxRecDepth 100000 in
theorem C_X2_get (l : Launch) (D : va_G) (tys : List (ClassId × FieldType)) (nw : List Cond) (hn : nw.all nw_kind = true) (hnw : ∀ w ∈ nw0, w ∈ nw) {ad : Nat → Nat} (hj : ww_inj 46 ad) {cI : ClassId} {cR : ClassId} (htI : tys[0]? = some (cI, .int)) (htR : tys[1]? = some (cR, .object RX2)) {M : Fin 20 → Nat → Int32} {E : Nat → Int32} {P : Nat → Fin 20} {C : Nat → Int32} {N : Nat → Int32} {r0 : Fin 20} {p0 : Int32} {res : Int32} (hf : f_X2_get M r0 p0 = some res) :
    Met l yX2_get wsX2_get ({ frames := 0, cells := 0, slots := 0, locals := 0 }) (va_Pc [.ref (ra ad r0), .int p0] (ws_B D tys nw (ww 46 ad (cellC cI cR ad M E P C N)))) (ct_Q D (ww 46 ad (cellC cI cR ad M E P C N)) (ww_A 46 ad) (some (.int res))) 0 0 (ww_A 46 ad) := by
  refine Met.ofW (cc := cX2_get) (maxL := 2) (ret := (some .int)) (by decide) rfl ?_
  intro p e s m args below meth c s₁ B hml hv
  obtain ⟨rfl, hP, hK, hN⟩ := hv
  have hx := B.exec
  have hb := B.bytes
  have hr := B.returns
  have hts := atoms_spec (ws := wsX2_get) B.pre
  have hown : s.vm.findClass RX2 = some m.cls := findClass_of_methodNamed B.named
  have hlocks := B.notSynchronized
  have hS : va_S (ww_A 46 ad) s.heap s.heap [] := va_S.rf
  have hl := lv_entry ([.ref (ra ad r0), .int p0]) (n := 2) (Nat.le_of_ble_eq_true rfl)
  rw [lg_entry_eq]
  generalize (lg_sl ([.ref (ra ad r0), .int p0]) ++ List.replicate (2 - (lg_sl ([.ref (ra ad r0), .int p0])).length) Slot.unset).toArray = ls at hl ⊢
  have hl : lv_has ls 2 [(0, .ref (ra ad r0)), (1, .int p0)] := hl
  unfold f_X2_get at hf
  refine lv_iload_n hx hb dX2_get_0 rfl (lv_at hl 1 rfl) ?_
  refine lv_if_lt (tgt := 22) hx hb dX2_get_1 (by decide) (fun c1 => ?_) (fun c1 => ?_)
  · rw [if_pos c1] at hf
    refine lv_iconst (v := 0) hx hb dX2_get_22 (by decide) ?_
    obtain rfl := Option.some.inj hf
    exact W.iret (v := 0) hx hb hr (fun t ht hW => ⟨rfl, by rw [ht]; exact hP, hS.F ht⟩) hS.2.2 dX2_get_23
  · rw [if_neg c1] at hf
    refine lv_iload_n hx hb dX2_get_4 rfl (lv_at hl 1 rfl) ?_
    refine lv_aload_n hx hb dX2_get_5 rfl (lv_at hl 0 rfl) ?_
    refine va_get (ci := 2) (v := .ref (aa ad r0)) (C := RX2) (T := TX2) (N := 1) hx hb hts (by decide +kernel) hown hK hP (20 + (r0).val) (cc_row r0) rfl 0 (by decide) (hts (.fieldLink RX2 9 "NumberFieldFactors$Row" "elements" "[I") (by decide +kernel)) (fun _ h9 => h9) rfl dX2_get_6 ?_
    refine va_alen (v := 16) hx hb hK hP (r0).val 0 (cc_arr r0) htI rfl dX2_get_9 ?_
    refine lv_icmp_ge (tgt := 22) hx hb dX2_get_10 (by decide) (fun c2 => ?_) (fun c2 => ?_)
    · rw [if_pos c2] at hf
      refine lv_iconst (v := 0) hx hb dX2_get_22 (by decide) ?_
      obtain rfl := Option.some.inj hf
      exact W.iret (v := 0) hx hb hr (fun t ht hW => ⟨rfl, by rw [ht]; exact hP, hS.F ht⟩) hS.2.2 dX2_get_23
    · rw [if_neg c2] at hf
      refine lv_aload_n hx hb dX2_get_13 rfl (lv_at hl 0 rfl) ?_
      refine va_get (ci := 2) (v := .ref (aa ad r0)) (C := RX2) (T := TX2) (N := 1) hx hb hts (by decide +kernel) hown hK hP (20 + (r0).val) (cc_row r0) rfl 0 (by decide) (hts (.fieldLink RX2 9 "NumberFieldFactors$Row" "elements" "[I") (by decide +kernel)) (fun _ h9 => h9) rfl dX2_get_14 ?_
      refine lv_iload_n hx hb dX2_get_17 rfl (lv_at hl 1 rfl) ?_
      by_cases b3 : p0 < 0 ∨ 16 ≤ (p0).toNatClampNeg
      · rw [if_pos b3] at hf; cases hf
      rw [if_neg b3] at hf
      refine va_iald hx hb hK hP (r0).val 0 (cc_arr r0) htI b3 dX2_get_18 ?_
      refine lv_goto (tgt := 23) hx hb dX2_get_19 (by decide) ?_
      obtain rfl := Option.some.inj hf
      exact W.iret (v := M r0 (p0).toNatClampNeg) hx hb hr (fun t ht hW => ⟨rfl, by rw [ht]; exact hP, hS.F ht⟩) hS.2.2 dX2_get_23
def f_X2_set (M : Fin 20 → Nat → Int32) (r0 : Fin 20) (p0 : Int32) (p1 : Int32) : Option ((Fin 20 → Nat → Int32)) :=
  if p0 < 0 then
    some M
  else
    if 16 ≤ p0 then
      some M
    else
      if p0 < 0 ∨ 16 ≤ (p0).toNatClampNeg then none else
      some (fup M r0 (upd (M r0) (p0).toNatClampNeg p1))
set_option maxHeartbeats 4000000 in
set_option maxRecDepth 100000 in
theorem C_X2_set (l : Launch) (D : va_G) (tys : List (ClassId × FieldType)) (nw : List Cond) (hn : nw.all nw_kind = true) (hnw : ∀ w ∈ nw0, w ∈ nw) {ad : Nat → Nat} (hj : ww_inj 46 ad) {cI : ClassId} {cR : ClassId} (htI : tys[0]? = some (cI, .int)) (htR : tys[1]? = some (cR, .object RX2)) {M : Fin 20 → Nat → Int32} {E : Nat → Int32} {P : Nat → Fin 20} {C : Nat → Int32} {N : Nat → Int32} {r0 : Fin 20} {p0 : Int32} {p1 : Int32} {res : (Fin 20 → Nat → Int32)} (hf : f_X2_set M r0 p0 p1 = some res) :
    Met l yX2_set wsX2_set ({ frames := 0, cells := 0, slots := 0, locals := 0 }) (va_Pc [.ref (ra ad r0), .int p0, .int p1] (ws_B D tys nw (ww 46 ad (cellC cI cR ad M E P C N)))) (ct_Q D (ww 46 ad (cellC cI cR ad res E P C N)) (ww_A 46 ad) (none)) 0 0 (ww_A 46 ad) := by
  refine Met.ofW (cc := cX2_set) (maxL := 3) (ret := none) (by decide) rfl ?_
  intro p e s m args below meth c s₁ B hml hv
  obtain ⟨rfl, hP, hK, hN⟩ := hv
  have hx := B.exec
  have hb := B.bytes
  have hr := B.returns
  have hts := atoms_spec (ws := wsX2_set) B.pre
  have hown : s.vm.findClass RX2 = some m.cls := findClass_of_methodNamed B.named
  have hlocks := B.notSynchronized
  have hS : va_S (ww_A 46 ad) s.heap s.heap [] := va_S.rf
  have hl := lv_entry ([.ref (ra ad r0), .int p0, .int p1]) (n := 3) (Nat.le_of_ble_eq_true rfl)
  rw [lg_entry_eq]
  generalize (lg_sl ([.ref (ra ad r0), .int p0, .int p1]) ++ List.replicate (3 - (lg_sl ([.ref (ra ad r0), .int p0, .int p1])).length) Slot.unset).toArray = ls at hl ⊢
  have hl : lv_has ls 3 [(0, .ref (ra ad r0)), (1, .int p0), (2, .int p1)] := hl
  unfold f_X2_set at hf
  refine lv_iload_n hx hb dX2_set_0 rfl (lv_at hl 1 rfl) ?_
  refine lv_if_lt (tgt := 20) hx hb dX2_set_1 (by decide) (fun c1 => ?_) (fun c1 => ?_)
  · rw [if_pos c1] at hf
    obtain rfl := Option.some.inj hf
    exact W.vret hx hb hr (fun t ht hW => ⟨rfl, by rw [ht]; exact hP, hS.F ht⟩) hS.2.2 dX2_set_20
  · rw [if_neg c1] at hf
    refine lv_iload_n hx hb dX2_set_4 rfl (lv_at hl 1 rfl) ?_
    refine lv_aload_n hx hb dX2_set_5 rfl (lv_at hl 0 rfl) ?_
    refine va_get (ci := 2) (v := .ref (aa ad r0)) (C := RX2) (T := TX2) (N := 1) hx hb hts (by decide +kernel) hown hK hP (20 + (r0).val) (cc_row r0) rfl 0 (by decide) (hts (.fieldLink RX2 9 "NumberFieldFactors$Row" "elements" "[I") (by decide +kernel)) (fun _ h9 => h9) rfl dX2_set_6 ?_
    refine va_alen (v := 16) hx hb hK hP (r0).val 0 (cc_arr r0) htI rfl dX2_set_9 ?_
    refine lv_icmp_ge (tgt := 20) hx hb dX2_set_10 (by decide) (fun c2 => ?_) (fun c2 => ?_)
    · rw [if_pos c2] at hf
      obtain rfl := Option.some.inj hf
      exact W.vret hx hb hr (fun t ht hW => ⟨rfl, by rw [ht]; exact hP, hS.F ht⟩) hS.2.2 dX2_set_20
    · rw [if_neg c2] at hf
      refine lv_aload_n hx hb dX2_set_13 rfl (lv_at hl 0 rfl) ?_
      refine va_get (ci := 2) (v := .ref (aa ad r0)) (C := RX2) (T := TX2) (N := 1) hx hb hts (by decide +kernel) hown hK hP (20 + (r0).val) (cc_row r0) rfl 0 (by decide) (hts (.fieldLink RX2 9 "NumberFieldFactors$Row" "elements" "[I") (by decide +kernel)) (fun _ h9 => h9) rfl dX2_set_14 ?_
      refine lv_iload_n hx hb dX2_set_17 rfl (lv_at hl 1 rfl) ?_
      refine lv_iload_n hx hb dX2_set_18 rfl (lv_at hl 2 rfl) ?_
      by_cases b3 : p0 < 0 ∨ 16 ≤ (p0).toNatClampNeg
      · rw [if_pos b3] at hf; cases hf
      rw [if_neg b3] at hf
      refine va_iast hx hb hK hP (ww_D hj) hS (r0).val 0 (cc_arr r0) htI b3 dX2_set_19 (fun H locs hP hD hS => ?_)
      have hP := cs_M r0 hP
      obtain rfl := Option.some.inj hf
      exact W.vret hx hb hr (fun t ht hW => ⟨rfl, by rw [ht]; exact hP, hS.F ht⟩) hS.2.2 dX2_set_20
def f_X2_degree_l8 (k8 : Int32 → Option (Int32)) (fu : Nat) (M : Fin 20 → Nat → Int32) (x0 : Fin 20) : Nat → Int32 → Option (Int32)
  | 0, _ => none
  | n + 1, x1 =>
    if x1 < 0 then
      k8 x1
    else
      if x1 < 0 ∨ 16 ≤ (x1).toNatClampNeg then none else
      if (M x0 (x1).toNatClampNeg) = 0 then
        f_X2_degree_l8 k8 fu M x0 n (x1 + (-1))
      else
        k8 x1
def f_X2_degree (fu : Nat) (M : Fin 20 → Nat → Int32) (r0 : Fin 20) : Option (Int32) :=
  f_X2_degree_l8 (fun y4 =>
    some y4) fu M r0 fu (16 - 1)
set_option maxHeartbeats 4000000 in
set_option maxRecDepth 100000 in
theorem C_X2_degree (l : Launch) (D : va_G) (tys : List (ClassId × FieldType)) (nw : List Cond) (hn : nw.all nw_kind = true) (hnw : ∀ w ∈ nw0, w ∈ nw) {ad : Nat → Nat} (hj : ww_inj 46 ad) {cI : ClassId} {cR : ClassId} (htI : tys[0]? = some (cI, .int)) (htR : tys[1]? = some (cR, .object RX2)) {fu : Nat} {M : Fin 20 → Nat → Int32} {E : Nat → Int32} {P : Nat → Fin 20} {C : Nat → Int32} {N : Nat → Int32} {r0 : Fin 20} {res : Int32} (hf : f_X2_degree fu M r0 = some res) :
    Met l yX2_degree wsX2_degree ({ frames := 0, cells := 0, slots := 0, locals := 0 }) (va_Pc [.ref (ra ad r0)] (ws_B D tys nw (ww 46 ad (cellC cI cR ad M E P C N)))) (ct_Q D (ww 46 ad (cellC cI cR ad M E P C N)) (ww_A 46 ad) (some (.int res))) 0 0 (ww_A 46 ad) := by
  refine Met.ofW (cc := cX2_degree) (maxL := 2) (ret := (some .int)) (by decide) rfl ?_
  intro p e s m args below meth c s₁ B hml hv
  obtain ⟨rfl, hP, hK, hN⟩ := hv
  have hx := B.exec
  have hb := B.bytes
  have hr := B.returns
  have hts := atoms_spec (ws := wsX2_degree) B.pre
  have hown : s.vm.findClass RX2 = some m.cls := findClass_of_methodNamed B.named
  have hlocks := B.notSynchronized
  have hS : va_S (ww_A 46 ad) s.heap s.heap [] := va_S.rf
  have hl := lv_entry ([.ref (ra ad r0)]) (n := 2) (Nat.le_of_ble_eq_true rfl)
  rw [lg_entry_eq]
  generalize (lg_sl ([.ref (ra ad r0)]) ++ List.replicate (2 - (lg_sl ([.ref (ra ad r0)])).length) Slot.unset).toArray = ls at hl ⊢
  have hl : lv_has ls 2 [(0, .ref (ra ad r0))] := hl
  have L8 : ∀ (x0 : Fin 20) (k8 : Int32 → Option (Int32)), (∀ (x1 : Int32) (H : Heap) (locs : List Loc) (ls : Array Slot), va_P D vwCl (ww 46 ad (cellC cI cR ad M E P C N)) H → va_S (ww_A 46 ad) s.heap H locs → lv_has ls 2 [(0, .ref (ra ad x0)), (1, .int x1)] →  k8 x1 = some res → W p l e (headSpec wsX2_degree { frames := 0, cells := 0, slots := 0, locals := 0 }).room s m [.ref (ra ad r0)].toArray below meth c H locs 0 0 (MQ below (ct_Q D (ww 46 ad (cellC cI cR ad M E P C N)) (ww_A 46 ad) (some (.int res))) [.ref (ra ad r0)].toArray s 0 0 (ww_A 46 ad)) (F0 m 27 ls [])) → ∀ (n : Nat) (x1 : Int32) (H : Heap) (locs : List Loc) (ls : Array Slot), va_P D vwCl (ww 46 ad (cellC cI cR ad M E P C N)) H → va_S (ww_A 46 ad) s.heap H locs → lv_has ls 2 [(0, .ref (ra ad x0)), (1, .int x1)] →  f_X2_degree_l8 k8 fu M x0 n x1 = some res → W p l e (headSpec wsX2_degree { frames := 0, cells := 0, slots := 0, locals := 0 }).room s m [.ref (ra ad r0)].toArray below meth c H locs 0 0 (MQ below (ct_Q D (ww 46 ad (cellC cI cR ad M E P C N)) (ww_A 46 ad) (some (.int res))) [.ref (ra ad r0)].toArray s 0 0 (ww_A 46 ad)) (F0 m 8 ls []) := by
    intro x0 k8 hk_8 n
    induction n with
    | zero => intro x1 H locs ls hP hS hl hf; rw [f_X2_degree_l8] at hf; cases hf
    | succ n ih =>
      intro x1 H locs ls hP hS hl hf
      rw [f_X2_degree_l8] at hf
      refine lv_iload_n hx hb dX2_degree_8 rfl (lv_at hl 1 rfl) ?_
      refine lv_if_lt (tgt := 27) hx hb dX2_degree_9 (by decide) (fun c1 => ?_) (fun c1 => ?_)
      · rw [if_pos c1] at hf
        exact hk_8 x1 _ _ _ hP hS (lv_sub hl [0, 1] rfl) hf
      · rw [if_neg c1] at hf
        refine lv_aload_n hx hb dX2_degree_12 rfl (lv_at hl 0 rfl) ?_
        refine va_get (ci := 2) (v := .ref (aa ad x0)) (C := RX2) (T := TX2) (N := 1) hx hb hts (by decide +kernel) hown hK hP (20 + (x0).val) (cc_row x0) rfl 0 (by decide) (hts (.fieldLink RX2 9 "NumberFieldFactors$Row" "elements" "[I") (by decide +kernel)) (fun _ h9 => h9) rfl dX2_degree_13 ?_
        refine lv_iload_n hx hb dX2_degree_16 rfl (lv_at hl 1 rfl) ?_
        by_cases b2 : x1 < 0 ∨ 16 ≤ (x1).toNatClampNeg
        · rw [if_pos b2] at hf; cases hf
        rw [if_neg b2] at hf
        refine va_iald hx hb hK hP (x0).val 0 (cc_arr x0) htI b2 dX2_degree_17 ?_
        refine lv_if_ne (tgt := 27) hx hb dX2_degree_18 (by decide) (fun c3 => ?_) (fun c3 => ?_)
        · rw [if_neg c3] at hf
          exact hk_8 x1 _ _ _ hP hS (lv_sub hl [0, 1] rfl) hf
        · rw [if_pos c3] at hf
          refine lv_iinc (v := x1 + (-1)) (lv' := [(1, .int (x1 + (-1))), (0, .ref (ra ad x0))]) hx hb dX2_degree_21 hl (k := 1) rfl rfl (by decide) rfl (fun ls hl => ?_)
          refine lv_goto (tgt := 8) hx hb dX2_degree_24 (by decide) ?_
          exact ih (x1 + (-1)) _ _ _ hP hS (lv_sub hl [1, 0] rfl) hf
  unfold f_X2_degree at hf
  refine lv_aload_n hx hb dX2_degree_0 rfl (lv_at hl 0 rfl) ?_
  refine va_get (ci := 2) (v := .ref (aa ad r0)) (C := RX2) (T := TX2) (N := 1) hx hb hts (by decide +kernel) hown hK hP (20 + (r0).val) (cc_row r0) rfl 0 (by decide) (hts (.fieldLink RX2 9 "NumberFieldFactors$Row" "elements" "[I") (by decide +kernel)) (fun _ h9 => h9) rfl dX2_degree_1 ?_
  refine va_alen (v := 16) hx hb hK hP (r0).val 0 (cc_arr r0) htI rfl dX2_degree_4 ?_
  refine lv_iconst (v := 1) hx hb dX2_degree_5 (by decide) ?_
  refine lv_isub hx hb dX2_degree_6 ?_
  refine lv_istore_n (lv' := [(1, .int (16 - 1)), (0, .ref (ra ad r0))]) hx hb dX2_degree_7 rfl hl (by decide) rfl (fun ls hl => ?_)
  refine L8 r0 _ (fun y4 H locs ls hP hS hl hf => ?_) fu (16 - 1) _ _ _ hP hS (lv_sub hl [1, 0] rfl) hf
  try dsimp only at hf
  refine lv_iload_n hx hb dX2_degree_27 rfl (lv_at hl 1 rfl) ?_
  obtain rfl := Option.some.inj hf
  exact W.iret (v := y4) hx hb hr (fun t ht hW => ⟨rfl, by rw [ht]; exact hP, hS.F ht⟩) hS.2.2 dX2_degree_28
def f_X2_clear_l2 (k2 : Int32 → (Fin 20 → Nat → Int32) → Option ((Fin 20 → Nat → Int32))) (fu : Nat) (x0 : Fin 20) : Nat → Int32 → (Fin 20 → Nat → Int32) → Option ((Fin 20 → Nat → Int32))
  | 0, _, _ => none
  | n + 1, x1, M =>
    if 16 ≤ x1 then
      k2 x1 M
    else
      if x1 < 0 ∨ 16 ≤ (x1).toNatClampNeg then none else
      f_X2_clear_l2 k2 fu x0 n (x1 + 1) (fup M x0 (upd (M x0) (x1).toNatClampNeg 0))
def f_X2_clear (fu : Nat) (M : Fin 20 → Nat → Int32) (r0 : Fin 20) : Option ((Fin 20 → Nat → Int32)) :=
  f_X2_clear_l2 (fun y3 M4 =>
    some M4) fu r0 fu 0 M
set_option maxHeartbeats 4000000 in
set_option maxRecDepth 100000 in
theorem C_X2_clear (l : Launch) (D : va_G) (tys : List (ClassId × FieldType)) (nw : List Cond) (hn : nw.all nw_kind = true) (hnw : ∀ w ∈ nw0, w ∈ nw) {ad : Nat → Nat} (hj : ww_inj 46 ad) {cI : ClassId} {cR : ClassId} (htI : tys[0]? = some (cI, .int)) (htR : tys[1]? = some (cR, .object RX2)) {fu : Nat} {M : Fin 20 → Nat → Int32} {E : Nat → Int32} {P : Nat → Fin 20} {C : Nat → Int32} {N : Nat → Int32} {r0 : Fin 20} {res : (Fin 20 → Nat → Int32)} (hf : f_X2_clear fu M r0 = some res) :
    Met l yX2_clear wsX2_clear ({ frames := 0, cells := 0, slots := 0, locals := 0 }) (va_Pc [.ref (ra ad r0)] (ws_B D tys nw (ww 46 ad (cellC cI cR ad M E P C N)))) (ct_Q D (ww 46 ad (cellC cI cR ad res E P C N)) (ww_A 46 ad) (none)) 0 0 (ww_A 46 ad) := by
  refine Met.ofW (cc := cX2_clear) (maxL := 2) (ret := none) (by decide) rfl ?_
  intro p e s m args below meth c s₁ B hml hv
  obtain ⟨rfl, hP, hK, hN⟩ := hv
  have hx := B.exec
  have hb := B.bytes
  have hr := B.returns
  have hts := atoms_spec (ws := wsX2_clear) B.pre
  have hown : s.vm.findClass RX2 = some m.cls := findClass_of_methodNamed B.named
  have hlocks := B.notSynchronized
  have hS : va_S (ww_A 46 ad) s.heap s.heap [] := va_S.rf
  have hl := lv_entry ([.ref (ra ad r0)]) (n := 2) (Nat.le_of_ble_eq_true rfl)
  rw [lg_entry_eq]
  generalize (lg_sl ([.ref (ra ad r0)]) ++ List.replicate (2 - (lg_sl ([.ref (ra ad r0)])).length) Slot.unset).toArray = ls at hl ⊢
  have hl : lv_has ls 2 [(0, .ref (ra ad r0))] := hl
  have L2 : ∀ (x0 : Fin 20) (k2 : Int32 → (Fin 20 → Nat → Int32) → Option ((Fin 20 → Nat → Int32))), (∀ (x1 : Int32) (M : Fin 20 → Nat → Int32) (H : Heap) (locs : List Loc) (ls : Array Slot), va_P D vwCl (ww 46 ad (cellC cI cR ad M E P C N)) H → va_S (ww_A 46 ad) s.heap H locs → lv_has ls 2 [(0, .ref (ra ad x0)), (1, .int x1)] →  k2 x1 M = some res → W p l e (headSpec wsX2_clear { frames := 0, cells := 0, slots := 0, locals := 0 }).room s m [.ref (ra ad r0)].toArray below meth c H locs 0 0 (MQ below (ct_Q D (ww 46 ad (cellC cI cR ad res E P C N)) (ww_A 46 ad) (none)) [.ref (ra ad r0)].toArray s 0 0 (ww_A 46 ad)) (F0 m 24 ls [])) → ∀ (n : Nat) (x1 : Int32) (M : Fin 20 → Nat → Int32) (H : Heap) (locs : List Loc) (ls : Array Slot), va_P D vwCl (ww 46 ad (cellC cI cR ad M E P C N)) H → va_S (ww_A 46 ad) s.heap H locs → lv_has ls 2 [(0, .ref (ra ad x0)), (1, .int x1)] →  f_X2_clear_l2 k2 fu x0 n x1 M = some res → W p l e (headSpec wsX2_clear { frames := 0, cells := 0, slots := 0, locals := 0 }).room s m [.ref (ra ad r0)].toArray below meth c H locs 0 0 (MQ below (ct_Q D (ww 46 ad (cellC cI cR ad res E P C N)) (ww_A 46 ad) (none)) [.ref (ra ad r0)].toArray s 0 0 (ww_A 46 ad)) (F0 m 2 ls []) := by
    intro x0 k2 hk_2 n
    induction n with
    | zero => intro x1 M H locs ls hP hS hl hf; rw [f_X2_clear_l2] at hf; cases hf
    | succ n ih =>
      intro x1 M H locs ls hP hS hl hf
      rw [f_X2_clear_l2] at hf
      refine lv_iload_n hx hb dX2_clear_2 rfl (lv_at hl 1 rfl) ?_
      refine lv_aload_n hx hb dX2_clear_3 rfl (lv_at hl 0 rfl) ?_
      refine va_get (ci := 2) (v := .ref (aa ad x0)) (C := RX2) (T := TX2) (N := 1) hx hb hts (by decide +kernel) hown hK hP (20 + (x0).val) (cc_row x0) rfl 0 (by decide) (hts (.fieldLink RX2 9 "NumberFieldFactors$Row" "elements" "[I") (by decide +kernel)) (fun _ h9 => h9) rfl dX2_clear_4 ?_
      refine va_alen (v := 16) hx hb hK hP (x0).val 0 (cc_arr x0) htI rfl dX2_clear_7 ?_
      refine lv_icmp_ge (tgt := 24) hx hb dX2_clear_8 (by decide) (fun c1 => ?_) (fun c1 => ?_)
      · rw [if_pos c1] at hf
        exact hk_2 x1 M _ _ _ hP hS (lv_sub hl [0, 1] rfl) hf
      · rw [if_neg c1] at hf
        refine lv_aload_n hx hb dX2_clear_11 rfl (lv_at hl 0 rfl) ?_
        refine va_get (ci := 2) (v := .ref (aa ad x0)) (C := RX2) (T := TX2) (N := 1) hx hb hts (by decide +kernel) hown hK hP (20 + (x0).val) (cc_row x0) rfl 0 (by decide) (hts (.fieldLink RX2 9 "NumberFieldFactors$Row" "elements" "[I") (by decide +kernel)) (fun _ h9 => h9) rfl dX2_clear_12 ?_
        refine lv_iload_n hx hb dX2_clear_15 rfl (lv_at hl 1 rfl) ?_
        refine lv_iconst (v := 0) hx hb dX2_clear_16 (by decide) ?_
        by_cases b2 : x1 < 0 ∨ 16 ≤ (x1).toNatClampNeg
        · rw [if_pos b2] at hf; cases hf
        rw [if_neg b2] at hf
        refine va_iast hx hb hK hP (ww_D hj) hS (x0).val 0 (cc_arr x0) htI b2 dX2_clear_17 (fun H locs hP hD hS => ?_)
        have hP := cs_M x0 hP
        refine lv_iinc (v := x1 + 1) (lv' := [(1, .int (x1 + 1)), (0, .ref (ra ad x0))]) hx hb dX2_clear_18 hl (k := 1) rfl rfl (by decide) rfl (fun ls hl => ?_)
        refine lv_goto (tgt := 2) hx hb dX2_clear_21 (by decide) ?_
        exact ih (x1 + 1) (fup M x0 (upd (M x0) (x1).toNatClampNeg 0)) _ _ _ hP hS (lv_sub hl [1, 0] rfl) hf
  unfold f_X2_clear at hf
  refine lv_iconst (v := 0) hx hb dX2_clear_0 (by decide) ?_
  refine lv_istore_n (lv' := [(1, .int 0), (0, .ref (ra ad r0))]) hx hb dX2_clear_1 rfl hl (by decide) rfl (fun ls hl => ?_)
  refine L2 r0 _ (fun y3 M4 H locs ls hP hS hl hf => ?_) fu 0 M _ _ _ hP hS (lv_sub hl [1, 0] rfl) hf
  try dsimp only at hf
  obtain rfl := Option.some.inj hf
  exact W.vret hx hb hr (fun t ht hW => ⟨rfl, by rw [ht]; exact hP, hS.F ht⟩) hS.2.2 dX2_clear_24
def f_X2_copy_l2 (k2 : Int32 → (Fin 20 → Nat → Int32) → Option ((Fin 20 → Nat → Int32))) (fu : Nat) (x0 : Fin 20) (x1 : Fin 20) : Nat → Int32 → (Fin 20 → Nat → Int32) → Option ((Fin 20 → Nat → Int32))
  | 0, _, _ => none
  | n + 1, x2, M =>
    if 16 ≤ x2 then
      k2 x2 M
    else
      (f_X2_get M x1 x2).bind (fun u2 =>
      if x2 < 0 ∨ 16 ≤ (x2).toNatClampNeg then none else
      f_X2_copy_l2 k2 fu x0 x1 n (x2 + 1) (fup M x0 (upd (M x0) (x2).toNatClampNeg u2)))
def f_X2_copy (fu : Nat) (M : Fin 20 → Nat → Int32) (r0 : Fin 20) (p0 : Fin 20) : Option ((Fin 20 → Nat → Int32)) :=
  f_X2_copy_l2 (fun y5 M6 =>
    some M6) fu r0 p0 fu 0 M
set_option maxHeartbeats 4000000 in
set_option maxRecDepth 100000 in
theorem C_X2_copy (l : Launch) (D : va_G) (tys : List (ClassId × FieldType)) (nw : List Cond) (hn : nw.all nw_kind = true) (hnw : ∀ w ∈ nw0, w ∈ nw) {ad : Nat → Nat} (hj : ww_inj 46 ad) {cI : ClassId} {cR : ClassId} (htI : tys[0]? = some (cI, .int)) (htR : tys[1]? = some (cR, .object RX2)) {fu : Nat} {M : Fin 20 → Nat → Int32} {E : Nat → Int32} {P : Nat → Fin 20} {C : Nat → Int32} {N : Nat → Int32} {r0 : Fin 20} {p0 : Fin 20} {res : (Fin 20 → Nat → Int32)} (hf : f_X2_copy fu M r0 p0 = some res) :
    Met l yX2_copy wsX2_copy ({ frames := 1, cells := 0, slots := 0, locals := 21 }) (va_Pc [.ref (ra ad r0), .ref (ra ad p0)] (ws_B D tys nw (ww 46 ad (cellC cI cR ad M E P C N)))) (ct_Q D (ww 46 ad (cellC cI cR ad res E P C N)) (ww_A 46 ad) (none)) 0 0 (ww_A 46 ad) := by
  refine Met.ofW (cc := cX2_copy) (maxL := 3) (ret := none) (by decide) rfl ?_
  intro p e s m args below meth c s₁ B hml hv
  obtain ⟨rfl, hP, hK, hN⟩ := hv
  have hx := B.exec
  have hb := B.bytes
  have hr := B.returns
  have hts := atoms_spec (ws := wsX2_copy) B.pre
  have hown : s.vm.findClass RX2 = some m.cls := findClass_of_methodNamed B.named
  have hlocks := B.notSynchronized
  have hS : va_S (ww_A 46 ad) s.heap s.heap [] := va_S.rf
  have hl := lv_entry ([.ref (ra ad r0), .ref (ra ad p0)]) (n := 3) (Nat.le_of_ble_eq_true rfl)
  rw [lg_entry_eq]
  generalize (lg_sl ([.ref (ra ad r0), .ref (ra ad p0)]) ++ List.replicate (3 - (lg_sl ([.ref (ra ad r0), .ref (ra ad p0)])).length) Slot.unset).toArray = ls at hl ⊢
  have hl : lv_has ls 3 [(0, .ref (ra ad r0)), (1, .ref (ra ad p0))] := hl
  have L2 : ∀ (x0 : Fin 20) (x1 : Fin 20) (k2 : Int32 → (Fin 20 → Nat → Int32) → Option ((Fin 20 → Nat → Int32))), (∀ (x2 : Int32) (M : Fin 20 → Nat → Int32) (H : Heap) (locs : List Loc) (ls : Array Slot), va_P D vwCl (ww 46 ad (cellC cI cR ad M E P C N)) H → va_S (ww_A 46 ad) s.heap H locs → lv_has ls 3 [(0, .ref (ra ad x0)), (1, .ref (ra ad x1)), (2, .int x2)] →  k2 x2 M = some res → W p l e (headSpec wsX2_copy { frames := 1, cells := 0, slots := 0, locals := 21 }).room s m [.ref (ra ad r0), .ref (ra ad p0)].toArray below meth c H locs 0 0 (MQ below (ct_Q D (ww 46 ad (cellC cI cR ad res E P C N)) (ww_A 46 ad) (none)) [.ref (ra ad r0), .ref (ra ad p0)].toArray s 0 0 (ww_A 46 ad)) (F0 m 28 ls [])) → ∀ (n : Nat) (x2 : Int32) (M : Fin 20 → Nat → Int32) (H : Heap) (locs : List Loc) (ls : Array Slot), va_P D vwCl (ww 46 ad (cellC cI cR ad M E P C N)) H → va_S (ww_A 46 ad) s.heap H locs → lv_has ls 3 [(0, .ref (ra ad x0)), (1, .ref (ra ad x1)), (2, .int x2)] →  f_X2_copy_l2 k2 fu x0 x1 n x2 M = some res → W p l e (headSpec wsX2_copy { frames := 1, cells := 0, slots := 0, locals := 21 }).room s m [.ref (ra ad r0), .ref (ra ad p0)].toArray below meth c H locs 0 0 (MQ below (ct_Q D (ww 46 ad (cellC cI cR ad res E P C N)) (ww_A 46 ad) (none)) [.ref (ra ad r0), .ref (ra ad p0)].toArray s 0 0 (ww_A 46 ad)) (F0 m 2 ls []) := by
    intro x0 x1 k2 hk_2 n
    induction n with
    | zero => intro x2 M H locs ls hP hS hl hf; rw [f_X2_copy_l2] at hf; cases hf
    | succ n ih =>
      intro x2 M H locs ls hP hS hl hf
      rw [f_X2_copy_l2] at hf
      refine lv_iload_n hx hb dX2_copy_2 rfl (lv_at hl 2 rfl) ?_
      refine lv_aload_n hx hb dX2_copy_3 rfl (lv_at hl 0 rfl) ?_
      refine va_get (ci := 2) (v := .ref (aa ad x0)) (C := RX2) (T := TX2) (N := 1) hx hb hts (by decide +kernel) hown hK hP (20 + (x0).val) (cc_row x0) rfl 0 (by decide) (hts (.fieldLink RX2 9 "NumberFieldFactors$Row" "elements" "[I") (by decide +kernel)) (fun _ h9 => h9) rfl dX2_copy_4 ?_
      refine va_alen (v := 16) hx hb hK hP (x0).val 0 (cc_arr x0) htI rfl dX2_copy_7 ?_
      refine lv_icmp_ge (tgt := 28) hx hb dX2_copy_8 (by decide) (fun c1 => ?_) (fun c1 => ?_)
      · rw [if_pos c1] at hf
        exact hk_2 x2 M _ _ _ hP hS (lv_sub hl [0, 1, 2] rfl) hf
      · rw [if_neg c1] at hf
        refine lv_aload_n hx hb dX2_copy_11 rfl (lv_at hl 0 rfl) ?_
        refine va_get (ci := 2) (v := .ref (aa ad x0)) (C := RX2) (T := TX2) (N := 1) hx hb hts (by decide +kernel) hown hK hP (20 + (x0).val) (cc_row x0) rfl 0 (by decide) (hts (.fieldLink RX2 9 "NumberFieldFactors$Row" "elements" "[I") (by decide +kernel)) (fun _ h9 => h9) rfl dX2_copy_12 ?_
        refine lv_iload_n hx hb dX2_copy_15 rfl (lv_at hl 2 rfl) ?_
        refine lv_aload_n hx hb dX2_copy_16 rfl (lv_at hl 1 rfl) ?_
        refine lv_iload_n hx hb dX2_copy_17 rfl (lv_at hl 2 rfl) ?_
        obtain ⟨u2, g3, hf⟩ := Option.bind_eq_some_iff.mp hf
        try dsimp only at hf
        refine ct_call (va_runV (As := [.int x2]) (rest := [.int x2, .ref (aa ad x0)]) ⟨hx, hb, hml, hown, hts⟩ (C_X2_get l D tys nw hn hnw hj htI htR (res := u2) g3) (cwV 1 hts gX2_copy_X2_get rfl rfl rfl (by decide +kernel) ⟨Nat.le_of_ble_eq_true rfl, Nat.le_of_ble_eq_true rfl⟩) (ct_preV hn hP hK hN (ci := 2) (k := (20 + (x1).val)) rfl (ra_lt x1) (cl_row x1)) rfl rfl hl.1 rfl (lv_room (Nat.le_of_ble_eq_true rfl)) dX2_copy_18 ⟨Nat.zero_le _, Nat.zero_le _⟩) hS (fun H locs hP hS => ?_)
        by_cases b4 : x2 < 0 ∨ 16 ≤ (x2).toNatClampNeg
        · rw [if_pos b4] at hf; cases hf
        rw [if_neg b4] at hf
        refine va_iast hx hb hK hP (ww_D hj) hS (x0).val 0 (cc_arr x0) htI b4 dX2_copy_21 (fun H locs hP hD hS => ?_)
        have hP := cs_M x0 hP
        refine lv_iinc (v := x2 + 1) (lv' := [(2, .int (x2 + 1)), (0, .ref (ra ad x0)), (1, .ref (ra ad x1))]) hx hb dX2_copy_22 hl (k := 2) rfl rfl (by decide) rfl (fun ls hl => ?_)
        refine lv_goto (tgt := 2) hx hb dX2_copy_25 (by decide) ?_
        exact ih (x2 + 1) (fup M x0 (upd (M x0) (x2).toNatClampNeg u2)) _ _ _ hP hS (lv_sub hl [1, 2, 0] rfl) hf
  unfold f_X2_copy at hf
  refine lv_iconst (v := 0) hx hb dX2_copy_0 (by decide) ?_
  refine lv_istore_n (lv' := [(2, .int 0), (0, .ref (ra ad r0)), (1, .ref (ra ad p0))]) hx hb dX2_copy_1 rfl hl (by decide) rfl (fun ls hl => ?_)
  refine L2 r0 p0 _ (fun y5 M6 H locs ls hP hS hl hf => ?_) fu 0 M _ _ _ hP hS (lv_sub hl [1, 2, 0] rfl) hf
  try dsimp only at hf
  obtain rfl := Option.some.inj hf
  exact W.vret hx hb hr (fun t ht hW => ⟨rfl, by rw [ht]; exact hP, hS.F ht⟩) hS.2.2 dX2_copy_28
def f_X2_becomeOne (fu : Nat) (M : Fin 20 → Nat → Int32) (r0 : Fin 20) : Option ((Fin 20 → Nat → Int32)) :=
  (f_X2_clear fu M r0).bind (fun u1 =>
  (f_X2_set u1 r0 0 1).bind (fun u3 =>
  some u3))
set_option maxHeartbeats 4000000 in
set_option maxRecDepth 100000 in
theorem C_X2_becomeOne (l : Launch) (D : va_G) (tys : List (ClassId × FieldType)) (nw : List Cond) (hn : nw.all nw_kind = true) (hnw : ∀ w ∈ nw0, w ∈ nw) {ad : Nat → Nat} (hj : ww_inj 46 ad) {cI : ClassId} {cR : ClassId} (htI : tys[0]? = some (cI, .int)) (htR : tys[1]? = some (cR, .object RX2)) {fu : Nat} {M : Fin 20 → Nat → Int32} {E : Nat → Int32} {P : Nat → Fin 20} {C : Nat → Int32} {N : Nat → Int32} {r0 : Fin 20} {res : (Fin 20 → Nat → Int32)} (hf : f_X2_becomeOne fu M r0 = some res) :
    Met l yX2_becomeOne wsX2_becomeOne ({ frames := 1, cells := 0, slots := 0, locals := 22 }) (va_Pc [.ref (ra ad r0)] (ws_B D tys nw (ww 46 ad (cellC cI cR ad M E P C N)))) (ct_Q D (ww 46 ad (cellC cI cR ad res E P C N)) (ww_A 46 ad) (none)) 0 0 (ww_A 46 ad) := by
  refine Met.ofW (cc := cX2_becomeOne) (maxL := 1) (ret := none) (by decide) rfl ?_
  intro p e s m args below meth c s₁ B hml hv
  obtain ⟨rfl, hP, hK, hN⟩ := hv
  have hx := B.exec
  have hb := B.bytes
  have hr := B.returns
  have hts := atoms_spec (ws := wsX2_becomeOne) B.pre
  have hown : s.vm.findClass RX2 = some m.cls := findClass_of_methodNamed B.named
  have hlocks := B.notSynchronized
  have hS : va_S (ww_A 46 ad) s.heap s.heap [] := va_S.rf
  have hl := lv_entry ([.ref (ra ad r0)]) (n := 1) (Nat.le_of_ble_eq_true rfl)
  rw [lg_entry_eq]
  generalize (lg_sl ([.ref (ra ad r0)]) ++ List.replicate (1 - (lg_sl ([.ref (ra ad r0)])).length) Slot.unset).toArray = ls at hl ⊢
  have hl : lv_has ls 1 [(0, .ref (ra ad r0))] := hl
  unfold f_X2_becomeOne at hf
  refine lv_aload_n hx hb dX2_becomeOne_0 rfl (lv_at hl 0 rfl) ?_
  obtain ⟨u1, g2, hf⟩ := Option.bind_eq_some_iff.mp hf
  try dsimp only at hf
  refine ct_call (va_runV (As := []) (rest := []) ⟨hx, hb, hml, hown, hts⟩ (C_X2_clear l D tys nw hn hnw hj htI htR (res := u1) g2) (cwV 0 hts gX2_becomeOne_X2_clear rfl rfl rfl (by decide +kernel) ⟨Nat.le_of_ble_eq_true rfl, Nat.le_of_ble_eq_true rfl⟩) (ct_preV hn hP hK hN (ci := 2) (k := (20 + (r0).val)) rfl (ra_lt r0) (cl_row r0)) rfl rfl hl.1 rfl (lv_room (Nat.le_of_ble_eq_true rfl)) dX2_becomeOne_1 ⟨Nat.zero_le _, Nat.zero_le _⟩) hS (fun H locs hP hS => ?_)
  refine lv_aload_n hx hb dX2_becomeOne_4 rfl (lv_at hl 0 rfl) ?_
  refine lv_iconst (v := 0) hx hb dX2_becomeOne_5 (by decide) ?_
  refine lv_iconst (v := 1) hx hb dX2_becomeOne_6 (by decide) ?_
  obtain ⟨u3, g4, hf⟩ := Option.bind_eq_some_iff.mp hf
  try dsimp only at hf
  refine ct_call (va_runV (As := [.int 0, .int 1]) (rest := []) ⟨hx, hb, hml, hown, hts⟩ (C_X2_set l D tys nw hn hnw hj htI htR (res := u3) g4) (cwV 2 hts gX2_becomeOne_X2_set rfl rfl rfl (by decide +kernel) ⟨Nat.le_of_ble_eq_true rfl, Nat.le_of_ble_eq_true rfl⟩) (ct_preV hn hP hK hN (ci := 2) (k := (20 + (r0).val)) rfl (ra_lt r0) (cl_row r0)) rfl rfl hl.1 rfl (lv_room (Nat.le_of_ble_eq_true rfl)) dX2_becomeOne_7 ⟨Nat.zero_le _, Nat.zero_le _⟩) hS (fun H locs hP hS => ?_)
  obtain rfl := Option.some.inj hf
  exact W.vret hx hb hr (fun t ht hW => ⟨rfl, by rw [ht]; exact hP, hS.F ht⟩) hS.2.2 dX2_becomeOne_10
def f_X2_isBefore_l29 (k29 : Int32 → Option (Int32)) (fu : Nat) (M : Fin 20 → Nat → Int32) (x0 : Fin 20) (x1 : Fin 20) (x2 : Int32) (x3 : Int32) : Nat → Int32 → Option (Int32)
  | 0, _ => none
  | n + 1, x4 =>
    if x4 < 0 then
      k29 x4
    else
      (f_X2_get M x0 x4).bind (fun u7 =>
      (f_X2_get M x1 x4).bind (fun u9 =>
      if u7 = u9 then
        f_X2_isBefore_l29 k29 fu M x0 x1 x2 x3 n (x4 + (-1))
      else
        (f_X2_get M x0 x4).bind (fun u12 =>
        (f_X2_get M x1 x4).bind (fun u14 =>
        if u14 ≤ u12 then
          some 0
        else
          some 1))))
def f_X2_isBefore (fu : Nat) (M : Fin 20 → Nat → Int32) (r0 : Fin 20) (p0 : Fin 20) : Option (Int32) :=
  (f_X2_degree fu M r0).bind (fun u1 =>
  (f_X2_degree fu M p0).bind (fun u3 =>
  if u1 = u3 then
    f_X2_isBefore_l29 (fun y17 =>
      some 0) fu M r0 p0 u1 u3 fu u1
  else
    if u3 ≤ u1 then
      some 0
    else
      some 1))
set_option maxHeartbeats 4000000 in
set_option maxRecDepth 100000 in
theorem C_X2_isBefore (l : Launch) (D : va_G) (tys : List (ClassId × FieldType)) (nw : List Cond) (hn : nw.all nw_kind = true) (hnw : ∀ w ∈ nw0, w ∈ nw) {ad : Nat → Nat} (hj : ww_inj 46 ad) {cI : ClassId} {cR : ClassId} (htI : tys[0]? = some (cI, .int)) (htR : tys[1]? = some (cR, .object RX2)) {fu : Nat} {M : Fin 20 → Nat → Int32} {E : Nat → Int32} {P : Nat → Fin 20} {C : Nat → Int32} {N : Nat → Int32} {r0 : Fin 20} {p0 : Fin 20} {res : Int32} (hf : f_X2_isBefore fu M r0 p0 = some res) :
    Met l yX2_isBefore wsX2_isBefore ({ frames := 1, cells := 0, slots := 0, locals := 21 }) (va_Pc [.ref (ra ad r0), .ref (ra ad p0)] (ws_B D tys nw (ww 46 ad (cellC cI cR ad M E P C N)))) (ct_Q D (ww 46 ad (cellC cI cR ad M E P C N)) (ww_A 46 ad) (some (.int res))) 0 0 (ww_A 46 ad) := by
  refine Met.ofW (cc := cX2_isBefore) (maxL := 5) (ret := (some .boolean)) (by decide) rfl ?_
  intro p e s m args below meth c s₁ B hml hv
  obtain ⟨rfl, hP, hK, hN⟩ := hv
  have hx := B.exec
  have hb := B.bytes
  have hr := B.returns
  have hts := atoms_spec (ws := wsX2_isBefore) B.pre
  have hown : s.vm.findClass RX2 = some m.cls := findClass_of_methodNamed B.named
  have hlocks := B.notSynchronized
  have hS : va_S (ww_A 46 ad) s.heap s.heap [] := va_S.rf
  have hl := lv_entry ([.ref (ra ad r0), .ref (ra ad p0)]) (n := 5) (Nat.le_of_ble_eq_true rfl)
  rw [lg_entry_eq]
  generalize (lg_sl ([.ref (ra ad r0), .ref (ra ad p0)]) ++ List.replicate (5 - (lg_sl ([.ref (ra ad r0), .ref (ra ad p0)])).length) Slot.unset).toArray = ls at hl ⊢
  have hl : lv_has ls 5 [(0, .ref (ra ad r0)), (1, .ref (ra ad p0))] := hl
  have L29 : ∀ (x0 : Fin 20) (x1 : Fin 20) (x2 : Int32) (x3 : Int32) (k29 : Int32 → Option (Int32)), (∀ (x4 : Int32) (H : Heap) (locs : List Loc) (ls : Array Slot), va_P D vwCl (ww 46 ad (cellC cI cR ad M E P C N)) H → va_S (ww_A 46 ad) s.heap H locs → lv_has ls 5 [(0, .ref (ra ad x0)), (1, .ref (ra ad x1)), (2, .int x2), (3, .int x3), (4, .int x4)] →  k29 x4 = some res → W p l e (headSpec wsX2_isBefore { frames := 1, cells := 0, slots := 0, locals := 21 }).room s m [.ref (ra ad r0), .ref (ra ad p0)].toArray below meth c H locs 0 0 (MQ below (ct_Q D (ww 46 ad (cellC cI cR ad M E P C N)) (ww_A 46 ad) (some (.int res))) [.ref (ra ad r0), .ref (ra ad p0)].toArray s 0 0 (ww_A 46 ad)) (F0 m 76 ls [])) → ∀ (n : Nat) (x4 : Int32) (H : Heap) (locs : List Loc) (ls : Array Slot), va_P D vwCl (ww 46 ad (cellC cI cR ad M E P C N)) H → va_S (ww_A 46 ad) s.heap H locs → lv_has ls 5 [(0, .ref (ra ad x0)), (1, .ref (ra ad x1)), (2, .int x2), (3, .int x3), (4, .int x4)] →  f_X2_isBefore_l29 k29 fu M x0 x1 x2 x3 n x4 = some res → W p l e (headSpec wsX2_isBefore { frames := 1, cells := 0, slots := 0, locals := 21 }).room s m [.ref (ra ad r0), .ref (ra ad p0)].toArray below meth c H locs 0 0 (MQ below (ct_Q D (ww 46 ad (cellC cI cR ad M E P C N)) (ww_A 46 ad) (some (.int res))) [.ref (ra ad r0), .ref (ra ad p0)].toArray s 0 0 (ww_A 46 ad)) (F0 m 29 ls []) := by
    intro x0 x1 x2 x3 k29 hk_29 n
    induction n with
    | zero => intro x4 H locs ls hP hS hl hf; rw [f_X2_isBefore_l29] at hf; cases hf
    | succ n ih =>
      intro x4 H locs ls hP hS hl hf
      rw [f_X2_isBefore_l29] at hf
      refine lv_iload hx hb dX2_isBefore_29 (lv_at hl 4 rfl) ?_
      refine lv_if_lt (tgt := 76) hx hb dX2_isBefore_31 (by decide) (fun c6 => ?_) (fun c6 => ?_)
      · rw [if_pos c6] at hf
        exact hk_29 x4 _ _ _ hP hS (lv_sub hl [0, 1, 2, 3, 4] rfl) hf
      · rw [if_neg c6] at hf
        refine lv_aload_n hx hb dX2_isBefore_34 rfl (lv_at hl 0 rfl) ?_
        refine lv_iload hx hb dX2_isBefore_35 (lv_at hl 4 rfl) ?_
        obtain ⟨u7, g8, hf⟩ := Option.bind_eq_some_iff.mp hf
        try dsimp only at hf
        refine ct_call (va_runV (As := [.int x4]) (rest := []) ⟨hx, hb, hml, hown, hts⟩ (C_X2_get l D tys nw hn hnw hj htI htR (res := u7) g8) (cwV 1 hts gX2_isBefore_X2_get rfl rfl rfl (by decide +kernel) ⟨Nat.le_of_ble_eq_true rfl, Nat.le_of_ble_eq_true rfl⟩) (ct_preV hn hP hK hN (ci := 2) (k := (20 + (x0).val)) rfl (ra_lt x0) (cl_row x0)) rfl rfl hl.1 rfl (lv_room (Nat.le_of_ble_eq_true rfl)) dX2_isBefore_37 ⟨Nat.zero_le _, Nat.zero_le _⟩) hS (fun H locs hP hS => ?_)
        refine lv_aload_n hx hb dX2_isBefore_40 rfl (lv_at hl 1 rfl) ?_
        refine lv_iload hx hb dX2_isBefore_41 (lv_at hl 4 rfl) ?_
        obtain ⟨u9, g10, hf⟩ := Option.bind_eq_some_iff.mp hf
        try dsimp only at hf
        refine ct_call (va_runV (As := [.int x4]) (rest := [.int u7]) ⟨hx, hb, hml, hown, hts⟩ (C_X2_get l D tys nw hn hnw hj htI htR (res := u9) g10) (cwV 1 hts gX2_isBefore_X2_get rfl rfl rfl (by decide +kernel) ⟨Nat.le_of_ble_eq_true rfl, Nat.le_of_ble_eq_true rfl⟩) (ct_preV hn hP hK hN (ci := 2) (k := (20 + (x1).val)) rfl (ra_lt x1) (cl_row x1)) rfl rfl hl.1 rfl (lv_room (Nat.le_of_ble_eq_true rfl)) dX2_isBefore_43 ⟨Nat.zero_le _, Nat.zero_le _⟩) hS (fun H locs hP hS => ?_)
        refine lv_icmp_eq (tgt := 70) hx hb dX2_isBefore_46 (by decide) (fun c11 => ?_) (fun c11 => ?_)
        · rw [if_pos c11] at hf
          refine lv_iinc (v := x4 + (-1)) (lv' := [(4, .int (x4 + (-1))), (0, .ref (ra ad x0)), (1, .ref (ra ad x1)), (2, .int x2), (3, .int x3)]) hx hb dX2_isBefore_70 hl (k := 4) rfl rfl (by decide) rfl (fun ls hl => ?_)
          refine lv_goto (tgt := 29) hx hb dX2_isBefore_73 (by decide) ?_
          exact ih (x4 + (-1)) _ _ _ hP hS (lv_sub hl [1, 2, 3, 4, 0] rfl) hf
        · rw [if_neg c11] at hf
          refine lv_aload_n hx hb dX2_isBefore_49 rfl (lv_at hl 0 rfl) ?_
          refine lv_iload hx hb dX2_isBefore_50 (lv_at hl 4 rfl) ?_
          obtain ⟨u12, g13, hf⟩ := Option.bind_eq_some_iff.mp hf
          try dsimp only at hf
          refine ct_call (va_runV (As := [.int x4]) (rest := []) ⟨hx, hb, hml, hown, hts⟩ (C_X2_get l D tys nw hn hnw hj htI htR (res := u12) g13) (cwV 1 hts gX2_isBefore_X2_get rfl rfl rfl (by decide +kernel) ⟨Nat.le_of_ble_eq_true rfl, Nat.le_of_ble_eq_true rfl⟩) (ct_preV hn hP hK hN (ci := 2) (k := (20 + (x0).val)) rfl (ra_lt x0) (cl_row x0)) rfl rfl hl.1 rfl (lv_room (Nat.le_of_ble_eq_true rfl)) dX2_isBefore_52 ⟨Nat.zero_le _, Nat.zero_le _⟩) hS (fun H locs hP hS => ?_)
          refine lv_aload_n hx hb dX2_isBefore_55 rfl (lv_at hl 1 rfl) ?_
          refine lv_iload hx hb dX2_isBefore_56 (lv_at hl 4 rfl) ?_
          obtain ⟨u14, g15, hf⟩ := Option.bind_eq_some_iff.mp hf
          try dsimp only at hf
          refine ct_call (va_runV (As := [.int x4]) (rest := [.int u12]) ⟨hx, hb, hml, hown, hts⟩ (C_X2_get l D tys nw hn hnw hj htI htR (res := u14) g15) (cwV 1 hts gX2_isBefore_X2_get rfl rfl rfl (by decide +kernel) ⟨Nat.le_of_ble_eq_true rfl, Nat.le_of_ble_eq_true rfl⟩) (ct_preV hn hP hK hN (ci := 2) (k := (20 + (x1).val)) rfl (ra_lt x1) (cl_row x1)) rfl rfl hl.1 rfl (lv_room (Nat.le_of_ble_eq_true rfl)) dX2_isBefore_58 ⟨Nat.zero_le _, Nat.zero_le _⟩) hS (fun H locs hP hS => ?_)
          refine lv_icmp_ge (tgt := 68) hx hb dX2_isBefore_61 (by decide) (fun c16 => ?_) (fun c16 => ?_)
          · rw [if_pos c16] at hf
            refine lv_iconst (v := 0) hx hb dX2_isBefore_68 (by decide) ?_
            obtain rfl := Option.some.inj hf
            exact W.zret (v := 0) (ty := .boolean) hx hb hr (by decide) (fun t ht hW => ⟨rfl, by rw [ht]; exact hP, hS.F ht⟩) hS.2.2 dX2_isBefore_69
          · rw [if_neg c16] at hf
            refine lv_iconst (v := 1) hx hb dX2_isBefore_64 (by decide) ?_
            refine lv_goto (tgt := 69) hx hb dX2_isBefore_65 (by decide) ?_
            obtain rfl := Option.some.inj hf
            exact W.zret (v := 1) (ty := .boolean) hx hb hr (by decide) (fun t ht hW => ⟨rfl, by rw [ht]; exact hP, hS.F ht⟩) hS.2.2 dX2_isBefore_69
  unfold f_X2_isBefore at hf
  refine lv_aload_n hx hb dX2_isBefore_0 rfl (lv_at hl 0 rfl) ?_
  obtain ⟨u1, g2, hf⟩ := Option.bind_eq_some_iff.mp hf
  try dsimp only at hf
  refine ct_call (va_runV (As := []) (rest := []) ⟨hx, hb, hml, hown, hts⟩ (C_X2_degree l D tys nw hn hnw hj htI htR (res := u1) g2) (cwV 0 hts gX2_isBefore_X2_degree rfl rfl rfl (by decide +kernel) ⟨Nat.le_of_ble_eq_true rfl, Nat.le_of_ble_eq_true rfl⟩) (ct_preV hn hP hK hN (ci := 2) (k := (20 + (r0).val)) rfl (ra_lt r0) (cl_row r0)) rfl rfl hl.1 rfl (lv_room (Nat.le_of_ble_eq_true rfl)) dX2_isBefore_1 ⟨Nat.zero_le _, Nat.zero_le _⟩) hS (fun H locs hP hS => ?_)
  refine lv_istore_n (lv' := [(2, .int u1), (0, .ref (ra ad r0)), (1, .ref (ra ad p0))]) hx hb dX2_isBefore_4 rfl hl (by decide) rfl (fun ls hl => ?_)
  refine lv_aload_n hx hb dX2_isBefore_5 rfl (lv_at hl 2 rfl) ?_
  obtain ⟨u3, g4, hf⟩ := Option.bind_eq_some_iff.mp hf
  try dsimp only at hf
  refine ct_call (va_runV (As := []) (rest := []) ⟨hx, hb, hml, hown, hts⟩ (C_X2_degree l D tys nw hn hnw hj htI htR (res := u3) g4) (cwV 0 hts gX2_isBefore_X2_degree rfl rfl rfl (by decide +kernel) ⟨Nat.le_of_ble_eq_true rfl, Nat.le_of_ble_eq_true rfl⟩) (ct_preV hn hP hK hN (ci := 2) (k := (20 + (p0).val)) rfl (ra_lt p0) (cl_row p0)) rfl rfl hl.1 rfl (lv_room (Nat.le_of_ble_eq_true rfl)) dX2_isBefore_6 ⟨Nat.zero_le _, Nat.zero_le _⟩) hS (fun H locs hP hS => ?_)
  refine lv_istore_n (lv' := [(3, .int u3), (2, .int u1), (0, .ref (ra ad r0)), (1, .ref (ra ad p0))]) hx hb dX2_isBefore_9 rfl hl (by decide) rfl (fun ls hl => ?_)
  refine lv_iload_n hx hb dX2_isBefore_10 rfl (lv_at hl 1 rfl) ?_
  refine lv_iload_n hx hb dX2_isBefore_11 rfl (lv_at hl 0 rfl) ?_
  refine lv_icmp_eq (tgt := 26) hx hb dX2_isBefore_12 (by decide) (fun c5 => ?_) (fun c5 => ?_)
  · rw [if_pos c5] at hf
    refine lv_iload_n hx hb dX2_isBefore_26 rfl (lv_at hl 1 rfl) ?_
    refine lv_istore (lv' := [(4, .int u1), (3, .int u3), (2, .int u1), (0, .ref (ra ad r0)), (1, .ref (ra ad p0))]) hx hb dX2_isBefore_27 hl (by decide) rfl (fun ls hl => ?_)
    refine L29 r0 p0 u1 u3 _ (fun y17 H locs ls hP hS hl hf => ?_) fu u1 _ _ _ hP hS (lv_sub hl [3, 4, 2, 1, 0] rfl) hf
    try dsimp only at hf
    refine lv_iconst (v := 0) hx hb dX2_isBefore_76 (by decide) ?_
    obtain rfl := Option.some.inj hf
    exact W.zret (v := 0) (ty := .boolean) hx hb hr (by decide) (fun t ht hW => ⟨rfl, by rw [ht]; exact hP, hS.F ht⟩) hS.2.2 dX2_isBefore_77
  · rw [if_neg c5] at hf
    refine lv_iload_n hx hb dX2_isBefore_15 rfl (lv_at hl 1 rfl) ?_
    refine lv_iload_n hx hb dX2_isBefore_16 rfl (lv_at hl 0 rfl) ?_
    refine lv_icmp_ge (tgt := 24) hx hb dX2_isBefore_17 (by decide) (fun c18 => ?_) (fun c18 => ?_)
    · rw [if_pos c18] at hf
      refine lv_iconst (v := 0) hx hb dX2_isBefore_24 (by decide) ?_
      obtain rfl := Option.some.inj hf
      exact W.zret (v := 0) (ty := .boolean) hx hb hr (by decide) (fun t ht hW => ⟨rfl, by rw [ht]; exact hP, hS.F ht⟩) hS.2.2 dX2_isBefore_25
    · rw [if_neg c18] at hf
      refine lv_iconst (v := 1) hx hb dX2_isBefore_20 (by decide) ?_
      refine lv_goto (tgt := 25) hx hb dX2_isBefore_21 (by decide) ?_
      obtain rfl := Option.some.inj hf
      exact W.zret (v := 1) (ty := .boolean) hx hb hr (by decide) (fun t ht hW => ⟨rfl, by rw [ht]; exact hP, hS.F ht⟩) hS.2.2 dX2_isBefore_25
end
