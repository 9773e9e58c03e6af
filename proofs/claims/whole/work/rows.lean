section
/-! ===== BEGIN words of one list among another's, by their places ===== -/
theorem goodIn_r {big : List Cond} (ws : List Cond) (ps : List Nat) (hp : ws = ps.filterMap (fun i => big[i]?)) (h : ws.all goodWord = true) : GoodIn big ws := by
  intro w hw
  have h1 := List.all_eq_true.mp h w hw
  rw [hp] at hw
  obtain ⟨i, -, hi⟩ := List.mem_filterMap.mp hw
  have hm : w ∈ big := by first | exact List.mem_of_getElem? hi | exact List.getElem?_mem hi
  exact ⟨hm, good_of_word h1⟩
theorem goodIn_app {big a b : List Cond} (ha : GoodIn big a) (hb : GoodIn big b) : GoodIn big (a ++ b) := fun w h => (List.mem_append.mp h).elim (ha w) (hb w)
theorem goodIn_ca {big a b : List Cond} {c : Cond} (ha : GoodIn big (c :: a)) (hb : GoodIn big b) : GoodIn big (c :: (a ++ b)) := fun w h => (List.mem_cons.mp h).elim (fun e => ha w (List.mem_cons.mpr (Or.inl e))) (fun h => (List.mem_append.mp h).elim (fun h => ha w (List.mem_cons.mpr (Or.inr h))) (hb w))
theorem goodIn_sub {big ws : List Cond} (hm : ∀ w ∈ ws, w ∈ big) (h : ws.all goodWord = true) : GoodIn big ws := fun w hw => ⟨hm w hw, good_of_word (List.all_eq_true.mp h w hw)⟩
/-! ===== END ===== -/

def RX0 : String := "NumberFieldFactors$Extension"
def TX0 : u_T := fun k => match k with
  | 0 => ("NumberFieldFactors$Extension", "degree", "I", false)
  | 1 => ("NumberFieldFactors$Extension", "size", "I", false)
  | 2 => ("NumberFieldFactors$Extension", "low0", "I", false)
  | 3 => ("NumberFieldFactors$Extension", "low1", "I", false)
  | 4 => ("NumberFieldFactors$Extension", "low2", "I", false)
  | 5 => ("NumberFieldFactors$Extension", "t", "I", false)
  | 6 => ("NumberFieldFactors$Extension", "mateOfT", "I", false)
  | _ => ("NumberFieldFactors$Extension", "mateOfTSquared", "I", false)
def tyX0 : Nat → FieldType := fun k => match k with
  | 0 => .int
  | 1 => .int
  | 2 => .int
  | 3 => .int
  | 4 => .int
  | 5 => .int
  | 6 => .int
  | _ => .int
abbrev wsX00 : List Cond := u_ws RX0 TX0 8
theorem nmX0 : ∀ a, a < 8 → ∀ b, b < 8 → a ≠ b → (TX0 a).2.1 ≠ (TX0 b).2.1 := by decide +kernel
theorem tyX0_ok : ∀ k, k < 8 → parseFieldDescriptor (TX0 k).2.2.1 = some (tyX0 k) := by decide +kernel
abbrev cX0_init : ByteArray := prog_2_method_1_code
def yX0_init : MethodName := ⟨RX0, "<init>", "()V"⟩
abbrev cX0_become : ByteArray := prog_2_method_2_code
def yX0_become : MethodName := ⟨RX0, "become", "(IIII)Z"⟩
abbrev cX0_hasRoot : ByteArray := prog_2_method_3_code
def yX0_hasRoot : MethodName := ⟨RX0, "hasRoot", "(IIII)Z"⟩
abbrev cX0_modulusAt : ByteArray := prog_2_method_4_code
def yX0_modulusAt : MethodName := ⟨RX0, "modulusAt", "(I)I"⟩
abbrev cX0_plus : ByteArray := prog_2_method_5_code
def yX0_plus : MethodName := ⟨RX0, "plus", "(II)I"⟩
abbrev cX0_minus : ByteArray := prog_2_method_6_code
def yX0_minus : MethodName := ⟨RX0, "minus", "(II)I"⟩
abbrev cX0_times : ByteArray := prog_2_method_7_code
def yX0_times : MethodName := ⟨RX0, "times", "(II)I"⟩
abbrev cX0_power : ByteArray := prog_2_method_8_code
def yX0_power : MethodName := ⟨RX0, "power", "(II)I"⟩
abbrev cX0_mate : ByteArray := prog_2_method_9_code
def yX0_mate : MethodName := ⟨RX0, "mate", "(I)I"⟩
abbrev cX0_isSquare : ByteArray := prog_2_method_10_code
def yX0_isSquare : MethodName := ⟨RX0, "isSquare", "(I)Z"⟩
abbrev cX0_matesProduct : ByteArray := prog_2_method_11_code
def yX0_matesProduct : MethodName := ⟨RX0, "matesProduct", "(I)I"⟩
abbrev cX0_matesSum : ByteArray := prog_2_method_12_code
def yX0_matesSum : MethodName := ⟨RX0, "matesSum", "(I)I"⟩
abbrev cX0_differentMates : ByteArray := prog_2_method_13_code
def yX0_differentMates : MethodName := ⟨RX0, "differentMates", "(I)I"⟩
def RX1 : String := "NumberFieldFactors$Ring"
def TX1 : u_T := fun k => match k with
  | 0 => ("NumberFieldFactors$Ring", "extension", "LNumberFieldFactors$Extension;", true)
  | 1 => ("NumberFieldFactors$Ring", "wide", "LNumberFieldFactors$Row;", true)
  | 2 => ("NumberFieldFactors$Ring", "quotient", "LNumberFieldFactors$Row;", true)
  | 3 => ("NumberFieldFactors$Ring", "older", "LNumberFieldFactors$Row;", true)
  | 4 => ("NumberFieldFactors$Ring", "newer", "LNumberFieldFactors$Row;", true)
  | 5 => ("NumberFieldFactors$Ring", "derived", "LNumberFieldFactors$Row;", true)
  | 6 => ("NumberFieldFactors$Ring", "mates", "LNumberFieldFactors$Row;", true)
  | 7 => ("NumberFieldFactors$Ring", "product", "LNumberFieldFactors$Row;", true)
  | 8 => ("NumberFieldFactors$Ring", "moved", "LNumberFieldFactors$Row;", true)
  | 9 => ("NumberFieldFactors$Ring", "least", "LNumberFieldFactors$Row;", true)
  | _ => ("NumberFieldFactors$Ring", "common", "LNumberFieldFactors$Row;", true)
def tyX1 : Nat → FieldType := fun k => match k with
  | 0 => .object "NumberFieldFactors$Extension"
  | 1 => .object "NumberFieldFactors$Row"
  | 2 => .object "NumberFieldFactors$Row"
  | 3 => .object "NumberFieldFactors$Row"
  | 4 => .object "NumberFieldFactors$Row"
  | 5 => .object "NumberFieldFactors$Row"
  | 6 => .object "NumberFieldFactors$Row"
  | 7 => .object "NumberFieldFactors$Row"
  | 8 => .object "NumberFieldFactors$Row"
  | 9 => .object "NumberFieldFactors$Row"
  | _ => .object "NumberFieldFactors$Row"
abbrev wsX10 : List Cond := u_ws RX1 TX1 11
theorem nmX1 : ∀ a, a < 11 → ∀ b, b < 11 → a ≠ b → (TX1 a).2.1 ≠ (TX1 b).2.1 := by decide +kernel
theorem tyX1_ok : ∀ k, k < 11 → parseFieldDescriptor (TX1 k).2.2.1 = some (tyX1 k) := by decide +kernel
abbrev cX1_init : ByteArray := prog_3_method_1_code
def yX1_init : MethodName := ⟨RX1, "<init>", "()V"⟩
abbrev cX1_valueOf : ByteArray := prog_3_method_2_code
def yX1_valueOf : MethodName := ⟨RX1, "valueOf", "(LNumberFieldFactors$Row;I)I"⟩
abbrev cX1_displace : ByteArray := prog_3_method_3_code
def yX1_displace : MethodName := ⟨RX1, "displace", "(LNumberFieldFactors$Row;I)V"⟩
abbrev cX1_multiply : ByteArray := prog_3_method_4_code
def yX1_multiply : MethodName := ⟨RX1, "multiply", "(LNumberFieldFactors$Row;LNumberFieldFactors$Row;)V"⟩
abbrev cX1_multiplyLinear : ByteArray := prog_3_method_5_code
def yX1_multiplyLinear : MethodName := ⟨RX1, "multiplyLinear", "(LNumberFieldFactors$Row;I)V"⟩
abbrev cX1_divide : ByteArray := prog_3_method_6_code
def yX1_divide : MethodName := ⟨RX1, "divide", "(LNumberFieldFactors$Row;LNumberFieldFactors$Row;)V"⟩
abbrev cX1_makeMonic : ByteArray := prog_3_method_7_code
def yX1_makeMonic : MethodName := ⟨RX1, "makeMonic", "(LNumberFieldFactors$Row;)V"⟩
abbrev cX1_findCommon : ByteArray := prog_3_method_8_code
def yX1_findCommon : MethodName := ⟨RX1, "findCommon", "(LNumberFieldFactors$Row;LNumberFieldFactors$Row;LNumberFieldFactors$Row;)V"⟩
abbrev cX1_findSquares : ByteArray := prog_3_method_9_code
def yX1_findSquares : MethodName := ⟨RX1, "findSquares", "(LNumberFieldFactors$Row;LNumberFieldFactors$Row;)V"⟩
abbrev cX1_raiseLinear : ByteArray := prog_3_method_10_code
def yX1_raiseLinear : MethodName := ⟨RX1, "raiseLinear", "(IJLNumberFieldFactors$Row;LNumberFieldFactors$Row;)V"⟩
abbrev cX1_normOf : ByteArray := prog_3_method_11_code
def yX1_normOf : MethodName := ⟨RX1, "normOf", "(LNumberFieldFactors$Row;)LNumberFieldFactors$Row;"⟩
abbrev cX1_leastPolynomial : ByteArray := prog_3_method_12_code
def yX1_leastPolynomial : MethodName := ⟨RX1, "leastPolynomial", "(I)LNumberFieldFactors$Row;"⟩
abbrev cX1_leastShift : ByteArray := prog_3_method_13_code
def yX1_leastShift : MethodName := ⟨RX1, "leastShift", "(LNumberFieldFactors$Row;)I"⟩
def RX2 : String := "NumberFieldFactors$Row"
def TX2 : u_T := fun k => match k with
  | _ => ("NumberFieldFactors$Row", "elements", "[I", true)
def tyX2 : Nat → FieldType := fun k => match k with
  | _ => .array .int
abbrev wsX20 : List Cond := u_ws RX2 TX2 1
theorem nmX2 : ∀ a, a < 1 → ∀ b, b < 1 → a ≠ b → (TX2 a).2.1 ≠ (TX2 b).2.1 := by decide +kernel
theorem tyX2_ok : ∀ k, k < 1 → parseFieldDescriptor (TX2 k).2.2.1 = some (tyX2 k) := by decide +kernel
abbrev cX2_init : ByteArray := prog_4_method_1_code
def yX2_init : MethodName := ⟨RX2, "<init>", "()V"⟩
abbrev cX2_get : ByteArray := prog_4_method_2_code
def yX2_get : MethodName := ⟨RX2, "get", "(I)I"⟩
abbrev cX2_set : ByteArray := prog_4_method_3_code
def yX2_set : MethodName := ⟨RX2, "set", "(II)V"⟩
abbrev cX2_degree : ByteArray := prog_4_method_4_code
def yX2_degree : MethodName := ⟨RX2, "degree", "()I"⟩
abbrev cX2_clear : ByteArray := prog_4_method_5_code
def yX2_clear : MethodName := ⟨RX2, "clear", "()V"⟩
abbrev cX2_copy : ByteArray := prog_4_method_6_code
def yX2_copy : MethodName := ⟨RX2, "copy", "(LNumberFieldFactors$Row;)V"⟩
abbrev cX2_becomeOne : ByteArray := prog_4_method_7_code
def yX2_becomeOne : MethodName := ⟨RX2, "becomeOne", "()V"⟩
abbrev cX2_isBefore : ByteArray := prog_4_method_8_code
def yX2_isBefore : MethodName := ⟨RX2, "isBefore", "(LNumberFieldFactors$Row;)Z"⟩
def RX3 : String := "NumberFieldFactors$Splitter"
def TX3 : u_T := fun k => match k with
  | 0 => ("NumberFieldFactors$Splitter", "parts", "[LNumberFieldFactors$Row;", true)
  | 1 => ("NumberFieldFactors$Splitter", "counts", "[I", true)
  | 2 => ("NumberFieldFactors$Splitter", "count", "I", false)
  | 3 => ("NumberFieldFactors$Splitter", "found", "Z", false)
  | 4 => ("NumberFieldFactors$Splitter", "root", "LNumberFieldFactors$Row;", true)
  | 5 => ("NumberFieldFactors$Splitter", "rest", "LNumberFieldFactors$Row;", true)
  | 6 => ("NumberFieldFactors$Splitter", "power", "LNumberFieldFactors$Row;", true)
  | _ => ("NumberFieldFactors$Splitter", "shared", "LNumberFieldFactors$Row;", true)
def tyX3 : Nat → FieldType := fun k => match k with
  | 0 => .array (.object "NumberFieldFactors$Row")
  | 1 => .array .int
  | 2 => .int
  | 3 => .boolean
  | 4 => .object "NumberFieldFactors$Row"
  | 5 => .object "NumberFieldFactors$Row"
  | 6 => .object "NumberFieldFactors$Row"
  | _ => .object "NumberFieldFactors$Row"
abbrev wsX30 : List Cond := u_ws RX3 TX3 8
theorem nmX3 : ∀ a, a < 8 → ∀ b, b < 8 → a ≠ b → (TX3 a).2.1 ≠ (TX3 b).2.1 := by decide +kernel
theorem tyX3_ok : ∀ k, k < 8 → parseFieldDescriptor (TX3 k).2.2.1 = some (tyX3 k) := by decide +kernel
abbrev cX3_init : ByteArray := prog_5_method_1_code
def yX3_init : MethodName := ⟨RX3, "<init>", "()V"⟩
abbrev cX3_forget : ByteArray := prog_5_method_2_code
def yX3_forget : MethodName := ⟨RX3, "forget", "()V"⟩
abbrev cX3_part : ByteArray := prog_5_method_3_code
def yX3_part : MethodName := ⟨RX3, "part", "(I)LNumberFieldFactors$Row;"⟩
abbrev cX3_timesOf : ByteArray := prog_5_method_4_code
def yX3_timesOf : MethodName := ⟨RX3, "timesOf", "(I)I"⟩
abbrev cX3_commonDegree : ByteArray := prog_5_method_5_code
def yX3_commonDegree : MethodName := ⟨RX3, "commonDegree", "()I"⟩
abbrev cX3_find : ByteArray := prog_5_method_6_code
def yX3_find : MethodName := ⟨RX3, "find", "(LNumberFieldFactors$Ring;LNumberFieldFactors$Row;)V"⟩
abbrev cX3_keepRoot : ByteArray := prog_5_method_7_code
def yX3_keepRoot : MethodName := ⟨RX3, "keepRoot", "(LNumberFieldFactors$Ring;LNumberFieldFactors$Row;)V"⟩
abbrev cX3_add : ByteArray := prog_5_method_8_code
def yX3_add : MethodName := ⟨RX3, "add", "(LNumberFieldFactors$Row;)V"⟩
abbrev cX3_sizeToThe : ByteArray := prog_5_method_9_code
def yX3_sizeToThe : MethodName := ⟨RX3, "sizeToThe", "(LNumberFieldFactors$Ring;I)J"⟩
abbrev cX3_collect : ByteArray := prog_5_method_10_code
def yX3_collect : MethodName := ⟨RX3, "collect", "(LNumberFieldFactors$Ring;I)V"⟩
abbrev cX3_separate : ByteArray := prog_5_method_11_code
def yX3_separate : MethodName := ⟨RX3, "separate", "(LNumberFieldFactors$Ring;II)V"⟩
abbrev cX3_sort : ByteArray := prog_5_method_12_code
def yX3_sort : MethodName := ⟨RX3, "sort", "()V"⟩
abbrev cX3_countTimes : ByteArray := prog_5_method_13_code
def yX3_countTimes : MethodName := ⟨RX3, "countTimes", "(LNumberFieldFactors$Ring;LNumberFieldFactors$Row;)V"⟩
def RX4 : String := "NumberFieldFactors"
def TX4 : u_T := fun k => match k with
  | 0 => ("NumberFieldFactors", "f", "LNumberFieldFactors$Row;", true)
  | 1 => ("NumberFieldFactors", "ring", "LNumberFieldFactors$Ring;", true)
  | _ => ("NumberFieldFactors", "splitter", "LNumberFieldFactors$Splitter;", true)
def tyX4 : Nat → FieldType := fun k => match k with
  | 0 => .object "NumberFieldFactors$Row"
  | 1 => .object "NumberFieldFactors$Ring"
  | _ => .object "NumberFieldFactors$Splitter"
abbrev wsX40 : List Cond := u_ws RX4 TX4 3
theorem nmX4 : ∀ a, a < 3 → ∀ b, b < 3 → a ≠ b → (TX4 a).2.1 ≠ (TX4 b).2.1 := by decide +kernel
theorem tyX4_ok : ∀ k, k < 3 → parseFieldDescriptor (TX4 k).2.2.1 = some (tyX4 k) := by decide +kernel
abbrev cX4_init : ByteArray := prog_1_method_1_code
def yX4_init : MethodName := ⟨RX4, "<init>", "()V"⟩
abbrev cX4_field : ByteArray := prog_1_method_2_code
def yX4_field : MethodName := ⟨RX4, "field", "(IJJJ)Z"⟩
abbrev cX4_modulus : ByteArray := prog_1_method_3_code
def yX4_modulus : MethodName := ⟨RX4, "modulus", "(I)I"⟩
abbrev cX4_put : ByteArray := prog_1_method_4_code
def yX4_put : MethodName := ⟨RX4, "put", "(II)Z"⟩
abbrev cX4_at : ByteArray := prog_1_method_5_code
def yX4_at : MethodName := ⟨RX4, "at", "(I)I"⟩
abbrev cX4_reckon : ByteArray := prog_1_method_6_code
def yX4_reckon : MethodName := ⟨RX4, "reckon", "(III)I"⟩
abbrev cX4_known : ByteArray := prog_1_method_7_code
def yX4_known : MethodName := ⟨RX4, "known", "(II)I"⟩
abbrev cX4_minimal : ByteArray := prog_1_method_8_code
def yX4_minimal : MethodName := ⟨RX4, "minimal", "(II)I"⟩
abbrev cX4_value : ByteArray := prog_1_method_9_code
def yX4_value : MethodName := ⟨RX4, "value", "(I)I"⟩
abbrev cX4_norm : ByteArray := prog_1_method_10_code
def yX4_norm : MethodName := ⟨RX4, "norm", "(I)I"⟩
abbrev cX4_shift : ByteArray := prog_1_method_11_code
def yX4_shift : MethodName := ⟨RX4, "shift", "()I"⟩
abbrev cX4_factors : ByteArray := prog_1_method_12_code
def yX4_factors : MethodName := ⟨RX4, "factors", "()I"⟩
abbrev cX4_factor : ByteArray := prog_1_method_13_code
def yX4_factor : MethodName := ⟨RX4, "factor", "(II)I"⟩
abbrev cX4_often : ByteArray := prog_1_method_14_code
def yX4_often : MethodName := ⟨RX4, "often", "(I)I"⟩
abbrev cX4_splitting : ByteArray := prog_1_method_15_code
def yX4_splitting : MethodName := ⟨RX4, "splitting", "()I"⟩
abbrev cX4_move : ByteArray := prog_1_method_16_code
def yX4_move : MethodName := ⟨RX4, "move", "(I)V"⟩
abbrev cX4_take : ByteArray := prog_1_method_17_code
def yX4_take : MethodName := ⟨RX4, "take", "(I)V"⟩
abbrev cX4_numberOf : ByteArray := prog_1_method_18_code
def yX4_numberOf : MethodName := ⟨RX4, "numberOf", "(J)I"⟩
abbrev cX4_requirePower : ByteArray := prog_1_method_19_code
def yX4_requirePower : MethodName := ⟨RX4, "requirePower", "(I)V"⟩
abbrev cX4_requireElement : ByteArray := prog_1_method_20_code
def yX4_requireElement : MethodName := ⟨RX4, "requireElement", "(I)V"⟩
abbrev cX4_requireSome : ByteArray := prog_1_method_21_code
def yX4_requireSome : MethodName := ⟨RX4, "requireSome", "()V"⟩
abbrev cX4_requireFactor : ByteArray := prog_1_method_22_code
def yX4_requireFactor : MethodName := ⟨RX4, "requireFactor", "(I)V"⟩
def RX5 : String := "NumberFieldFactorsModel"
def TX5 : u_T := fun k => match k with
  | 0 => ("NumberFieldFactorsModel", "thrown", "I", false)
  | 1 => ("NumberFieldFactorsModel", "k", "I", false)
  | 2 => ("NumberFieldFactorsModel", "many", "J", false)
  | 3 => ("NumberFieldFactorsModel", "modulus", "[I", true)
  | 4 => ("NumberFieldFactorsModel", "digits", "[I", true)
  | 5 => ("NumberFieldFactorsModel", "row", "[I", true)
  | 6 => ("NumberFieldFactorsModel", "degree", "[I", true)
  | 7 => ("NumberFieldFactorsModel", "known", "Z", false)
  | 8 => ("NumberFieldFactorsModel", "factors", "I", false)
  | _ => ("NumberFieldFactorsModel", "often", "[I", true)
def tyX5 : Nat → FieldType := fun k => match k with
  | 0 => .int
  | 1 => .int
  | 2 => .long
  | 3 => .array .int
  | 4 => .array .int
  | 5 => .array .int
  | 6 => .array .int
  | 7 => .boolean
  | 8 => .int
  | _ => .array .int
abbrev wsX50 : List Cond := u_ws RX5 TX5 10
theorem nmX5 : ∀ a, a < 10 → ∀ b, b < 10 → a ≠ b → (TX5 a).2.1 ≠ (TX5 b).2.1 := by decide +kernel
theorem tyX5_ok : ∀ k, k < 10 → parseFieldDescriptor (TX5 k).2.2.1 = some (tyX5 k) := by decide +kernel
abbrev cX5_init : ByteArray := prog_7_method_1_code
def yX5_init : MethodName := ⟨RX5, "<init>", "()V"⟩
abbrev cX5_thrown : ByteArray := prog_7_method_2_code
def yX5_thrown : MethodName := ⟨RX5, "thrown", "()I"⟩
abbrev cX5_fails : ByteArray := prog_7_method_3_code
def yX5_fails : MethodName := ⟨RX5, "fails", "(ZZ)Z"⟩
abbrev cX5_isElement : ByteArray := prog_7_method_4_code
def yX5_isElement : MethodName := ⟨RX5, "isElement", "(I)Z"⟩
abbrev cX5_digit : ByteArray := prog_7_method_5_code
def yX5_digit : MethodName := ⟨RX5, "digit", "(II)I"⟩
abbrev cX5_add : ByteArray := prog_7_method_6_code
def yX5_add : MethodName := ⟨RX5, "add", "(II)I"⟩
abbrev cX5_negative : ByteArray := prog_7_method_7_code
def yX5_negative : MethodName := ⟨RX5, "negative", "(I)I"⟩
abbrev cX5_less : ByteArray := prog_7_method_8_code
def yX5_less : MethodName := ⟨RX5, "less", "(II)I"⟩
abbrev cX5_times : ByteArray := prog_7_method_9_code
def yX5_times : MethodName := ⟨RX5, "times", "(II)I"⟩
abbrev cX5_power : ByteArray := prog_7_method_10_code
def yX5_power : MethodName := ⟨RX5, "power", "(IJ)I"⟩
abbrev cX5_inverse : ByteArray := prog_7_method_11_code
def yX5_inverse : MethodName := ⟨RX5, "inverse", "(I)I"⟩
abbrev cX5_mate : ByteArray := prog_7_method_12_code
def yX5_mate : MethodName := ⟨RX5, "mate", "(II)I"⟩
abbrev cX5_mates : ByteArray := prog_7_method_13_code
def yX5_mates : MethodName := ⟨RX5, "mates", "(I)I"⟩
abbrev cX5_number : ByteArray := prog_7_method_14_code
def yX5_number : MethodName := ⟨RX5, "number", "(J)I"⟩
abbrev cX5_field : ByteArray := prog_7_method_15_code
def yX5_field : MethodName := ⟨RX5, "field", "(IJJJ)Z"⟩
abbrev cX5_modulus : ByteArray := prog_7_method_16_code
def yX5_modulus : MethodName := ⟨RX5, "modulus", "(I)I"⟩
abbrev cX5_clear : ByteArray := prog_7_method_17_code
def yX5_clear : MethodName := ⟨RX5, "clear", "(I)V"⟩
abbrev cX5_copy : ByteArray := prog_7_method_18_code
def yX5_copy : MethodName := ⟨RX5, "copy", "(II)V"⟩
abbrev cX5_set : ByteArray := prog_7_method_19_code
def yX5_set : MethodName := ⟨RX5, "set", "(III)V"⟩
abbrev cX5_cell : ByteArray := prog_7_method_20_code
def yX5_cell : MethodName := ⟨RX5, "cell", "(II)I"⟩
abbrev cX5_product : ByteArray := prog_7_method_21_code
def yX5_product : MethodName := ⟨RX5, "product", "(III)V"⟩
abbrev cX5_divide : ByteArray := prog_7_method_22_code
def yX5_divide : MethodName := ⟨RX5, "divide", "(III)V"⟩
abbrev cX5_monic : ByteArray := prog_7_method_23_code
def yX5_monic : MethodName := ⟨RX5, "monic", "(I)V"⟩
abbrev cX5_divisor : ByteArray := prog_7_method_24_code
def yX5_divisor : MethodName := ⟨RX5, "divisor", "(II)V"⟩
abbrev cX5_slope : ByteArray := prog_7_method_25_code
def yX5_slope : MethodName := ⟨RX5, "slope", "(II)V"⟩
abbrev cX5_powers : ByteArray := prog_7_method_26_code
def yX5_powers : MethodName := ⟨RX5, "powers", "(IJII)V"⟩
abbrev cX5_moved : ByteArray := prog_7_method_27_code
def yX5_moved : MethodName := ⟨RX5, "moved", "(III)V"⟩
abbrev cX5_normOf : ByteArray := prog_7_method_28_code
def yX5_normOf : MethodName := ⟨RX5, "normOf", "(II)V"⟩
abbrev cX5_isPower : ByteArray := prog_7_method_29_code
def yX5_isPower : MethodName := ⟨RX5, "isPower", "(I)Z"⟩
abbrev cX5_put : ByteArray := prog_7_method_30_code
def yX5_put : MethodName := ⟨RX5, "put", "(II)Z"⟩
abbrev cX5_at : ByteArray := prog_7_method_31_code
def yX5_at : MethodName := ⟨RX5, "at", "(I)I"⟩
abbrev cX5_reckon : ByteArray := prog_7_method_32_code
def yX5_reckon : MethodName := ⟨RX5, "reckon", "(III)I"⟩
abbrev cX5_known : ByteArray := prog_7_method_33_code
def yX5_known : MethodName := ⟨RX5, "known", "(II)I"⟩
abbrev cX5_minimal : ByteArray := prog_7_method_34_code
def yX5_minimal : MethodName := ⟨RX5, "minimal", "(II)I"⟩
abbrev cX5_value : ByteArray := prog_7_method_35_code
def yX5_value : MethodName := ⟨RX5, "value", "(I)I"⟩
abbrev cX5_norm : ByteArray := prog_7_method_36_code
def yX5_norm : MethodName := ⟨RX5, "norm", "(I)I"⟩
abbrev cX5_root : ByteArray := prog_7_method_37_code
def yX5_root : MethodName := ⟨RX5, "root", "()V"⟩
abbrev cX5_found : ByteArray := prog_7_method_38_code
def yX5_found : MethodName := ⟨RX5, "found", "(I)V"⟩
abbrev cX5_parts : ByteArray := prog_7_method_39_code
def yX5_parts : MethodName := ⟨RX5, "parts", "(I)V"⟩
abbrev cX5_split : ByteArray := prog_7_method_40_code
def yX5_split : MethodName := ⟨RX5, "split", "()V"⟩
abbrev cX5_isAhead : ByteArray := prog_7_method_41_code
def yX5_isAhead : MethodName := ⟨RX5, "isAhead", "(II)Z"⟩
abbrev cX5_order : ByteArray := prog_7_method_42_code
def yX5_order : MethodName := ⟨RX5, "order", "()V"⟩
abbrev cX5_factorise : ByteArray := prog_7_method_43_code
def yX5_factorise : MethodName := ⟨RX5, "factorise", "()V"⟩
abbrev cX5_isNothing : ByteArray := prog_7_method_44_code
def yX5_isNothing : MethodName := ⟨RX5, "isNothing", "()Z"⟩
abbrev cX5_shift : ByteArray := prog_7_method_45_code
def yX5_shift : MethodName := ⟨RX5, "shift", "()I"⟩
abbrev cX5_factors : ByteArray := prog_7_method_46_code
def yX5_factors : MethodName := ⟨RX5, "factors", "()I"⟩
abbrev cX5_lacks : ByteArray := prog_7_method_47_code
def yX5_lacks : MethodName := ⟨RX5, "lacks", "(I)Z"⟩
abbrev cX5_factor : ByteArray := prog_7_method_48_code
def yX5_factor : MethodName := ⟨RX5, "factor", "(II)I"⟩
abbrev cX5_often : ByteArray := prog_7_method_49_code
def yX5_often : MethodName := ⟨RX5, "often", "(I)I"⟩
abbrev cX5_splitting : ByteArray := prog_7_method_50_code
def yX5_splitting : MethodName := ⟨RX5, "splitting", "()I"⟩
abbrev cX5_move : ByteArray := prog_7_method_51_code
def yX5_move : MethodName := ⟨RX5, "move", "(I)V"⟩
abbrev cX5_take : ByteArray := prog_7_method_52_code
def yX5_take : MethodName := ⟨RX5, "take", "(I)V"⟩
def RJ0 : String := "java/lang/String"
def TJ0 : u_T := fun k => match k with
  | _ => ("", "", "", false)
def tyJ0 : Nat → FieldType := fun k => match k with
  | _ => .int
abbrev wsJ00 : List Cond := u_ws RJ0 TJ0 0
theorem nmJ0 : ∀ a, a < 0 → ∀ b, b < 0 → a ≠ b → (TJ0 a).2.1 ≠ (TJ0 b).2.1 := by decide +kernel
theorem tyJ0_ok : ∀ k, k < 0 → parseFieldDescriptor (TJ0 k).2.2.1 = some (tyJ0 k) := by decide +kernel
def RL : String := "NumberFieldFactorsLaw"
abbrev cL_field : ByteArray := method_3_code
def yL_field : MethodName := ⟨RL, "field", "(LNumberFieldFactors;IJJJ[J)I"⟩
abbrev cL_modulus : ByteArray := method_4_code
def yL_modulus : MethodName := ⟨RL, "modulus", "(LNumberFieldFactors;I[J)I"⟩
abbrev cL_put : ByteArray := method_5_code
def yL_put : MethodName := ⟨RL, "put", "(LNumberFieldFactors;II[J)I"⟩
abbrev cL_at : ByteArray := method_6_code
def yL_at : MethodName := ⟨RL, "at", "(LNumberFieldFactors;I[J)I"⟩
abbrev cL_reckon : ByteArray := method_7_code
def yL_reckon : MethodName := ⟨RL, "reckon", "(LNumberFieldFactors;III[J)I"⟩
abbrev cL_known : ByteArray := method_8_code
def yL_known : MethodName := ⟨RL, "known", "(LNumberFieldFactors;II[J)I"⟩
abbrev cL_minimal : ByteArray := method_9_code
def yL_minimal : MethodName := ⟨RL, "minimal", "(LNumberFieldFactors;II[J)I"⟩
abbrev cL_value : ByteArray := method_10_code
def yL_value : MethodName := ⟨RL, "value", "(LNumberFieldFactors;I[J)I"⟩
abbrev cL_shift : ByteArray := method_11_code
def yL_shift : MethodName := ⟨RL, "shift", "(LNumberFieldFactors;[J)I"⟩
abbrev cL_factors : ByteArray := method_12_code
def yL_factors : MethodName := ⟨RL, "factors", "(LNumberFieldFactors;[J)I"⟩
abbrev cL_factor : ByteArray := method_13_code
def yL_factor : MethodName := ⟨RL, "factor", "(LNumberFieldFactors;II[J)I"⟩
abbrev cL_often : ByteArray := method_14_code
def yL_often : MethodName := ⟨RL, "often", "(LNumberFieldFactors;I[J)I"⟩
abbrev cL_splitting : ByteArray := method_15_code
def yL_splitting : MethodName := ⟨RL, "splitting", "(LNumberFieldFactors;[J)I"⟩
abbrev cL_move : ByteArray := method_16_code
def yL_move : MethodName := ⟨RL, "move", "(LNumberFieldFactors;I)I"⟩
abbrev cL_take : ByteArray := method_17_code
def yL_take : MethodName := ⟨RL, "take", "(LNumberFieldFactors;I)I"⟩
abbrev cL_law : ByteArray := code
def yL_law : MethodName := ⟨RL, "law", "([I)Z"⟩
def wsX0_init : List Cond := .code yX0_init cX0_init 1 none :: ([.methodLink RX0 3 objectInit, .instanceMethod objectInit, .code objectInit ⟨#[0xb1]⟩ 1 none, .fieldLink RX0 9 "NumberFieldFactors$Extension" "degree" "I", .fieldLink RX0 15 "NumberFieldFactors$Extension" "size" "I", .fieldLink RX0 18 "NumberFieldFactors$Extension" "low0" "I", .fieldLink RX0 21 "NumberFieldFactors$Extension" "low1" "I", .fieldLink RX0 24 "NumberFieldFactors$Extension" "low2" "I", .fieldLink RX0 27 "NumberFieldFactors$Extension" "t" "I", .fieldLink RX0 30 "NumberFieldFactors$Extension" "mateOfT" "I", .fieldLink RX0 33 "NumberFieldFactors$Extension" "mateOfTSquared" "I"] ++ wsX00)
def wsX0_hasRoot : List Cond := .code yX0_hasRoot cX0_hasRoot 6 (some .boolean) :: ([])
def wsX0_times : List Cond := .code yX0_times cX0_times 15 (some .int) :: ([.fieldLink RX0 9 "NumberFieldFactors$Extension" "degree" "I", .fieldLink RX0 21 "NumberFieldFactors$Extension" "low1" "I", .fieldLink RX0 18 "NumberFieldFactors$Extension" "low0" "I", .fieldLink RX0 24 "NumberFieldFactors$Extension" "low2" "I"] ++ wsX00)
def wsX0_power : List Cond := .code yX0_power cX0_power 6 (some .int) :: ([.methodLink RX0 45 yX0_times, .instanceMethod yX0_times, .selects RX0 yX0_times yX0_times, .initialized RX0, .code yX0_times cX0_times 15 (some .int), .fieldLink RX0 9 "NumberFieldFactors$Extension" "degree" "I", .fieldLink RX0 21 "NumberFieldFactors$Extension" "low1" "I", .fieldLink RX0 18 "NumberFieldFactors$Extension" "low0" "I", .fieldLink RX0 24 "NumberFieldFactors$Extension" "low2" "I"] ++ wsX00)
def wsX0_become : List Cond := .code yX0_become cX0_become 7 (some .boolean) :: ([.fieldLink RX0 9 "NumberFieldFactors$Extension" "degree" "I", .constant RX0 40 (1030301), .fieldLink RX0 15 "NumberFieldFactors$Extension" "size" "I", .fieldLink RX0 18 "NumberFieldFactors$Extension" "low0" "I", .fieldLink RX0 21 "NumberFieldFactors$Extension" "low1" "I", .fieldLink RX0 24 "NumberFieldFactors$Extension" "low2" "I", .fieldLink RX0 27 "NumberFieldFactors$Extension" "t" "I", .fieldLink RX0 30 "NumberFieldFactors$Extension" "mateOfT" "I", .fieldLink RX0 33 "NumberFieldFactors$Extension" "mateOfTSquared" "I", .methodLink RX0 36 yX0_hasRoot, .static yX0_hasRoot, .initialized RX0, .code yX0_hasRoot cX0_hasRoot 6 (some .boolean), .methodLink RX0 41 yX0_power, .instanceMethod yX0_power, .selects RX0 yX0_power yX0_power, .code yX0_power cX0_power 6 (some .int), .methodLink RX0 45 yX0_times, .instanceMethod yX0_times, .selects RX0 yX0_times yX0_times, .code yX0_times cX0_times 15 (some .int)] ++ wsX00)
def wsX0_modulusAt : List Cond := .code yX0_modulusAt cX0_modulusAt 2 (some .int) :: ([.fieldLink RX0 9 "NumberFieldFactors$Extension" "degree" "I", .fieldLink RX0 18 "NumberFieldFactors$Extension" "low0" "I", .fieldLink RX0 21 "NumberFieldFactors$Extension" "low1" "I", .fieldLink RX0 24 "NumberFieldFactors$Extension" "low2" "I"] ++ wsX00)
def wsX0_plus : List Cond := .code yX0_plus cX0_plus 6 (some .int) :: ([])
def wsX0_minus : List Cond := .code yX0_minus cX0_minus 6 (some .int) :: ([])
def wsX0_mate : List Cond := .code yX0_mate cX0_mate 4 (some .int) :: ([.fieldLink RX0 33 "NumberFieldFactors$Extension" "mateOfTSquared" "I", .fieldLink RX0 30 "NumberFieldFactors$Extension" "mateOfT" "I", .methodLink RX0 45 yX0_times, .instanceMethod yX0_times, .selects RX0 yX0_times yX0_times, .initialized RX0, .code yX0_times cX0_times 15 (some .int), .fieldLink RX0 9 "NumberFieldFactors$Extension" "degree" "I", .fieldLink RX0 21 "NumberFieldFactors$Extension" "low1" "I", .fieldLink RX0 18 "NumberFieldFactors$Extension" "low0" "I", .fieldLink RX0 24 "NumberFieldFactors$Extension" "low2" "I", .methodLink RX0 48 yX0_plus, .instanceMethod yX0_plus, .selects RX0 yX0_plus yX0_plus, .code yX0_plus cX0_plus 6 (some .int)] ++ wsX00)
def wsX0_isSquare : List Cond := .code yX0_isSquare cX0_isSquare 2 (some .boolean) :: ([.fieldLink RX0 15 "NumberFieldFactors$Extension" "size" "I", .methodLink RX0 41 yX0_power, .instanceMethod yX0_power, .selects RX0 yX0_power yX0_power, .initialized RX0, .code yX0_power cX0_power 6 (some .int), .methodLink RX0 45 yX0_times, .instanceMethod yX0_times, .selects RX0 yX0_times yX0_times, .code yX0_times cX0_times 15 (some .int), .fieldLink RX0 9 "NumberFieldFactors$Extension" "degree" "I", .fieldLink RX0 21 "NumberFieldFactors$Extension" "low1" "I", .fieldLink RX0 18 "NumberFieldFactors$Extension" "low0" "I", .fieldLink RX0 24 "NumberFieldFactors$Extension" "low2" "I"] ++ wsX00)
def wsX0_matesProduct : List Cond := .code yX0_matesProduct cX0_matesProduct 5 (some .int) :: ([.fieldLink RX0 9 "NumberFieldFactors$Extension" "degree" "I", .methodLink RX0 51 yX0_mate, .instanceMethod yX0_mate, .selects RX0 yX0_mate yX0_mate, .initialized RX0, .code yX0_mate cX0_mate 4 (some .int), .fieldLink RX0 33 "NumberFieldFactors$Extension" "mateOfTSquared" "I", .fieldLink RX0 30 "NumberFieldFactors$Extension" "mateOfT" "I", .methodLink RX0 45 yX0_times, .instanceMethod yX0_times, .selects RX0 yX0_times yX0_times, .code yX0_times cX0_times 15 (some .int), .fieldLink RX0 21 "NumberFieldFactors$Extension" "low1" "I", .fieldLink RX0 18 "NumberFieldFactors$Extension" "low0" "I", .fieldLink RX0 24 "NumberFieldFactors$Extension" "low2" "I", .methodLink RX0 48 yX0_plus, .instanceMethod yX0_plus, .selects RX0 yX0_plus yX0_plus, .code yX0_plus cX0_plus 6 (some .int)] ++ wsX00)
def wsX0_matesSum : List Cond := .code yX0_matesSum cX0_matesSum 5 (some .int) :: ([.fieldLink RX0 9 "NumberFieldFactors$Extension" "degree" "I", .methodLink RX0 51 yX0_mate, .instanceMethod yX0_mate, .selects RX0 yX0_mate yX0_mate, .initialized RX0, .code yX0_mate cX0_mate 4 (some .int), .fieldLink RX0 33 "NumberFieldFactors$Extension" "mateOfTSquared" "I", .fieldLink RX0 30 "NumberFieldFactors$Extension" "mateOfT" "I", .methodLink RX0 45 yX0_times, .instanceMethod yX0_times, .selects RX0 yX0_times yX0_times, .code yX0_times cX0_times 15 (some .int), .fieldLink RX0 21 "NumberFieldFactors$Extension" "low1" "I", .fieldLink RX0 18 "NumberFieldFactors$Extension" "low0" "I", .fieldLink RX0 24 "NumberFieldFactors$Extension" "low2" "I", .methodLink RX0 48 yX0_plus, .instanceMethod yX0_plus, .selects RX0 yX0_plus yX0_plus, .code yX0_plus cX0_plus 6 (some .int)] ++ wsX00)
def wsX0_differentMates : List Cond := .code yX0_differentMates cX0_differentMates 2 (some .int) :: ([.fieldLink RX0 9 "NumberFieldFactors$Extension" "degree" "I", .methodLink RX0 51 yX0_mate, .instanceMethod yX0_mate, .selects RX0 yX0_mate yX0_mate, .initialized RX0, .code yX0_mate cX0_mate 4 (some .int), .fieldLink RX0 33 "NumberFieldFactors$Extension" "mateOfTSquared" "I", .fieldLink RX0 30 "NumberFieldFactors$Extension" "mateOfT" "I", .methodLink RX0 45 yX0_times, .instanceMethod yX0_times, .selects RX0 yX0_times yX0_times, .code yX0_times cX0_times 15 (some .int), .fieldLink RX0 21 "NumberFieldFactors$Extension" "low1" "I", .fieldLink RX0 18 "NumberFieldFactors$Extension" "low0" "I", .fieldLink RX0 24 "NumberFieldFactors$Extension" "low2" "I", .methodLink RX0 48 yX0_plus, .instanceMethod yX0_plus, .selects RX0 yX0_plus yX0_plus, .code yX0_plus cX0_plus 6 (some .int)] ++ wsX00)
def wsX2_init : List Cond := .code yX2_init cX2_init 1 none :: ([.methodLink RX2 3 objectInit, .instanceMethod objectInit, .code objectInit ⟨#[0xb1]⟩ 1 none, .arrayClass .int, .fieldLink RX2 9 "NumberFieldFactors$Row" "elements" "[I"] ++ wsX20)
def wsX1_init_r1 : List Cond := [Cond.methodLink RX1 3 objectInit, Cond.instanceMethod objectInit, Cond.code objectInit ⟨#[0xb1]⟩ 1 none, Cond.classLink RX1 9 RX0, Cond.instantiable RX0 8, Cond.initialized RX0, Cond.fieldLink RX1 12 "NumberFieldFactors$Ring" "extension" "LNumberFieldFactors$Extension;", Cond.classLink RX1 18 RX2, Cond.instantiable RX2 1, Cond.initialized RX2, Cond.fieldLink RX1 21 "NumberFieldFactors$Ring" "wide" "LNumberFieldFactors$Row;", Cond.fieldLink RX1 25 "NumberFieldFactors$Ring" "quotient" "LNumberFieldFactors$Row;", Cond.fieldLink RX1 28 "NumberFieldFactors$Ring" "older" "LNumberFieldFactors$Row;", Cond.fieldLink RX1 31 "NumberFieldFactors$Ring" "newer" "LNumberFieldFactors$Row;", Cond.fieldLink RX1 34 "NumberFieldFactors$Ring" "derived" "LNumberFieldFactors$Row;", Cond.fieldLink RX1 37 "NumberFieldFactors$Ring" "mates" "LNumberFieldFactors$Row;", Cond.fieldLink RX1 40 "NumberFieldFactors$Ring" "product" "LNumberFieldFactors$Row;", Cond.fieldLink RX1 43 "NumberFieldFactors$Ring" "moved" "LNumberFieldFactors$Row;", Cond.fieldLink RX1 46 "NumberFieldFactors$Ring" "least" "LNumberFieldFactors$Row;", Cond.fieldLink RX1 49 "NumberFieldFactors$Ring" "common" "LNumberFieldFactors$Row;", Cond.instanceMethod yX0_init, Cond.code yX0_init cX0_init 1 none, Cond.methodLink RX0 3 objectInit, Cond.fieldLink RX0 9 "NumberFieldFactors$Extension" "degree" "I"]
def wsX1_init_r2 : List Cond := [Cond.fieldLink RX0 15 "NumberFieldFactors$Extension" "size" "I", Cond.fieldLink RX0 18 "NumberFieldFactors$Extension" "low0" "I", Cond.fieldLink RX0 21 "NumberFieldFactors$Extension" "low1" "I", Cond.fieldLink RX0 24 "NumberFieldFactors$Extension" "low2" "I", Cond.fieldLink RX0 27 "NumberFieldFactors$Extension" "t" "I", Cond.fieldLink RX0 30 "NumberFieldFactors$Extension" "mateOfT" "I", Cond.fieldLink RX0 33 "NumberFieldFactors$Extension" "mateOfTSquared" "I", Cond.instanceMethod yX2_init, Cond.code yX2_init cX2_init 1 none, Cond.methodLink RX2 3 objectInit, Cond.arrayClass .int, Cond.fieldLink RX2 9 "NumberFieldFactors$Row" "elements" "[I"]
def wsX1_init : List Cond := .code yX1_init cX1_init 1 none :: ((wsX1_init_r1 ++ wsX1_init_r2) ++ wsX00 ++ wsX10 ++ wsX20)
def wsX2_degree : List Cond := .code yX2_degree cX2_degree 2 (some .int) :: ([.fieldLink RX2 9 "NumberFieldFactors$Row" "elements" "[I"] ++ wsX20)
def wsX2_get : List Cond := .code yX2_get cX2_get 2 (some .int) :: ([.fieldLink RX2 9 "NumberFieldFactors$Row" "elements" "[I"] ++ wsX20)
def wsX1_valueOf : List Cond := .code yX1_valueOf cX1_valueOf 5 (some .int) :: ([.fieldLink RX1 12 "NumberFieldFactors$Ring" "extension" "LNumberFieldFactors$Extension;", .methodLink RX1 52 yX2_degree, .instanceMethod yX2_degree, .selects RX2 yX2_degree yX2_degree, .initialized RX2, .code yX2_degree cX2_degree 2 (some .int), .fieldLink RX2 9 "NumberFieldFactors$Row" "elements" "[I", .methodLink RX1 56 yX0_times, .instanceMethod yX0_times, .selects RX0 yX0_times yX0_times, .initialized RX0, .code yX0_times cX0_times 15 (some .int), .fieldLink RX0 9 "NumberFieldFactors$Extension" "degree" "I", .fieldLink RX0 21 "NumberFieldFactors$Extension" "low1" "I", .fieldLink RX0 18 "NumberFieldFactors$Extension" "low0" "I", .fieldLink RX0 24 "NumberFieldFactors$Extension" "low2" "I", .methodLink RX1 60 yX2_get, .instanceMethod yX2_get, .selects RX2 yX2_get yX2_get, .code yX2_get cX2_get 2 (some .int), .methodLink RX1 64 yX0_plus, .instanceMethod yX0_plus, .selects RX0 yX0_plus yX0_plus, .code yX0_plus cX0_plus 6 (some .int)] ++ wsX10 ++ wsX20 ++ wsX00)
def wsX2_set : List Cond := .code yX2_set cX2_set 3 none :: ([.fieldLink RX2 9 "NumberFieldFactors$Row" "elements" "[I"] ++ wsX20)
def wsX1_displace_r1 : List Cond := [Cond.fieldLink RX1 12 "NumberFieldFactors$Ring" "extension" "LNumberFieldFactors$Extension;", Cond.methodLink RX1 52 yX2_degree, Cond.instanceMethod yX2_degree, Cond.selects RX2 yX2_degree yX2_degree, Cond.initialized RX2, Cond.code yX2_degree cX2_degree 2 (some .int), Cond.fieldLink RX2 9 "NumberFieldFactors$Row" "elements" "[I", Cond.methodLink RX1 60 yX2_get, Cond.instanceMethod yX2_get, Cond.selects RX2 yX2_get yX2_get, Cond.code yX2_get cX2_get 2 (some .int), Cond.methodLink RX1 56 yX0_times, Cond.instanceMethod yX0_times, Cond.selects RX0 yX0_times yX0_times, Cond.initialized RX0, Cond.code yX0_times cX0_times 15 (some .int), Cond.fieldLink RX0 9 "NumberFieldFactors$Extension" "degree" "I", Cond.fieldLink RX0 21 "NumberFieldFactors$Extension" "low1" "I", Cond.fieldLink RX0 18 "NumberFieldFactors$Extension" "low0" "I", Cond.fieldLink RX0 24 "NumberFieldFactors$Extension" "low2" "I", Cond.methodLink RX1 64 yX0_plus, Cond.instanceMethod yX0_plus, Cond.selects RX0 yX0_plus yX0_plus, Cond.code yX0_plus cX0_plus 6 (some .int)]
def wsX1_displace_r2 : List Cond := [Cond.methodLink RX1 67 yX2_set, Cond.instanceMethod yX2_set, Cond.selects RX2 yX2_set yX2_set, Cond.code yX2_set cX2_set 3 none]
def wsX1_displace : List Cond := .code yX1_displace cX1_displace 6 none :: ((wsX1_displace_r1 ++ wsX1_displace_r2) ++ wsX10 ++ wsX20 ++ wsX00)
def wsX2_clear : List Cond := .code yX2_clear cX2_clear 2 none :: ([.fieldLink RX2 9 "NumberFieldFactors$Row" "elements" "[I"] ++ wsX20)
def wsX2_copy : List Cond := .code yX2_copy cX2_copy 3 none :: ([.fieldLink RX2 9 "NumberFieldFactors$Row" "elements" "[I", .methodLink RX2 15 yX2_get, .instanceMethod yX2_get, .selects RX2 yX2_get yX2_get, .initialized RX2, .code yX2_get cX2_get 2 (some .int)] ++ wsX20)
def wsX1_multiply_r1 : List Cond := [Cond.fieldLink RX1 21 "NumberFieldFactors$Ring" "wide" "LNumberFieldFactors$Row;", Cond.fieldLink RX1 12 "NumberFieldFactors$Ring" "extension" "LNumberFieldFactors$Extension;", Cond.methodLink RX1 52 yX2_degree, Cond.instanceMethod yX2_degree, Cond.selects RX2 yX2_degree yX2_degree, Cond.initialized RX2, Cond.code yX2_degree cX2_degree 2 (some .int), Cond.fieldLink RX2 9 "NumberFieldFactors$Row" "elements" "[I", Cond.methodLink RX1 71 yX2_clear, Cond.instanceMethod yX2_clear, Cond.selects RX2 yX2_clear yX2_clear, Cond.code yX2_clear cX2_clear 2 none, Cond.methodLink RX1 60 yX2_get, Cond.instanceMethod yX2_get, Cond.selects RX2 yX2_get yX2_get, Cond.code yX2_get cX2_get 2 (some .int), Cond.methodLink RX1 56 yX0_times, Cond.instanceMethod yX0_times, Cond.selects RX0 yX0_times yX0_times, Cond.initialized RX0, Cond.code yX0_times cX0_times 15 (some .int), Cond.fieldLink RX0 9 "NumberFieldFactors$Extension" "degree" "I", Cond.fieldLink RX0 21 "NumberFieldFactors$Extension" "low1" "I", Cond.fieldLink RX0 18 "NumberFieldFactors$Extension" "low0" "I"]
def wsX1_multiply_r2 : List Cond := [Cond.fieldLink RX0 24 "NumberFieldFactors$Extension" "low2" "I", Cond.methodLink RX1 64 yX0_plus, Cond.instanceMethod yX0_plus, Cond.selects RX0 yX0_plus yX0_plus, Cond.code yX0_plus cX0_plus 6 (some .int), Cond.methodLink RX1 67 yX2_set, Cond.instanceMethod yX2_set, Cond.selects RX2 yX2_set yX2_set, Cond.code yX2_set cX2_set 3 none, Cond.methodLink RX1 74 yX2_copy, Cond.instanceMethod yX2_copy, Cond.selects RX2 yX2_copy yX2_copy, Cond.code yX2_copy cX2_copy 3 none, Cond.methodLink RX2 15 yX2_get]
def wsX1_multiply : List Cond := .code yX1_multiply cX1_multiply 8 none :: ((wsX1_multiply_r1 ++ wsX1_multiply_r2) ++ wsX10 ++ wsX20 ++ wsX00)
def wsX1_multiplyLinear_r1 : List Cond := [Cond.fieldLink RX1 12 "NumberFieldFactors$Ring" "extension" "LNumberFieldFactors$Extension;", Cond.methodLink RX1 52 yX2_degree, Cond.instanceMethod yX2_degree, Cond.selects RX2 yX2_degree yX2_degree, Cond.initialized RX2, Cond.code yX2_degree cX2_degree 2 (some .int), Cond.fieldLink RX2 9 "NumberFieldFactors$Row" "elements" "[I", Cond.methodLink RX1 60 yX2_get, Cond.instanceMethod yX2_get, Cond.selects RX2 yX2_get yX2_get, Cond.code yX2_get cX2_get 2 (some .int), Cond.methodLink RX1 56 yX0_times, Cond.instanceMethod yX0_times, Cond.selects RX0 yX0_times yX0_times, Cond.initialized RX0, Cond.code yX0_times cX0_times 15 (some .int), Cond.fieldLink RX0 9 "NumberFieldFactors$Extension" "degree" "I", Cond.fieldLink RX0 21 "NumberFieldFactors$Extension" "low1" "I", Cond.fieldLink RX0 18 "NumberFieldFactors$Extension" "low0" "I", Cond.fieldLink RX0 24 "NumberFieldFactors$Extension" "low2" "I", Cond.methodLink RX1 64 yX0_plus, Cond.instanceMethod yX0_plus, Cond.selects RX0 yX0_plus yX0_plus, Cond.code yX0_plus cX0_plus 6 (some .int)]
def wsX1_multiplyLinear_r2 : List Cond := [Cond.methodLink RX1 67 yX2_set, Cond.instanceMethod yX2_set, Cond.selects RX2 yX2_set yX2_set, Cond.code yX2_set cX2_set 3 none]
def wsX1_multiplyLinear : List Cond := .code yX1_multiplyLinear cX1_multiplyLinear 4 none :: ((wsX1_multiplyLinear_r1 ++ wsX1_multiplyLinear_r2) ++ wsX10 ++ wsX20 ++ wsX00)
def wsX1_divide_r1 : List Cond := [Cond.fieldLink RX1 25 "NumberFieldFactors$Ring" "quotient" "LNumberFieldFactors$Row;", Cond.fieldLink RX1 12 "NumberFieldFactors$Ring" "extension" "LNumberFieldFactors$Extension;", Cond.methodLink RX1 52 yX2_degree, Cond.instanceMethod yX2_degree, Cond.selects RX2 yX2_degree yX2_degree, Cond.initialized RX2, Cond.code yX2_degree cX2_degree 2 (some .int), Cond.fieldLink RX2 9 "NumberFieldFactors$Row" "elements" "[I", Cond.methodLink RX1 71 yX2_clear, Cond.instanceMethod yX2_clear, Cond.selects RX2 yX2_clear yX2_clear, Cond.code yX2_clear cX2_clear 2 none, Cond.methodLink RX1 60 yX2_get, Cond.instanceMethod yX2_get, Cond.selects RX2 yX2_get yX2_get, Cond.code yX2_get cX2_get 2 (some .int), Cond.methodLink RX1 67 yX2_set, Cond.instanceMethod yX2_set, Cond.selects RX2 yX2_set yX2_set, Cond.code yX2_set cX2_set 3 none, Cond.methodLink RX1 56 yX0_times, Cond.instanceMethod yX0_times, Cond.selects RX0 yX0_times yX0_times, Cond.initialized RX0]
def wsX1_divide_r2 : List Cond := [Cond.code yX0_times cX0_times 15 (some .int), Cond.fieldLink RX0 9 "NumberFieldFactors$Extension" "degree" "I", Cond.fieldLink RX0 21 "NumberFieldFactors$Extension" "low1" "I", Cond.fieldLink RX0 18 "NumberFieldFactors$Extension" "low0" "I", Cond.fieldLink RX0 24 "NumberFieldFactors$Extension" "low2" "I", Cond.methodLink RX1 78 yX0_minus, Cond.instanceMethod yX0_minus, Cond.selects RX0 yX0_minus yX0_minus, Cond.code yX0_minus cX0_minus 6 (some .int)]
def wsX1_divide : List Cond := .code yX1_divide cX1_divide 8 none :: ((wsX1_divide_r1 ++ wsX1_divide_r2) ++ wsX10 ++ wsX20 ++ wsX00)
def wsX1_makeMonic_r1 : List Cond := [Cond.fieldLink RX1 12 "NumberFieldFactors$Ring" "extension" "LNumberFieldFactors$Extension;", Cond.methodLink RX1 52 yX2_degree, Cond.instanceMethod yX2_degree, Cond.selects RX2 yX2_degree yX2_degree, Cond.initialized RX2, Cond.code yX2_degree cX2_degree 2 (some .int), Cond.fieldLink RX2 9 "NumberFieldFactors$Row" "elements" "[I", Cond.methodLink RX1 60 yX2_get, Cond.instanceMethod yX2_get, Cond.selects RX2 yX2_get yX2_get, Cond.code yX2_get cX2_get 2 (some .int), Cond.methodLink RX1 85 yX0_power, Cond.instanceMethod yX0_power, Cond.selects RX0 yX0_power yX0_power, Cond.initialized RX0, Cond.code yX0_power cX0_power 6 (some .int), Cond.methodLink RX0 45 yX0_times, Cond.instanceMethod yX0_times, Cond.selects RX0 yX0_times yX0_times, Cond.code yX0_times cX0_times 15 (some .int), Cond.fieldLink RX0 9 "NumberFieldFactors$Extension" "degree" "I", Cond.fieldLink RX0 21 "NumberFieldFactors$Extension" "low1" "I", Cond.fieldLink RX0 18 "NumberFieldFactors$Extension" "low0" "I", Cond.fieldLink RX0 24 "NumberFieldFactors$Extension" "low2" "I"]
def wsX1_makeMonic_r2 : List Cond := [Cond.methodLink RX1 56 yX0_times, Cond.methodLink RX1 67 yX2_set, Cond.instanceMethod yX2_set, Cond.selects RX2 yX2_set yX2_set, Cond.code yX2_set cX2_set 3 none]
def wsX1_makeMonic : List Cond := .code yX1_makeMonic cX1_makeMonic 6 none :: ((wsX1_makeMonic_r1 ++ wsX1_makeMonic_r2) ++ wsX10 ++ wsX00 ++ wsX20)
def wsX1_findCommon_r1 : List Cond := [Cond.fieldLink RX1 28 "NumberFieldFactors$Ring" "older" "LNumberFieldFactors$Row;", Cond.fieldLink RX1 31 "NumberFieldFactors$Ring" "newer" "LNumberFieldFactors$Row;", Cond.methodLink RX1 74 yX2_copy, Cond.instanceMethod yX2_copy, Cond.selects RX2 yX2_copy yX2_copy, Cond.initialized RX2, Cond.code yX2_copy cX2_copy 3 none, Cond.fieldLink RX2 9 "NumberFieldFactors$Row" "elements" "[I", Cond.methodLink RX2 15 yX2_get, Cond.instanceMethod yX2_get, Cond.selects RX2 yX2_get yX2_get, Cond.code yX2_get cX2_get 2 (some .int), Cond.methodLink RX1 52 yX2_degree, Cond.instanceMethod yX2_degree, Cond.selects RX2 yX2_degree yX2_degree, Cond.code yX2_degree cX2_degree 2 (some .int), Cond.methodLink RX1 88 yX1_makeMonic, Cond.instanceMethod yX1_makeMonic, Cond.selects RX1 yX1_makeMonic yX1_makeMonic, Cond.initialized RX1, Cond.code yX1_makeMonic cX1_makeMonic 6 none, Cond.fieldLink RX1 12 "NumberFieldFactors$Ring" "extension" "LNumberFieldFactors$Extension;", Cond.methodLink RX1 60 yX2_get, Cond.methodLink RX1 85 yX0_power]
def wsX1_findCommon_r2 : List Cond := [Cond.instanceMethod yX0_power, Cond.selects RX0 yX0_power yX0_power, Cond.initialized RX0, Cond.code yX0_power cX0_power 6 (some .int), Cond.methodLink RX0 45 yX0_times, Cond.instanceMethod yX0_times, Cond.selects RX0 yX0_times yX0_times, Cond.code yX0_times cX0_times 15 (some .int), Cond.fieldLink RX0 9 "NumberFieldFactors$Extension" "degree" "I", Cond.fieldLink RX0 21 "NumberFieldFactors$Extension" "low1" "I", Cond.fieldLink RX0 18 "NumberFieldFactors$Extension" "low0" "I", Cond.fieldLink RX0 24 "NumberFieldFactors$Extension" "low2" "I", Cond.methodLink RX1 56 yX0_times, Cond.methodLink RX1 67 yX2_set, Cond.instanceMethod yX2_set, Cond.selects RX2 yX2_set yX2_set, Cond.code yX2_set cX2_set 3 none, Cond.methodLink RX1 91 yX1_divide, Cond.instanceMethod yX1_divide, Cond.selects RX1 yX1_divide yX1_divide, Cond.code yX1_divide cX1_divide 8 none, Cond.fieldLink RX1 25 "NumberFieldFactors$Ring" "quotient" "LNumberFieldFactors$Row;", Cond.methodLink RX1 71 yX2_clear, Cond.instanceMethod yX2_clear]
def wsX1_findCommon_r3 : List Cond := [Cond.selects RX2 yX2_clear yX2_clear, Cond.code yX2_clear cX2_clear 2 none, Cond.methodLink RX1 78 yX0_minus, Cond.instanceMethod yX0_minus, Cond.selects RX0 yX0_minus yX0_minus, Cond.code yX0_minus cX0_minus 6 (some .int)]
def wsX1_findCommon : List Cond := .code yX1_findCommon cX1_findCommon 8 none :: ((wsX1_findCommon_r1 ++ (wsX1_findCommon_r2 ++ wsX1_findCommon_r3)) ++ wsX10 ++ wsX20 ++ wsX00)
def wsX1_findSquares_r1 : List Cond := [Cond.fieldLink RX1 34 "NumberFieldFactors$Ring" "derived" "LNumberFieldFactors$Row;", Cond.fieldLink RX1 12 "NumberFieldFactors$Ring" "extension" "LNumberFieldFactors$Extension;", Cond.methodLink RX1 71 yX2_clear, Cond.instanceMethod yX2_clear, Cond.selects RX2 yX2_clear yX2_clear, Cond.initialized RX2, Cond.code yX2_clear cX2_clear 2 none, Cond.fieldLink RX2 9 "NumberFieldFactors$Row" "elements" "[I", Cond.methodLink RX1 52 yX2_degree, Cond.instanceMethod yX2_degree, Cond.selects RX2 yX2_degree yX2_degree, Cond.code yX2_degree cX2_degree 2 (some .int), Cond.methodLink RX1 60 yX2_get, Cond.instanceMethod yX2_get, Cond.selects RX2 yX2_get yX2_get, Cond.code yX2_get cX2_get 2 (some .int), Cond.methodLink RX1 56 yX0_times, Cond.instanceMethod yX0_times, Cond.selects RX0 yX0_times yX0_times, Cond.initialized RX0, Cond.code yX0_times cX0_times 15 (some .int), Cond.fieldLink RX0 9 "NumberFieldFactors$Extension" "degree" "I", Cond.fieldLink RX0 21 "NumberFieldFactors$Extension" "low1" "I", Cond.fieldLink RX0 18 "NumberFieldFactors$Extension" "low0" "I"]
def wsX1_findSquares_r2 : List Cond := [Cond.fieldLink RX0 24 "NumberFieldFactors$Extension" "low2" "I", Cond.methodLink RX1 67 yX2_set, Cond.instanceMethod yX2_set, Cond.selects RX2 yX2_set yX2_set, Cond.code yX2_set cX2_set 3 none, Cond.methodLink RX1 95 yX1_findCommon, Cond.instanceMethod yX1_findCommon, Cond.selects RX1 yX1_findCommon yX1_findCommon, Cond.initialized RX1, Cond.code yX1_findCommon cX1_findCommon 8 none, Cond.fieldLink RX1 28 "NumberFieldFactors$Ring" "older" "LNumberFieldFactors$Row;", Cond.fieldLink RX1 31 "NumberFieldFactors$Ring" "newer" "LNumberFieldFactors$Row;", Cond.methodLink RX1 74 yX2_copy, Cond.instanceMethod yX2_copy, Cond.selects RX2 yX2_copy yX2_copy, Cond.code yX2_copy cX2_copy 3 none, Cond.methodLink RX2 15 yX2_get, Cond.methodLink RX1 88 yX1_makeMonic, Cond.instanceMethod yX1_makeMonic, Cond.selects RX1 yX1_makeMonic yX1_makeMonic, Cond.code yX1_makeMonic cX1_makeMonic 6 none, Cond.methodLink RX1 85 yX0_power, Cond.instanceMethod yX0_power, Cond.selects RX0 yX0_power yX0_power]
def wsX1_findSquares_r3 : List Cond := [Cond.code yX0_power cX0_power 6 (some .int), Cond.methodLink RX0 45 yX0_times, Cond.methodLink RX1 91 yX1_divide, Cond.instanceMethod yX1_divide, Cond.selects RX1 yX1_divide yX1_divide, Cond.code yX1_divide cX1_divide 8 none, Cond.fieldLink RX1 25 "NumberFieldFactors$Ring" "quotient" "LNumberFieldFactors$Row;", Cond.methodLink RX1 78 yX0_minus, Cond.instanceMethod yX0_minus, Cond.selects RX0 yX0_minus yX0_minus, Cond.code yX0_minus cX0_minus 6 (some .int)]
def wsX1_findSquares : List Cond := .code yX1_findSquares cX1_findSquares 4 none :: ((wsX1_findSquares_r1 ++ (wsX1_findSquares_r2 ++ wsX1_findSquares_r3)) ++ wsX10 ++ wsX20 ++ wsX00)
def wsX2_becomeOne : List Cond := .code yX2_becomeOne cX2_becomeOne 1 none :: ([.methodLink RX2 19 yX2_clear, .instanceMethod yX2_clear, .selects RX2 yX2_clear yX2_clear, .initialized RX2, .code yX2_clear cX2_clear 2 none, .fieldLink RX2 9 "NumberFieldFactors$Row" "elements" "[I", .methodLink RX2 22 yX2_set, .instanceMethod yX2_set, .selects RX2 yX2_set yX2_set, .code yX2_set cX2_set 3 none] ++ wsX20)
def wsX1_raiseLinear_r1 : List Cond := [Cond.methodLink RX1 99 yX2_becomeOne, Cond.instanceMethod yX2_becomeOne, Cond.selects RX2 yX2_becomeOne yX2_becomeOne, Cond.initialized RX2, Cond.code yX2_becomeOne cX2_becomeOne 1 none, Cond.methodLink RX2 19 yX2_clear, Cond.instanceMethod yX2_clear, Cond.selects RX2 yX2_clear yX2_clear, Cond.code yX2_clear cX2_clear 2 none, Cond.fieldLink RX2 9 "NumberFieldFactors$Row" "elements" "[I", Cond.methodLink RX2 22 yX2_set, Cond.instanceMethod yX2_set, Cond.selects RX2 yX2_set yX2_set, Cond.code yX2_set cX2_set 3 none, Cond.methodLink RX1 102 yX1_multiply, Cond.instanceMethod yX1_multiply, Cond.selects RX1 yX1_multiply yX1_multiply, Cond.initialized RX1, Cond.code yX1_multiply cX1_multiply 8 none, Cond.fieldLink RX1 21 "NumberFieldFactors$Ring" "wide" "LNumberFieldFactors$Row;", Cond.fieldLink RX1 12 "NumberFieldFactors$Ring" "extension" "LNumberFieldFactors$Extension;", Cond.methodLink RX1 52 yX2_degree, Cond.instanceMethod yX2_degree, Cond.selects RX2 yX2_degree yX2_degree]
def wsX1_raiseLinear_r2 : List Cond := [Cond.code yX2_degree cX2_degree 2 (some .int), Cond.methodLink RX1 71 yX2_clear, Cond.methodLink RX1 60 yX2_get, Cond.instanceMethod yX2_get, Cond.selects RX2 yX2_get yX2_get, Cond.code yX2_get cX2_get 2 (some .int), Cond.methodLink RX1 56 yX0_times, Cond.instanceMethod yX0_times, Cond.selects RX0 yX0_times yX0_times, Cond.initialized RX0, Cond.code yX0_times cX0_times 15 (some .int), Cond.fieldLink RX0 9 "NumberFieldFactors$Extension" "degree" "I", Cond.fieldLink RX0 21 "NumberFieldFactors$Extension" "low1" "I", Cond.fieldLink RX0 18 "NumberFieldFactors$Extension" "low0" "I", Cond.fieldLink RX0 24 "NumberFieldFactors$Extension" "low2" "I", Cond.methodLink RX1 64 yX0_plus, Cond.instanceMethod yX0_plus, Cond.selects RX0 yX0_plus yX0_plus, Cond.code yX0_plus cX0_plus 6 (some .int), Cond.methodLink RX1 67 yX2_set, Cond.methodLink RX1 74 yX2_copy, Cond.instanceMethod yX2_copy, Cond.selects RX2 yX2_copy yX2_copy, Cond.code yX2_copy cX2_copy 3 none]
def wsX1_raiseLinear_r3 : List Cond := [Cond.methodLink RX2 15 yX2_get, Cond.methodLink RX1 105 yX1_multiplyLinear, Cond.instanceMethod yX1_multiplyLinear, Cond.selects RX1 yX1_multiplyLinear yX1_multiplyLinear, Cond.code yX1_multiplyLinear cX1_multiplyLinear 4 none, Cond.methodLink RX1 91 yX1_divide, Cond.instanceMethod yX1_divide, Cond.selects RX1 yX1_divide yX1_divide, Cond.code yX1_divide cX1_divide 8 none, Cond.fieldLink RX1 25 "NumberFieldFactors$Ring" "quotient" "LNumberFieldFactors$Row;", Cond.methodLink RX1 78 yX0_minus, Cond.instanceMethod yX0_minus, Cond.selects RX0 yX0_minus yX0_minus, Cond.code yX0_minus cX0_minus 6 (some .int)]
def wsX1_raiseLinear : List Cond := .code yX1_raiseLinear cX1_raiseLinear 7 none :: ((wsX1_raiseLinear_r1 ++ (wsX1_raiseLinear_r2 ++ wsX1_raiseLinear_r3)) ++ wsX20 ++ wsX10 ++ wsX00)
def wsX1_normOf_r1 : List Cond := [Cond.fieldLink RX1 40 "NumberFieldFactors$Ring" "product" "LNumberFieldFactors$Row;", Cond.fieldLink RX1 37 "NumberFieldFactors$Ring" "mates" "LNumberFieldFactors$Row;", Cond.fieldLink RX1 12 "NumberFieldFactors$Ring" "extension" "LNumberFieldFactors$Extension;", Cond.methodLink RX1 74 yX2_copy, Cond.instanceMethod yX2_copy, Cond.selects RX2 yX2_copy yX2_copy, Cond.initialized RX2, Cond.code yX2_copy cX2_copy 3 none, Cond.fieldLink RX2 9 "NumberFieldFactors$Row" "elements" "[I", Cond.methodLink RX2 15 yX2_get, Cond.instanceMethod yX2_get, Cond.selects RX2 yX2_get yX2_get, Cond.code yX2_get cX2_get 2 (some .int), Cond.methodLink RX1 52 yX2_degree, Cond.instanceMethod yX2_degree, Cond.selects RX2 yX2_degree yX2_degree, Cond.code yX2_degree cX2_degree 2 (some .int), Cond.methodLink RX1 60 yX2_get, Cond.methodLink RX1 111 yX0_mate, Cond.instanceMethod yX0_mate, Cond.selects RX0 yX0_mate yX0_mate, Cond.initialized RX0, Cond.code yX0_mate cX0_mate 4 (some .int), Cond.fieldLink RX0 33 "NumberFieldFactors$Extension" "mateOfTSquared" "I"]
def wsX1_normOf_r2 : List Cond := [Cond.fieldLink RX0 30 "NumberFieldFactors$Extension" "mateOfT" "I", Cond.methodLink RX0 45 yX0_times, Cond.instanceMethod yX0_times, Cond.selects RX0 yX0_times yX0_times, Cond.code yX0_times cX0_times 15 (some .int), Cond.fieldLink RX0 9 "NumberFieldFactors$Extension" "degree" "I", Cond.fieldLink RX0 21 "NumberFieldFactors$Extension" "low1" "I", Cond.fieldLink RX0 18 "NumberFieldFactors$Extension" "low0" "I", Cond.fieldLink RX0 24 "NumberFieldFactors$Extension" "low2" "I", Cond.methodLink RX0 48 yX0_plus, Cond.instanceMethod yX0_plus, Cond.selects RX0 yX0_plus yX0_plus, Cond.code yX0_plus cX0_plus 6 (some .int), Cond.methodLink RX1 67 yX2_set, Cond.instanceMethod yX2_set, Cond.selects RX2 yX2_set yX2_set, Cond.code yX2_set cX2_set 3 none, Cond.methodLink RX1 102 yX1_multiply, Cond.instanceMethod yX1_multiply, Cond.selects RX1 yX1_multiply yX1_multiply, Cond.initialized RX1, Cond.code yX1_multiply cX1_multiply 8 none, Cond.fieldLink RX1 21 "NumberFieldFactors$Ring" "wide" "LNumberFieldFactors$Row;", Cond.methodLink RX1 71 yX2_clear]
def wsX1_normOf_r3 : List Cond := [Cond.instanceMethod yX2_clear, Cond.selects RX2 yX2_clear yX2_clear, Cond.code yX2_clear cX2_clear 2 none, Cond.methodLink RX1 56 yX0_times, Cond.methodLink RX1 64 yX0_plus]
def wsX1_normOf : List Cond := .code yX1_normOf cX1_normOf 5 (some (.object "NumberFieldFactors$Row")) :: ((wsX1_normOf_r1 ++ (wsX1_normOf_r2 ++ wsX1_normOf_r3)) ++ wsX10 ++ wsX00 ++ wsX20)
def wsX1_leastPolynomial_r1 : List Cond := [Cond.fieldLink RX1 12 "NumberFieldFactors$Ring" "extension" "LNumberFieldFactors$Extension;", Cond.fieldLink RX1 46 "NumberFieldFactors$Ring" "least" "LNumberFieldFactors$Row;", Cond.methodLink RX1 114 yX0_differentMates, Cond.instanceMethod yX0_differentMates, Cond.selects RX0 yX0_differentMates yX0_differentMates, Cond.initialized RX0, Cond.code yX0_differentMates cX0_differentMates 2 (some .int), Cond.fieldLink RX0 9 "NumberFieldFactors$Extension" "degree" "I", Cond.methodLink RX0 51 yX0_mate, Cond.instanceMethod yX0_mate, Cond.selects RX0 yX0_mate yX0_mate, Cond.code yX0_mate cX0_mate 4 (some .int), Cond.fieldLink RX0 33 "NumberFieldFactors$Extension" "mateOfTSquared" "I", Cond.fieldLink RX0 30 "NumberFieldFactors$Extension" "mateOfT" "I", Cond.methodLink RX0 45 yX0_times, Cond.instanceMethod yX0_times, Cond.selects RX0 yX0_times yX0_times, Cond.code yX0_times cX0_times 15 (some .int), Cond.fieldLink RX0 21 "NumberFieldFactors$Extension" "low1" "I", Cond.fieldLink RX0 18 "NumberFieldFactors$Extension" "low0" "I", Cond.fieldLink RX0 24 "NumberFieldFactors$Extension" "low2" "I", Cond.methodLink RX0 48 yX0_plus, Cond.instanceMethod yX0_plus, Cond.selects RX0 yX0_plus yX0_plus]
def wsX1_leastPolynomial_r2 : List Cond := [Cond.code yX0_plus cX0_plus 6 (some .int), Cond.methodLink RX1 99 yX2_becomeOne, Cond.instanceMethod yX2_becomeOne, Cond.selects RX2 yX2_becomeOne yX2_becomeOne, Cond.initialized RX2, Cond.code yX2_becomeOne cX2_becomeOne 1 none, Cond.methodLink RX2 19 yX2_clear, Cond.instanceMethod yX2_clear, Cond.selects RX2 yX2_clear yX2_clear, Cond.code yX2_clear cX2_clear 2 none, Cond.fieldLink RX2 9 "NumberFieldFactors$Row" "elements" "[I", Cond.methodLink RX2 22 yX2_set, Cond.instanceMethod yX2_set, Cond.selects RX2 yX2_set yX2_set, Cond.code yX2_set cX2_set 3 none, Cond.methodLink RX1 78 yX0_minus, Cond.instanceMethod yX0_minus, Cond.selects RX0 yX0_minus yX0_minus, Cond.code yX0_minus cX0_minus 6 (some .int), Cond.methodLink RX1 105 yX1_multiplyLinear, Cond.instanceMethod yX1_multiplyLinear, Cond.selects RX1 yX1_multiplyLinear yX1_multiplyLinear, Cond.initialized RX1, Cond.code yX1_multiplyLinear cX1_multiplyLinear 4 none]
def wsX1_leastPolynomial_r3 : List Cond := [Cond.methodLink RX1 52 yX2_degree, Cond.instanceMethod yX2_degree, Cond.selects RX2 yX2_degree yX2_degree, Cond.code yX2_degree cX2_degree 2 (some .int), Cond.methodLink RX1 60 yX2_get, Cond.instanceMethod yX2_get, Cond.selects RX2 yX2_get yX2_get, Cond.code yX2_get cX2_get 2 (some .int), Cond.methodLink RX1 56 yX0_times, Cond.methodLink RX1 64 yX0_plus, Cond.methodLink RX1 67 yX2_set, Cond.methodLink RX1 111 yX0_mate]
def wsX1_leastPolynomial : List Cond := .code yX1_leastPolynomial cX1_leastPolynomial 5 (some (.object "NumberFieldFactors$Row")) :: ((wsX1_leastPolynomial_r1 ++ (wsX1_leastPolynomial_r2 ++ wsX1_leastPolynomial_r3)) ++ wsX10 ++ wsX00 ++ wsX20)
def wsX1_leastShift_r1 : List Cond := [Cond.fieldLink RX1 43 "NumberFieldFactors$Ring" "moved" "LNumberFieldFactors$Row;", Cond.fieldLink RX1 12 "NumberFieldFactors$Ring" "extension" "LNumberFieldFactors$Extension;", Cond.fieldLink RX1 49 "NumberFieldFactors$Ring" "common" "LNumberFieldFactors$Row;", Cond.methodLink RX1 74 yX2_copy, Cond.instanceMethod yX2_copy, Cond.selects RX2 yX2_copy yX2_copy, Cond.initialized RX2, Cond.code yX2_copy cX2_copy 3 none, Cond.fieldLink RX2 9 "NumberFieldFactors$Row" "elements" "[I", Cond.methodLink RX2 15 yX2_get, Cond.instanceMethod yX2_get, Cond.selects RX2 yX2_get yX2_get, Cond.code yX2_get cX2_get 2 (some .int), Cond.methodLink RX1 56 yX0_times, Cond.instanceMethod yX0_times, Cond.selects RX0 yX0_times yX0_times, Cond.initialized RX0, Cond.code yX0_times cX0_times 15 (some .int), Cond.fieldLink RX0 9 "NumberFieldFactors$Extension" "degree" "I", Cond.fieldLink RX0 21 "NumberFieldFactors$Extension" "low1" "I", Cond.fieldLink RX0 18 "NumberFieldFactors$Extension" "low0" "I", Cond.fieldLink RX0 24 "NumberFieldFactors$Extension" "low2" "I", Cond.methodLink RX1 78 yX0_minus, Cond.instanceMethod yX0_minus]
def wsX1_leastShift_r2 : List Cond := [Cond.selects RX0 yX0_minus yX0_minus, Cond.code yX0_minus cX0_minus 6 (some .int), Cond.methodLink RX1 120 yX1_displace, Cond.instanceMethod yX1_displace, Cond.selects RX1 yX1_displace yX1_displace, Cond.initialized RX1, Cond.code yX1_displace cX1_displace 6 none, Cond.methodLink RX1 52 yX2_degree, Cond.instanceMethod yX2_degree, Cond.selects RX2 yX2_degree yX2_degree, Cond.code yX2_degree cX2_degree 2 (some .int), Cond.methodLink RX1 60 yX2_get, Cond.methodLink RX1 64 yX0_plus, Cond.instanceMethod yX0_plus, Cond.selects RX0 yX0_plus yX0_plus, Cond.code yX0_plus cX0_plus 6 (some .int), Cond.methodLink RX1 67 yX2_set, Cond.instanceMethod yX2_set, Cond.selects RX2 yX2_set yX2_set, Cond.code yX2_set cX2_set 3 none, Cond.methodLink RX1 123 yX1_normOf, Cond.instanceMethod yX1_normOf, Cond.selects RX1 yX1_normOf yX1_normOf, Cond.code yX1_normOf cX1_normOf 5 (some (.object "NumberFieldFactors$Row"))]
def wsX1_leastShift_r3 : List Cond := [Cond.fieldLink RX1 40 "NumberFieldFactors$Ring" "product" "LNumberFieldFactors$Row;", Cond.fieldLink RX1 37 "NumberFieldFactors$Ring" "mates" "LNumberFieldFactors$Row;", Cond.methodLink RX1 111 yX0_mate, Cond.instanceMethod yX0_mate, Cond.selects RX0 yX0_mate yX0_mate, Cond.code yX0_mate cX0_mate 4 (some .int), Cond.fieldLink RX0 33 "NumberFieldFactors$Extension" "mateOfTSquared" "I", Cond.fieldLink RX0 30 "NumberFieldFactors$Extension" "mateOfT" "I", Cond.methodLink RX0 45 yX0_times, Cond.methodLink RX0 48 yX0_plus, Cond.methodLink RX1 102 yX1_multiply, Cond.instanceMethod yX1_multiply, Cond.selects RX1 yX1_multiply yX1_multiply, Cond.code yX1_multiply cX1_multiply 8 none, Cond.fieldLink RX1 21 "NumberFieldFactors$Ring" "wide" "LNumberFieldFactors$Row;", Cond.methodLink RX1 71 yX2_clear, Cond.instanceMethod yX2_clear, Cond.selects RX2 yX2_clear yX2_clear, Cond.code yX2_clear cX2_clear 2 none, Cond.methodLink RX1 127 yX1_findSquares, Cond.instanceMethod yX1_findSquares, Cond.selects RX1 yX1_findSquares yX1_findSquares, Cond.code yX1_findSquares cX1_findSquares 4 none, Cond.fieldLink RX1 34 "NumberFieldFactors$Ring" "derived" "LNumberFieldFactors$Row;"]
def wsX1_leastShift_r4 : List Cond := [Cond.methodLink RX1 95 yX1_findCommon, Cond.instanceMethod yX1_findCommon, Cond.selects RX1 yX1_findCommon yX1_findCommon, Cond.code yX1_findCommon cX1_findCommon 8 none, Cond.fieldLink RX1 28 "NumberFieldFactors$Ring" "older" "LNumberFieldFactors$Row;", Cond.fieldLink RX1 31 "NumberFieldFactors$Ring" "newer" "LNumberFieldFactors$Row;", Cond.methodLink RX1 88 yX1_makeMonic, Cond.instanceMethod yX1_makeMonic, Cond.selects RX1 yX1_makeMonic yX1_makeMonic, Cond.code yX1_makeMonic cX1_makeMonic 6 none, Cond.methodLink RX1 85 yX0_power, Cond.instanceMethod yX0_power, Cond.selects RX0 yX0_power yX0_power, Cond.code yX0_power cX0_power 6 (some .int), Cond.methodLink RX1 91 yX1_divide, Cond.instanceMethod yX1_divide, Cond.selects RX1 yX1_divide yX1_divide, Cond.code yX1_divide cX1_divide 8 none, Cond.fieldLink RX1 25 "NumberFieldFactors$Ring" "quotient" "LNumberFieldFactors$Row;"]
def wsX1_leastShift : List Cond := .code yX1_leastShift cX1_leastShift 3 (some .int) :: ((wsX1_leastShift_r1 ++ (wsX1_leastShift_r2 ++ (wsX1_leastShift_r3 ++ wsX1_leastShift_r4))) ++ wsX10 ++ wsX00 ++ wsX20)
def wsX2_isBefore : List Cond := .code yX2_isBefore cX2_isBefore 5 (some .boolean) :: ([.methodLink RX2 26 yX2_degree, .instanceMethod yX2_degree, .selects RX2 yX2_degree yX2_degree, .initialized RX2, .code yX2_degree cX2_degree 2 (some .int), .fieldLink RX2 9 "NumberFieldFactors$Row" "elements" "[I", .methodLink RX2 15 yX2_get, .instanceMethod yX2_get, .selects RX2 yX2_get yX2_get, .code yX2_get cX2_get 2 (some .int)] ++ wsX20)
def wsX3_init : List Cond := .code yX3_init cX3_init 2 none :: ([.methodLink RX3 3 objectInit, .instanceMethod objectInit, .code objectInit ⟨#[0xb1]⟩ 1 none, .classLink RX3 9 RX2, .fieldLink RX3 11 "NumberFieldFactors$Splitter" "parts" "[LNumberFieldFactors$Row;", .arrayClass .int, .fieldLink RX3 17 "NumberFieldFactors$Splitter" "counts" "[I", .fieldLink RX3 21 "NumberFieldFactors$Splitter" "count" "I", .fieldLink RX3 25 "NumberFieldFactors$Splitter" "found" "Z", .instantiable RX2 1, .initialized RX2, .fieldLink RX3 30 "NumberFieldFactors$Splitter" "root" "LNumberFieldFactors$Row;", .fieldLink RX3 34 "NumberFieldFactors$Splitter" "rest" "LNumberFieldFactors$Row;", .fieldLink RX3 37 "NumberFieldFactors$Splitter" "power" "LNumberFieldFactors$Row;", .fieldLink RX3 40 "NumberFieldFactors$Splitter" "shared" "LNumberFieldFactors$Row;", .instanceMethod yX2_init, .code yX2_init cX2_init 1 none, .methodLink RX2 3 objectInit, .fieldLink RX2 9 "NumberFieldFactors$Row" "elements" "[I"] ++ wsX30 ++ wsX20)
def wsX3_forget : List Cond := .code yX3_forget cX3_forget 1 none :: ([.fieldLink RX3 25 "NumberFieldFactors$Splitter" "found" "Z"] ++ wsX30)
def wsX3_part : List Cond := .code yX3_part cX3_part 2 (some (.object "NumberFieldFactors$Row")) :: ([.fieldLink RX3 11 "NumberFieldFactors$Splitter" "parts" "[LNumberFieldFactors$Row;", .fieldLink RX3 30 "NumberFieldFactors$Splitter" "root" "LNumberFieldFactors$Row;"] ++ wsX30)
def wsX3_timesOf : List Cond := .code yX3_timesOf cX3_timesOf 2 (some .int) :: ([.fieldLink RX3 17 "NumberFieldFactors$Splitter" "counts" "[I"] ++ wsX30)
def wsX3_commonDegree : List Cond := .code yX3_commonDegree cX3_commonDegree 5 (some .int) :: ([.fieldLink RX3 21 "NumberFieldFactors$Splitter" "count" "I", .methodLink RX3 43 yX3_part, .instanceMethod yX3_part, .selects RX3 yX3_part yX3_part, .initialized RX3, .code yX3_part cX3_part 2 (some (.object "NumberFieldFactors$Row")), .fieldLink RX3 11 "NumberFieldFactors$Splitter" "parts" "[LNumberFieldFactors$Row;", .fieldLink RX3 30 "NumberFieldFactors$Splitter" "root" "LNumberFieldFactors$Row;", .methodLink RX3 47 yX2_degree, .instanceMethod yX2_degree, .selects RX2 yX2_degree yX2_degree, .initialized RX2, .code yX2_degree cX2_degree 2 (some .int), .fieldLink RX2 9 "NumberFieldFactors$Row" "elements" "[I"] ++ wsX30 ++ wsX20)
def wsX3_keepRoot_r1 : List Cond := [Cond.fieldLink RX3 30 "NumberFieldFactors$Splitter" "root" "LNumberFieldFactors$Row;", Cond.fieldLink RX3 40 "NumberFieldFactors$Splitter" "shared" "LNumberFieldFactors$Row;", Cond.methodLink RX3 61 yX2_copy, Cond.instanceMethod yX2_copy, Cond.selects RX2 yX2_copy yX2_copy, Cond.initialized RX2, Cond.code yX2_copy cX2_copy 3 none, Cond.fieldLink RX2 9 "NumberFieldFactors$Row" "elements" "[I", Cond.methodLink RX2 15 yX2_get, Cond.instanceMethod yX2_get, Cond.selects RX2 yX2_get yX2_get, Cond.code yX2_get cX2_get 2 (some .int), Cond.methodLink RX3 82 yX1_divide, Cond.instanceMethod yX1_divide, Cond.selects RX1 yX1_divide yX1_divide, Cond.initialized RX1, Cond.code yX1_divide cX1_divide 8 none, Cond.fieldLink RX1 25 "NumberFieldFactors$Ring" "quotient" "LNumberFieldFactors$Row;", Cond.fieldLink RX1 12 "NumberFieldFactors$Ring" "extension" "LNumberFieldFactors$Extension;", Cond.methodLink RX1 52 yX2_degree, Cond.instanceMethod yX2_degree, Cond.selects RX2 yX2_degree yX2_degree, Cond.code yX2_degree cX2_degree 2 (some .int), Cond.methodLink RX1 71 yX2_clear]
def wsX3_keepRoot_r2 : List Cond := [Cond.instanceMethod yX2_clear, Cond.selects RX2 yX2_clear yX2_clear, Cond.code yX2_clear cX2_clear 2 none, Cond.methodLink RX1 60 yX2_get, Cond.methodLink RX1 67 yX2_set, Cond.instanceMethod yX2_set, Cond.selects RX2 yX2_set yX2_set, Cond.code yX2_set cX2_set 3 none, Cond.methodLink RX1 56 yX0_times, Cond.instanceMethod yX0_times, Cond.selects RX0 yX0_times yX0_times, Cond.initialized RX0, Cond.code yX0_times cX0_times 15 (some .int), Cond.fieldLink RX0 9 "NumberFieldFactors$Extension" "degree" "I", Cond.fieldLink RX0 21 "NumberFieldFactors$Extension" "low1" "I", Cond.fieldLink RX0 18 "NumberFieldFactors$Extension" "low0" "I", Cond.fieldLink RX0 24 "NumberFieldFactors$Extension" "low2" "I", Cond.methodLink RX1 78 yX0_minus, Cond.instanceMethod yX0_minus, Cond.selects RX0 yX0_minus yX0_minus, Cond.code yX0_minus cX0_minus 6 (some .int), Cond.methodLink RX3 88 yX1_makeMonic, Cond.instanceMethod yX1_makeMonic, Cond.selects RX1 yX1_makeMonic yX1_makeMonic]
def wsX3_keepRoot_r3 : List Cond := [Cond.code yX1_makeMonic cX1_makeMonic 6 none, Cond.methodLink RX1 85 yX0_power, Cond.instanceMethod yX0_power, Cond.selects RX0 yX0_power yX0_power, Cond.code yX0_power cX0_power 6 (some .int), Cond.methodLink RX0 45 yX0_times]
def wsX3_keepRoot : List Cond := .code yX3_keepRoot cX3_keepRoot 3 none :: ((wsX3_keepRoot_r1 ++ (wsX3_keepRoot_r2 ++ wsX3_keepRoot_r3)) ++ wsX30 ++ wsX10 ++ wsX20 ++ wsX00)
def wsX3_sizeToThe : List Cond := .code yX3_sizeToThe cX3_sizeToThe 4 (some .long) :: ([] ++ wsX10 ++ wsX00)
def wsX3_add : List Cond := .code yX3_add cX3_add 2 none :: ([.fieldLink RX3 21 "NumberFieldFactors$Splitter" "count" "I", .fieldLink RX3 11 "NumberFieldFactors$Splitter" "parts" "[LNumberFieldFactors$Row;", .methodLink RX3 61 yX2_copy, .instanceMethod yX2_copy, .selects RX2 yX2_copy yX2_copy, .initialized RX2, .code yX2_copy cX2_copy 3 none, .fieldLink RX2 9 "NumberFieldFactors$Row" "elements" "[I", .methodLink RX2 15 yX2_get, .instanceMethod yX2_get, .selects RX2 yX2_get yX2_get, .code yX2_get cX2_get 2 (some .int)] ++ wsX30 ++ wsX20)
def wsX3_collect_r1 : List Cond := [Cond.fieldLink RX3 34 "NumberFieldFactors$Splitter" "rest" "LNumberFieldFactors$Row;", Cond.fieldLink RX3 37 "NumberFieldFactors$Splitter" "power" "LNumberFieldFactors$Row;", Cond.fieldLink RX3 40 "NumberFieldFactors$Splitter" "shared" "LNumberFieldFactors$Row;", Cond.methodLink RX3 100 yX3_sizeToThe, Cond.static yX3_sizeToThe, Cond.initialized RX3, Cond.code yX3_sizeToThe cX3_sizeToThe 4 (some .long), Cond.methodLink RX3 104 yX1_raiseLinear, Cond.instanceMethod yX1_raiseLinear, Cond.selects RX1 yX1_raiseLinear yX1_raiseLinear, Cond.initialized RX1, Cond.code yX1_raiseLinear cX1_raiseLinear 7 none, Cond.methodLink RX1 99 yX2_becomeOne, Cond.instanceMethod yX2_becomeOne, Cond.selects RX2 yX2_becomeOne yX2_becomeOne, Cond.initialized RX2, Cond.code yX2_becomeOne cX2_becomeOne 1 none, Cond.methodLink RX2 19 yX2_clear, Cond.instanceMethod yX2_clear, Cond.selects RX2 yX2_clear yX2_clear, Cond.code yX2_clear cX2_clear 2 none, Cond.fieldLink RX2 9 "NumberFieldFactors$Row" "elements" "[I", Cond.methodLink RX2 22 yX2_set, Cond.instanceMethod yX2_set]
def wsX3_collect_r2 : List Cond := [Cond.selects RX2 yX2_set yX2_set, Cond.code yX2_set cX2_set 3 none, Cond.methodLink RX1 102 yX1_multiply, Cond.instanceMethod yX1_multiply, Cond.selects RX1 yX1_multiply yX1_multiply, Cond.code yX1_multiply cX1_multiply 8 none, Cond.fieldLink RX1 21 "NumberFieldFactors$Ring" "wide" "LNumberFieldFactors$Row;", Cond.fieldLink RX1 12 "NumberFieldFactors$Ring" "extension" "LNumberFieldFactors$Extension;", Cond.methodLink RX1 52 yX2_degree, Cond.instanceMethod yX2_degree, Cond.selects RX2 yX2_degree yX2_degree, Cond.code yX2_degree cX2_degree 2 (some .int), Cond.methodLink RX1 71 yX2_clear, Cond.methodLink RX1 60 yX2_get, Cond.instanceMethod yX2_get, Cond.selects RX2 yX2_get yX2_get, Cond.code yX2_get cX2_get 2 (some .int), Cond.methodLink RX1 56 yX0_times, Cond.instanceMethod yX0_times, Cond.selects RX0 yX0_times yX0_times, Cond.initialized RX0, Cond.code yX0_times cX0_times 15 (some .int), Cond.fieldLink RX0 9 "NumberFieldFactors$Extension" "degree" "I", Cond.fieldLink RX0 21 "NumberFieldFactors$Extension" "low1" "I"]
def wsX3_collect_r3 : List Cond := [Cond.fieldLink RX0 18 "NumberFieldFactors$Extension" "low0" "I", Cond.fieldLink RX0 24 "NumberFieldFactors$Extension" "low2" "I", Cond.methodLink RX1 64 yX0_plus, Cond.instanceMethod yX0_plus, Cond.selects RX0 yX0_plus yX0_plus, Cond.code yX0_plus cX0_plus 6 (some .int), Cond.methodLink RX1 67 yX2_set, Cond.methodLink RX1 74 yX2_copy, Cond.instanceMethod yX2_copy, Cond.selects RX2 yX2_copy yX2_copy, Cond.code yX2_copy cX2_copy 3 none, Cond.methodLink RX2 15 yX2_get, Cond.methodLink RX1 105 yX1_multiplyLinear, Cond.instanceMethod yX1_multiplyLinear, Cond.selects RX1 yX1_multiplyLinear yX1_multiplyLinear, Cond.code yX1_multiplyLinear cX1_multiplyLinear 4 none, Cond.methodLink RX1 91 yX1_divide, Cond.instanceMethod yX1_divide, Cond.selects RX1 yX1_divide yX1_divide, Cond.code yX1_divide cX1_divide 8 none, Cond.fieldLink RX1 25 "NumberFieldFactors$Ring" "quotient" "LNumberFieldFactors$Row;", Cond.methodLink RX1 78 yX0_minus, Cond.instanceMethod yX0_minus, Cond.selects RX0 yX0_minus yX0_minus]
def wsX3_collect_r4 : List Cond := [Cond.code yX0_minus cX0_minus 6 (some .int), Cond.methodLink RX3 108 yX2_get, Cond.methodLink RX3 112 yX0_minus, Cond.methodLink RX3 116 yX2_set, Cond.methodLink RX3 120 yX1_findCommon, Cond.instanceMethod yX1_findCommon, Cond.selects RX1 yX1_findCommon yX1_findCommon, Cond.code yX1_findCommon cX1_findCommon 8 none, Cond.fieldLink RX1 28 "NumberFieldFactors$Ring" "older" "LNumberFieldFactors$Row;", Cond.fieldLink RX1 31 "NumberFieldFactors$Ring" "newer" "LNumberFieldFactors$Row;", Cond.methodLink RX1 88 yX1_makeMonic, Cond.instanceMethod yX1_makeMonic, Cond.selects RX1 yX1_makeMonic yX1_makeMonic, Cond.code yX1_makeMonic cX1_makeMonic 6 none, Cond.methodLink RX1 85 yX0_power, Cond.instanceMethod yX0_power, Cond.selects RX0 yX0_power yX0_power, Cond.code yX0_power cX0_power 6 (some .int), Cond.methodLink RX0 45 yX0_times, Cond.methodLink RX3 47 yX2_degree, Cond.methodLink RX3 73 yX3_add, Cond.instanceMethod yX3_add, Cond.selects RX3 yX3_add yX3_add, Cond.code yX3_add cX3_add 2 none]
def wsX3_collect_r5 : List Cond := [Cond.fieldLink RX3 21 "NumberFieldFactors$Splitter" "count" "I", Cond.fieldLink RX3 11 "NumberFieldFactors$Splitter" "parts" "[LNumberFieldFactors$Row;", Cond.methodLink RX3 61 yX2_copy, Cond.methodLink RX3 82 yX1_divide]
def wsX3_collect : List Cond := .code yX3_collect cX3_collect 3 none :: ((wsX3_collect_r1 ++ (wsX3_collect_r2 ++ (wsX3_collect_r3 ++ (wsX3_collect_r4 ++ wsX3_collect_r5)))) ++ wsX30 ++ wsX10 ++ wsX00 ++ wsX20)
def wsX3_separate_r1 : List Cond := [Cond.constantLong RX3 124 (2), Cond.fieldLink RX3 21 "NumberFieldFactors$Splitter" "count" "I", Cond.fieldLink RX3 37 "NumberFieldFactors$Splitter" "power" "LNumberFieldFactors$Row;", Cond.fieldLink RX3 40 "NumberFieldFactors$Splitter" "shared" "LNumberFieldFactors$Row;", Cond.methodLink RX3 100 yX3_sizeToThe, Cond.static yX3_sizeToThe, Cond.initialized RX3, Cond.code yX3_sizeToThe cX3_sizeToThe 4 (some .long), Cond.methodLink RX3 43 yX3_part, Cond.instanceMethod yX3_part, Cond.selects RX3 yX3_part yX3_part, Cond.code yX3_part cX3_part 2 (some (.object "NumberFieldFactors$Row")), Cond.fieldLink RX3 11 "NumberFieldFactors$Splitter" "parts" "[LNumberFieldFactors$Row;", Cond.fieldLink RX3 30 "NumberFieldFactors$Splitter" "root" "LNumberFieldFactors$Row;", Cond.methodLink RX3 47 yX2_degree, Cond.instanceMethod yX2_degree, Cond.selects RX2 yX2_degree yX2_degree, Cond.initialized RX2, Cond.code yX2_degree cX2_degree 2 (some .int), Cond.fieldLink RX2 9 "NumberFieldFactors$Row" "elements" "[I", Cond.methodLink RX3 104 yX1_raiseLinear, Cond.instanceMethod yX1_raiseLinear, Cond.selects RX1 yX1_raiseLinear yX1_raiseLinear, Cond.initialized RX1]
def wsX3_separate_r2 : List Cond := [Cond.code yX1_raiseLinear cX1_raiseLinear 7 none, Cond.methodLink RX1 99 yX2_becomeOne, Cond.instanceMethod yX2_becomeOne, Cond.selects RX2 yX2_becomeOne yX2_becomeOne, Cond.code yX2_becomeOne cX2_becomeOne 1 none, Cond.methodLink RX2 19 yX2_clear, Cond.instanceMethod yX2_clear, Cond.selects RX2 yX2_clear yX2_clear, Cond.code yX2_clear cX2_clear 2 none, Cond.methodLink RX2 22 yX2_set, Cond.instanceMethod yX2_set, Cond.selects RX2 yX2_set yX2_set, Cond.code yX2_set cX2_set 3 none, Cond.methodLink RX1 102 yX1_multiply, Cond.instanceMethod yX1_multiply, Cond.selects RX1 yX1_multiply yX1_multiply, Cond.code yX1_multiply cX1_multiply 8 none, Cond.fieldLink RX1 21 "NumberFieldFactors$Ring" "wide" "LNumberFieldFactors$Row;", Cond.fieldLink RX1 12 "NumberFieldFactors$Ring" "extension" "LNumberFieldFactors$Extension;", Cond.methodLink RX1 52 yX2_degree, Cond.methodLink RX1 71 yX2_clear, Cond.methodLink RX1 60 yX2_get, Cond.instanceMethod yX2_get, Cond.selects RX2 yX2_get yX2_get]
def wsX3_separate_r3 : List Cond := [Cond.code yX2_get cX2_get 2 (some .int), Cond.methodLink RX1 56 yX0_times, Cond.instanceMethod yX0_times, Cond.selects RX0 yX0_times yX0_times, Cond.initialized RX0, Cond.code yX0_times cX0_times 15 (some .int), Cond.fieldLink RX0 9 "NumberFieldFactors$Extension" "degree" "I", Cond.fieldLink RX0 21 "NumberFieldFactors$Extension" "low1" "I", Cond.fieldLink RX0 18 "NumberFieldFactors$Extension" "low0" "I", Cond.fieldLink RX0 24 "NumberFieldFactors$Extension" "low2" "I", Cond.methodLink RX1 64 yX0_plus, Cond.instanceMethod yX0_plus, Cond.selects RX0 yX0_plus yX0_plus, Cond.code yX0_plus cX0_plus 6 (some .int), Cond.methodLink RX1 67 yX2_set, Cond.methodLink RX1 74 yX2_copy, Cond.instanceMethod yX2_copy, Cond.selects RX2 yX2_copy yX2_copy, Cond.code yX2_copy cX2_copy 3 none, Cond.methodLink RX2 15 yX2_get, Cond.methodLink RX1 105 yX1_multiplyLinear, Cond.instanceMethod yX1_multiplyLinear, Cond.selects RX1 yX1_multiplyLinear yX1_multiplyLinear, Cond.code yX1_multiplyLinear cX1_multiplyLinear 4 none]
def wsX3_separate_r4 : List Cond := [Cond.methodLink RX1 91 yX1_divide, Cond.instanceMethod yX1_divide, Cond.selects RX1 yX1_divide yX1_divide, Cond.code yX1_divide cX1_divide 8 none, Cond.fieldLink RX1 25 "NumberFieldFactors$Ring" "quotient" "LNumberFieldFactors$Row;", Cond.methodLink RX1 78 yX0_minus, Cond.instanceMethod yX0_minus, Cond.selects RX0 yX0_minus yX0_minus, Cond.code yX0_minus cX0_minus 6 (some .int), Cond.methodLink RX3 108 yX2_get, Cond.methodLink RX3 112 yX0_minus, Cond.methodLink RX3 116 yX2_set, Cond.methodLink RX3 120 yX1_findCommon, Cond.instanceMethod yX1_findCommon, Cond.selects RX1 yX1_findCommon yX1_findCommon, Cond.code yX1_findCommon cX1_findCommon 8 none, Cond.fieldLink RX1 28 "NumberFieldFactors$Ring" "older" "LNumberFieldFactors$Row;", Cond.fieldLink RX1 31 "NumberFieldFactors$Ring" "newer" "LNumberFieldFactors$Row;", Cond.methodLink RX1 88 yX1_makeMonic, Cond.instanceMethod yX1_makeMonic, Cond.selects RX1 yX1_makeMonic yX1_makeMonic, Cond.code yX1_makeMonic cX1_makeMonic 6 none, Cond.methodLink RX1 85 yX0_power, Cond.instanceMethod yX0_power]
def wsX3_separate_r5 : List Cond := [Cond.selects RX0 yX0_power yX0_power, Cond.code yX0_power cX0_power 6 (some .int), Cond.methodLink RX0 45 yX0_times, Cond.methodLink RX3 82 yX1_divide, Cond.methodLink RX3 61 yX2_copy, Cond.methodLink RX3 73 yX3_add, Cond.instanceMethod yX3_add, Cond.selects RX3 yX3_add yX3_add, Cond.code yX3_add cX3_add 2 none]
def wsX3_separate : List Cond := .code yX3_separate cX3_separate 13 none :: ((wsX3_separate_r1 ++ (wsX3_separate_r2 ++ (wsX3_separate_r3 ++ (wsX3_separate_r4 ++ wsX3_separate_r5)))) ++ wsX10 ++ wsX00 ++ wsX30 ++ wsX20)
def wsX3_sort : List Cond := .code yX3_sort cX3_sort 4 none :: ([.fieldLink RX3 21 "NumberFieldFactors$Splitter" "count" "I", .fieldLink RX3 11 "NumberFieldFactors$Splitter" "parts" "[LNumberFieldFactors$Row;", .methodLink RX3 126 yX2_isBefore, .instanceMethod yX2_isBefore, .selects RX2 yX2_isBefore yX2_isBefore, .initialized RX2, .code yX2_isBefore cX2_isBefore 5 (some .boolean), .methodLink RX2 26 yX2_degree, .instanceMethod yX2_degree, .selects RX2 yX2_degree yX2_degree, .code yX2_degree cX2_degree 2 (some .int), .fieldLink RX2 9 "NumberFieldFactors$Row" "elements" "[I", .methodLink RX2 15 yX2_get, .instanceMethod yX2_get, .selects RX2 yX2_get yX2_get, .code yX2_get cX2_get 2 (some .int)] ++ wsX30 ++ wsX20)
def wsX3_countTimes_r1 : List Cond := [Cond.fieldLink RX3 21 "NumberFieldFactors$Splitter" "count" "I", Cond.fieldLink RX3 17 "NumberFieldFactors$Splitter" "counts" "[I", Cond.fieldLink RX3 34 "NumberFieldFactors$Splitter" "rest" "LNumberFieldFactors$Row;", Cond.methodLink RX3 61 yX2_copy, Cond.instanceMethod yX2_copy, Cond.selects RX2 yX2_copy yX2_copy, Cond.initialized RX2, Cond.code yX2_copy cX2_copy 3 none, Cond.fieldLink RX2 9 "NumberFieldFactors$Row" "elements" "[I", Cond.methodLink RX2 15 yX2_get, Cond.instanceMethod yX2_get, Cond.selects RX2 yX2_get yX2_get, Cond.code yX2_get cX2_get 2 (some .int), Cond.methodLink RX3 43 yX3_part, Cond.instanceMethod yX3_part, Cond.selects RX3 yX3_part yX3_part, Cond.initialized RX3, Cond.code yX3_part cX3_part 2 (some (.object "NumberFieldFactors$Row")), Cond.fieldLink RX3 11 "NumberFieldFactors$Splitter" "parts" "[LNumberFieldFactors$Row;", Cond.fieldLink RX3 30 "NumberFieldFactors$Splitter" "root" "LNumberFieldFactors$Row;", Cond.methodLink RX3 82 yX1_divide, Cond.instanceMethod yX1_divide, Cond.selects RX1 yX1_divide yX1_divide, Cond.initialized RX1]
def wsX3_countTimes_r2 : List Cond := [Cond.code yX1_divide cX1_divide 8 none, Cond.fieldLink RX1 25 "NumberFieldFactors$Ring" "quotient" "LNumberFieldFactors$Row;", Cond.fieldLink RX1 12 "NumberFieldFactors$Ring" "extension" "LNumberFieldFactors$Extension;", Cond.methodLink RX1 52 yX2_degree, Cond.instanceMethod yX2_degree, Cond.selects RX2 yX2_degree yX2_degree, Cond.code yX2_degree cX2_degree 2 (some .int), Cond.methodLink RX1 71 yX2_clear, Cond.instanceMethod yX2_clear, Cond.selects RX2 yX2_clear yX2_clear, Cond.code yX2_clear cX2_clear 2 none, Cond.methodLink RX1 60 yX2_get, Cond.methodLink RX1 67 yX2_set, Cond.instanceMethod yX2_set, Cond.selects RX2 yX2_set yX2_set, Cond.code yX2_set cX2_set 3 none, Cond.methodLink RX1 56 yX0_times, Cond.instanceMethod yX0_times, Cond.selects RX0 yX0_times yX0_times, Cond.initialized RX0, Cond.code yX0_times cX0_times 15 (some .int), Cond.fieldLink RX0 9 "NumberFieldFactors$Extension" "degree" "I", Cond.fieldLink RX0 21 "NumberFieldFactors$Extension" "low1" "I", Cond.fieldLink RX0 18 "NumberFieldFactors$Extension" "low0" "I"]
def wsX3_countTimes_r3 : List Cond := [Cond.fieldLink RX0 24 "NumberFieldFactors$Extension" "low2" "I", Cond.methodLink RX1 78 yX0_minus, Cond.instanceMethod yX0_minus, Cond.selects RX0 yX0_minus yX0_minus, Cond.code yX0_minus cX0_minus 6 (some .int), Cond.methodLink RX3 47 yX2_degree]
def wsX3_countTimes : List Cond := .code yX3_countTimes cX3_countTimes 5 none :: ((wsX3_countTimes_r1 ++ (wsX3_countTimes_r2 ++ wsX3_countTimes_r3)) ++ wsX30 ++ wsX10 ++ wsX20 ++ wsX00)
def wsX3_find_r1 : List Cond := [Cond.fieldLink RX3 25 "NumberFieldFactors$Splitter" "found" "Z", Cond.fieldLink RX3 21 "NumberFieldFactors$Splitter" "count" "I", Cond.fieldLink RX3 40 "NumberFieldFactors$Splitter" "shared" "LNumberFieldFactors$Row;", Cond.fieldLink RX3 34 "NumberFieldFactors$Splitter" "rest" "LNumberFieldFactors$Row;", Cond.fieldLink RX3 30 "NumberFieldFactors$Splitter" "root" "LNumberFieldFactors$Row;", Cond.methodLink RX3 51 yX1_findSquares, Cond.instanceMethod yX1_findSquares, Cond.selects RX1 yX1_findSquares yX1_findSquares, Cond.initialized RX1, Cond.code yX1_findSquares cX1_findSquares 4 none, Cond.fieldLink RX1 34 "NumberFieldFactors$Ring" "derived" "LNumberFieldFactors$Row;", Cond.fieldLink RX1 12 "NumberFieldFactors$Ring" "extension" "LNumberFieldFactors$Extension;", Cond.methodLink RX1 71 yX2_clear, Cond.instanceMethod yX2_clear, Cond.selects RX2 yX2_clear yX2_clear, Cond.initialized RX2, Cond.code yX2_clear cX2_clear 2 none, Cond.fieldLink RX2 9 "NumberFieldFactors$Row" "elements" "[I", Cond.methodLink RX1 52 yX2_degree, Cond.instanceMethod yX2_degree, Cond.selects RX2 yX2_degree yX2_degree, Cond.code yX2_degree cX2_degree 2 (some .int), Cond.methodLink RX1 60 yX2_get, Cond.instanceMethod yX2_get]
def wsX3_find_r2 : List Cond := [Cond.selects RX2 yX2_get yX2_get, Cond.code yX2_get cX2_get 2 (some .int), Cond.methodLink RX1 56 yX0_times, Cond.instanceMethod yX0_times, Cond.selects RX0 yX0_times yX0_times, Cond.initialized RX0, Cond.code yX0_times cX0_times 15 (some .int), Cond.fieldLink RX0 9 "NumberFieldFactors$Extension" "degree" "I", Cond.fieldLink RX0 21 "NumberFieldFactors$Extension" "low1" "I", Cond.fieldLink RX0 18 "NumberFieldFactors$Extension" "low0" "I", Cond.fieldLink RX0 24 "NumberFieldFactors$Extension" "low2" "I", Cond.methodLink RX1 67 yX2_set, Cond.instanceMethod yX2_set, Cond.selects RX2 yX2_set yX2_set, Cond.code yX2_set cX2_set 3 none, Cond.methodLink RX1 95 yX1_findCommon, Cond.instanceMethod yX1_findCommon, Cond.selects RX1 yX1_findCommon yX1_findCommon, Cond.code yX1_findCommon cX1_findCommon 8 none, Cond.fieldLink RX1 28 "NumberFieldFactors$Ring" "older" "LNumberFieldFactors$Row;", Cond.fieldLink RX1 31 "NumberFieldFactors$Ring" "newer" "LNumberFieldFactors$Row;", Cond.methodLink RX1 74 yX2_copy, Cond.instanceMethod yX2_copy, Cond.selects RX2 yX2_copy yX2_copy]
def wsX3_find_r3 : List Cond := [Cond.code yX2_copy cX2_copy 3 none, Cond.methodLink RX2 15 yX2_get, Cond.methodLink RX1 88 yX1_makeMonic, Cond.instanceMethod yX1_makeMonic, Cond.selects RX1 yX1_makeMonic yX1_makeMonic, Cond.code yX1_makeMonic cX1_makeMonic 6 none, Cond.methodLink RX1 85 yX0_power, Cond.instanceMethod yX0_power, Cond.selects RX0 yX0_power yX0_power, Cond.code yX0_power cX0_power 6 (some .int), Cond.methodLink RX0 45 yX0_times, Cond.methodLink RX1 91 yX1_divide, Cond.instanceMethod yX1_divide, Cond.selects RX1 yX1_divide yX1_divide, Cond.code yX1_divide cX1_divide 8 none, Cond.fieldLink RX1 25 "NumberFieldFactors$Ring" "quotient" "LNumberFieldFactors$Row;", Cond.methodLink RX1 78 yX0_minus, Cond.instanceMethod yX0_minus, Cond.selects RX0 yX0_minus yX0_minus, Cond.code yX0_minus cX0_minus 6 (some .int), Cond.methodLink RX3 57 yX3_keepRoot, Cond.instanceMethod yX3_keepRoot, Cond.selects RX3 yX3_keepRoot yX3_keepRoot, Cond.initialized RX3]
def wsX3_find_r4 : List Cond := [Cond.code yX3_keepRoot cX3_keepRoot 3 none, Cond.methodLink RX3 61 yX2_copy, Cond.methodLink RX3 82 yX1_divide, Cond.methodLink RX3 88 yX1_makeMonic, Cond.methodLink RX3 47 yX2_degree, Cond.methodLink RX3 65 yX3_collect, Cond.instanceMethod yX3_collect, Cond.selects RX3 yX3_collect yX3_collect, Cond.code yX3_collect cX3_collect 3 none, Cond.fieldLink RX3 37 "NumberFieldFactors$Splitter" "power" "LNumberFieldFactors$Row;", Cond.methodLink RX3 100 yX3_sizeToThe, Cond.static yX3_sizeToThe, Cond.code yX3_sizeToThe cX3_sizeToThe 4 (some .long), Cond.methodLink RX3 104 yX1_raiseLinear, Cond.instanceMethod yX1_raiseLinear, Cond.selects RX1 yX1_raiseLinear yX1_raiseLinear, Cond.code yX1_raiseLinear cX1_raiseLinear 7 none, Cond.methodLink RX1 99 yX2_becomeOne, Cond.instanceMethod yX2_becomeOne, Cond.selects RX2 yX2_becomeOne yX2_becomeOne, Cond.code yX2_becomeOne cX2_becomeOne 1 none, Cond.methodLink RX2 19 yX2_clear, Cond.methodLink RX2 22 yX2_set, Cond.methodLink RX1 102 yX1_multiply]
def wsX3_find_r5 : List Cond := [Cond.instanceMethod yX1_multiply, Cond.selects RX1 yX1_multiply yX1_multiply, Cond.code yX1_multiply cX1_multiply 8 none, Cond.fieldLink RX1 21 "NumberFieldFactors$Ring" "wide" "LNumberFieldFactors$Row;", Cond.methodLink RX1 64 yX0_plus, Cond.instanceMethod yX0_plus, Cond.selects RX0 yX0_plus yX0_plus, Cond.code yX0_plus cX0_plus 6 (some .int), Cond.methodLink RX1 105 yX1_multiplyLinear, Cond.instanceMethod yX1_multiplyLinear, Cond.selects RX1 yX1_multiplyLinear yX1_multiplyLinear, Cond.code yX1_multiplyLinear cX1_multiplyLinear 4 none, Cond.methodLink RX3 108 yX2_get, Cond.methodLink RX3 112 yX0_minus, Cond.methodLink RX3 116 yX2_set, Cond.methodLink RX3 120 yX1_findCommon, Cond.methodLink RX3 73 yX3_add, Cond.instanceMethod yX3_add, Cond.selects RX3 yX3_add yX3_add, Cond.code yX3_add cX3_add 2 none, Cond.fieldLink RX3 11 "NumberFieldFactors$Splitter" "parts" "[LNumberFieldFactors$Row;", Cond.methodLink RX3 69 yX3_separate, Cond.instanceMethod yX3_separate, Cond.selects RX3 yX3_separate yX3_separate]
def wsX3_find_r6 : List Cond := [Cond.code yX3_separate cX3_separate 13 none, Cond.constantLong RX3 124 (2), Cond.methodLink RX3 43 yX3_part, Cond.instanceMethod yX3_part, Cond.selects RX3 yX3_part yX3_part, Cond.code yX3_part cX3_part 2 (some (.object "NumberFieldFactors$Row")), Cond.methodLink RX3 76 yX3_sort, Cond.instanceMethod yX3_sort, Cond.selects RX3 yX3_sort yX3_sort, Cond.code yX3_sort cX3_sort 4 none, Cond.methodLink RX3 126 yX2_isBefore, Cond.instanceMethod yX2_isBefore, Cond.selects RX2 yX2_isBefore yX2_isBefore, Cond.code yX2_isBefore cX2_isBefore 5 (some .boolean), Cond.methodLink RX2 26 yX2_degree, Cond.methodLink RX3 79 yX3_countTimes, Cond.instanceMethod yX3_countTimes, Cond.selects RX3 yX3_countTimes yX3_countTimes, Cond.code yX3_countTimes cX3_countTimes 5 none, Cond.fieldLink RX3 17 "NumberFieldFactors$Splitter" "counts" "[I"]
def wsX3_find : List Cond := .code yX3_find cX3_find 5 none :: ((wsX3_find_r1 ++ (wsX3_find_r2 ++ (wsX3_find_r3 ++ (wsX3_find_r4 ++ (wsX3_find_r5 ++ wsX3_find_r6))))) ++ wsX30 ++ wsX10 ++ wsX20 ++ wsX00)
abbrev vwCl : List vw_C := [(RX0, TX0, 8), (RX1, TX1, 11), (RX2, TX2, 1), (RX3, TX3, 8), (RX4, TX4, 3), (RX5, TX5, 10)]
end
section
theorem dX2_init_0 : decode cX2_init 0 = .ok (.aload_n 0, 1) := by decide +kernel
theorem dX2_init_1 : decode cX2_init 1 = .ok (.invokespecial 3, 3) := by decide +kernel
theorem dX2_init_4 : decode cX2_init 4 = .ok (.aload_n 0, 1) := by decide +kernel
theorem dX2_init_5 : decode cX2_init 5 = .ok (.bipush 16, 2) := by decide +kernel
theorem dX2_init_7 : decode cX2_init 7 = .ok (.newarray .int, 2) := by decide +kernel
theorem dX2_init_9 : decode cX2_init 9 = .ok (.putfield 9, 3) := by decide +kernel
theorem dX2_init_12 : decode cX2_init 12 = .ok (.return_, 1) := by decide +kernel
theorem dX2_get_0 : decode cX2_get 0 = .ok (.iload_n 1, 1) := by decide +kernel
theorem dX2_get_1 : decode cX2_get 1 = .ok (.ifCond .lt 21, 3) := by decide +kernel
theorem dX2_get_4 : decode cX2_get 4 = .ok (.iload_n 1, 1) := by decide +kernel
theorem dX2_get_5 : decode cX2_get 5 = .ok (.aload_n 0, 1) := by decide +kernel
theorem dX2_get_6 : decode cX2_get 6 = .ok (.getfield 9, 3) := by decide +kernel
theorem dX2_get_9 : decode cX2_get 9 = .ok (.arraylength, 1) := by decide +kernel
theorem dX2_get_10 : decode cX2_get 10 = .ok (.if_icmp .ge 12, 3) := by decide +kernel
theorem dX2_get_13 : decode cX2_get 13 = .ok (.aload_n 0, 1) := by decide +kernel
theorem dX2_get_14 : decode cX2_get 14 = .ok (.getfield 9, 3) := by decide +kernel
theorem dX2_get_17 : decode cX2_get 17 = .ok (.iload_n 1, 1) := by decide +kernel
theorem dX2_get_18 : decode cX2_get 18 = .ok (.iaload, 1) := by decide +kernel
theorem dX2_get_19 : decode cX2_get 19 = .ok (.goto 4, 3) := by decide +kernel
theorem dX2_get_22 : decode cX2_get 22 = .ok (.iconst 0, 1) := by decide +kernel
theorem dX2_get_23 : decode cX2_get 23 = .ok (.ireturn, 1) := by decide +kernel
theorem dX2_set_0 : decode cX2_set 0 = .ok (.iload_n 1, 1) := by decide +kernel
theorem dX2_set_1 : decode cX2_set 1 = .ok (.ifCond .lt 19, 3) := by decide +kernel
theorem dX2_set_4 : decode cX2_set 4 = .ok (.iload_n 1, 1) := by decide +kernel
theorem dX2_set_5 : decode cX2_set 5 = .ok (.aload_n 0, 1) := by decide +kernel
theorem dX2_set_6 : decode cX2_set 6 = .ok (.getfield 9, 3) := by decide +kernel
theorem dX2_set_9 : decode cX2_set 9 = .ok (.arraylength, 1) := by decide +kernel
theorem dX2_set_10 : decode cX2_set 10 = .ok (.if_icmp .ge 10, 3) := by decide +kernel
theorem dX2_set_13 : decode cX2_set 13 = .ok (.aload_n 0, 1) := by decide +kernel
theorem dX2_set_14 : decode cX2_set 14 = .ok (.getfield 9, 3) := by decide +kernel
theorem dX2_set_17 : decode cX2_set 17 = .ok (.iload_n 1, 1) := by decide +kernel
theorem dX2_set_18 : decode cX2_set 18 = .ok (.iload_n 2, 1) := by decide +kernel
theorem dX2_set_19 : decode cX2_set 19 = .ok (.iastore, 1) := by decide +kernel
theorem dX2_set_20 : decode cX2_set 20 = .ok (.return_, 1) := by decide +kernel
theorem dX2_degree_0 : decode cX2_degree 0 = .ok (.aload_n 0, 1) := by decide +kernel
theorem dX2_degree_1 : decode cX2_degree 1 = .ok (.getfield 9, 3) := by decide +kernel
theorem dX2_degree_4 : decode cX2_degree 4 = .ok (.arraylength, 1) := by decide +kernel
theorem dX2_degree_5 : decode cX2_degree 5 = .ok (.iconst 1, 1) := by decide +kernel
theorem dX2_degree_6 : decode cX2_degree 6 = .ok (.isub, 1) := by decide +kernel
theorem dX2_degree_7 : decode cX2_degree 7 = .ok (.istore_n 1, 1) := by decide +kernel
theorem dX2_degree_8 : decode cX2_degree 8 = .ok (.iload_n 1, 1) := by decide +kernel
theorem dX2_degree_9 : decode cX2_degree 9 = .ok (.ifCond .lt 18, 3) := by decide +kernel
theorem dX2_degree_12 : decode cX2_degree 12 = .ok (.aload_n 0, 1) := by decide +kernel
theorem dX2_degree_13 : decode cX2_degree 13 = .ok (.getfield 9, 3) := by decide +kernel
theorem dX2_degree_16 : decode cX2_degree 16 = .ok (.iload_n 1, 1) := by decide +kernel
theorem dX2_degree_17 : decode cX2_degree 17 = .ok (.iaload, 1) := by decide +kernel
theorem dX2_degree_18 : decode cX2_degree 18 = .ok (.ifCond .ne 9, 3) := by decide +kernel
theorem dX2_degree_21 : decode cX2_degree 21 = .ok (.iinc 1 (-1), 3) := by decide +kernel
theorem dX2_degree_24 : decode cX2_degree 24 = .ok (.goto (-16), 3) := by decide +kernel
theorem dX2_degree_27 : decode cX2_degree 27 = .ok (.iload_n 1, 1) := by decide +kernel
theorem dX2_degree_28 : decode cX2_degree 28 = .ok (.ireturn, 1) := by decide +kernel
theorem dX2_clear_0 : decode cX2_clear 0 = .ok (.iconst 0, 1) := by decide +kernel
theorem dX2_clear_1 : decode cX2_clear 1 = .ok (.istore_n 1, 1) := by decide +kernel
theorem dX2_clear_2 : decode cX2_clear 2 = .ok (.iload_n 1, 1) := by decide +kernel
theorem dX2_clear_3 : decode cX2_clear 3 = .ok (.aload_n 0, 1) := by decide +kernel
theorem dX2_clear_4 : decode cX2_clear 4 = .ok (.getfield 9, 3) := by decide +kernel
theorem dX2_clear_7 : decode cX2_clear 7 = .ok (.arraylength, 1) := by decide +kernel
theorem dX2_clear_8 : decode cX2_clear 8 = .ok (.if_icmp .ge 16, 3) := by decide +kernel
theorem dX2_clear_11 : decode cX2_clear 11 = .ok (.aload_n 0, 1) := by decide +kernel
theorem dX2_clear_12 : decode cX2_clear 12 = .ok (.getfield 9, 3) := by decide +kernel
theorem dX2_clear_15 : decode cX2_clear 15 = .ok (.iload_n 1, 1) := by decide +kernel
theorem dX2_clear_16 : decode cX2_clear 16 = .ok (.iconst 0, 1) := by decide +kernel
theorem dX2_clear_17 : decode cX2_clear 17 = .ok (.iastore, 1) := by decide +kernel
theorem dX2_clear_18 : decode cX2_clear 18 = .ok (.iinc 1 1, 3) := by decide +kernel
theorem dX2_clear_21 : decode cX2_clear 21 = .ok (.goto (-19), 3) := by decide +kernel
theorem dX2_clear_24 : decode cX2_clear 24 = .ok (.return_, 1) := by decide +kernel
set_option maxRecDepth 20000 in
theorem ggX2_copy_X2_get : GoodIn wsX2_copy wsX2_get := goodIn_r _ [6, 1, 7] (by decide +kernel) (by decide +kernel)
set_option maxRecDepth 20000 in
theorem gX2_copy_X2_get : GoodIn wsX2_copy (wsV RX2 15 RX2 yX2_get wsX2_get) := goodIn_app (goodIn_of _ (by decide +kernel)) ggX2_copy_X2_get
theorem dX2_copy_0 : decode cX2_copy 0 = .ok (.iconst 0, 1) := by decide +kernel
theorem dX2_copy_1 : decode cX2_copy 1 = .ok (.istore_n 2, 1) := by decide +kernel
theorem dX2_copy_2 : decode cX2_copy 2 = .ok (.iload_n 2, 1) := by decide +kernel
theorem dX2_copy_3 : decode cX2_copy 3 = .ok (.aload_n 0, 1) := by decide +kernel
theorem dX2_copy_4 : decode cX2_copy 4 = .ok (.getfield 9, 3) := by decide +kernel
theorem dX2_copy_7 : decode cX2_copy 7 = .ok (.arraylength, 1) := by decide +kernel
theorem dX2_copy_8 : decode cX2_copy 8 = .ok (.if_icmp .ge 20, 3) := by decide +kernel
theorem dX2_copy_11 : decode cX2_copy 11 = .ok (.aload_n 0, 1) := by decide +kernel
theorem dX2_copy_12 : decode cX2_copy 12 = .ok (.getfield 9, 3) := by decide +kernel
theorem dX2_copy_15 : decode cX2_copy 15 = .ok (.iload_n 2, 1) := by decide +kernel
theorem dX2_copy_16 : decode cX2_copy 16 = .ok (.aload_n 1, 1) := by decide +kernel
theorem dX2_copy_17 : decode cX2_copy 17 = .ok (.iload_n 2, 1) := by decide +kernel
theorem dX2_copy_18 : decode cX2_copy 18 = .ok (.invokevirtual 15, 3) := by decide +kernel
theorem dX2_copy_21 : decode cX2_copy 21 = .ok (.iastore, 1) := by decide +kernel
theorem dX2_copy_22 : decode cX2_copy 22 = .ok (.iinc 2 1, 3) := by decide +kernel
theorem dX2_copy_25 : decode cX2_copy 25 = .ok (.goto (-23), 3) := by decide +kernel
theorem dX2_copy_28 : decode cX2_copy 28 = .ok (.return_, 1) := by decide +kernel
set_option maxRecDepth 20000 in
theorem ggX2_becomeOne_X2_clear : GoodIn wsX2_becomeOne wsX2_clear := goodIn_r _ [5, 6, 11] (by decide +kernel) (by decide +kernel)
set_option maxRecDepth 20000 in
theorem gX2_becomeOne_X2_clear : GoodIn wsX2_becomeOne (wsV RX2 19 RX2 yX2_clear wsX2_clear) := goodIn_app (goodIn_of _ (by decide +kernel)) ggX2_becomeOne_X2_clear
set_option maxRecDepth 20000 in
theorem ggX2_becomeOne_X2_set : GoodIn wsX2_becomeOne wsX2_set := goodIn_r _ [10, 6, 11] (by decide +kernel) (by decide +kernel)
set_option maxRecDepth 20000 in
theorem gX2_becomeOne_X2_set : GoodIn wsX2_becomeOne (wsV RX2 22 RX2 yX2_set wsX2_set) := goodIn_app (goodIn_of _ (by decide +kernel)) ggX2_becomeOne_X2_set
theorem dX2_becomeOne_0 : decode cX2_becomeOne 0 = .ok (.aload_n 0, 1) := by decide +kernel
theorem dX2_becomeOne_1 : decode cX2_becomeOne 1 = .ok (.invokevirtual 19, 3) := by decide +kernel
theorem dX2_becomeOne_4 : decode cX2_becomeOne 4 = .ok (.aload_n 0, 1) := by decide +kernel
theorem dX2_becomeOne_5 : decode cX2_becomeOne 5 = .ok (.iconst 0, 1) := by decide +kernel
theorem dX2_becomeOne_6 : decode cX2_becomeOne 6 = .ok (.iconst 1, 1) := by decide +kernel
theorem dX2_becomeOne_7 : decode cX2_becomeOne 7 = .ok (.invokevirtual 22, 3) := by decide +kernel
theorem dX2_becomeOne_10 : decode cX2_becomeOne 10 = .ok (.return_, 1) := by decide +kernel
set_option maxRecDepth 20000 in
theorem ggX2_isBefore_X2_degree : GoodIn wsX2_isBefore wsX2_degree := goodIn_r _ [5, 6, 11] (by decide +kernel) (by decide +kernel)
set_option maxRecDepth 20000 in
theorem gX2_isBefore_X2_degree : GoodIn wsX2_isBefore (wsV RX2 26 RX2 yX2_degree wsX2_degree) := goodIn_app (goodIn_of _ (by decide +kernel)) ggX2_isBefore_X2_degree
set_option maxRecDepth 20000 in
theorem ggX2_isBefore_X2_get : GoodIn wsX2_isBefore wsX2_get := goodIn_r _ [10, 6, 11] (by decide +kernel) (by decide +kernel)
set_option maxRecDepth 20000 in
theorem gX2_isBefore_X2_get : GoodIn wsX2_isBefore (wsV RX2 15 RX2 yX2_get wsX2_get) := goodIn_app (goodIn_of _ (by decide +kernel)) ggX2_isBefore_X2_get
theorem dX2_isBefore_0 : decode cX2_isBefore 0 = .ok (.aload_n 0, 1) := by decide +kernel
theorem dX2_isBefore_1 : decode cX2_isBefore 1 = .ok (.invokevirtual 26, 3) := by decide +kernel
theorem dX2_isBefore_4 : decode cX2_isBefore 4 = .ok (.istore_n 2, 1) := by decide +kernel
theorem dX2_isBefore_5 : decode cX2_isBefore 5 = .ok (.aload_n 1, 1) := by decide +kernel
theorem dX2_isBefore_6 : decode cX2_isBefore 6 = .ok (.invokevirtual 26, 3) := by decide +kernel
theorem dX2_isBefore_9 : decode cX2_isBefore 9 = .ok (.istore_n 3, 1) := by decide +kernel
theorem dX2_isBefore_10 : decode cX2_isBefore 10 = .ok (.iload_n 2, 1) := by decide +kernel
theorem dX2_isBefore_11 : decode cX2_isBefore 11 = .ok (.iload_n 3, 1) := by decide +kernel
theorem dX2_isBefore_12 : decode cX2_isBefore 12 = .ok (.if_icmp .eq 14, 3) := by decide +kernel
theorem dX2_isBefore_15 : decode cX2_isBefore 15 = .ok (.iload_n 2, 1) := by decide +kernel
theorem dX2_isBefore_16 : decode cX2_isBefore 16 = .ok (.iload_n 3, 1) := by decide +kernel
theorem dX2_isBefore_17 : decode cX2_isBefore 17 = .ok (.if_icmp .ge 7, 3) := by decide +kernel
theorem dX2_isBefore_20 : decode cX2_isBefore 20 = .ok (.iconst 1, 1) := by decide +kernel
theorem dX2_isBefore_21 : decode cX2_isBefore 21 = .ok (.goto 4, 3) := by decide +kernel
theorem dX2_isBefore_24 : decode cX2_isBefore 24 = .ok (.iconst 0, 1) := by decide +kernel
theorem dX2_isBefore_25 : decode cX2_isBefore 25 = .ok (.ireturn, 1) := by decide +kernel
theorem dX2_isBefore_26 : decode cX2_isBefore 26 = .ok (.iload_n 2, 1) := by decide +kernel
theorem dX2_isBefore_27 : decode cX2_isBefore 27 = .ok (.istore 4, 2) := by decide +kernel
theorem dX2_isBefore_29 : decode cX2_isBefore 29 = .ok (.iload 4, 2) := by decide +kernel
theorem dX2_isBefore_31 : decode cX2_isBefore 31 = .ok (.ifCond .lt 45, 3) := by decide +kernel
theorem dX2_isBefore_34 : decode cX2_isBefore 34 = .ok (.aload_n 0, 1) := by decide +kernel
theorem dX2_isBefore_35 : decode cX2_isBefore 35 = .ok (.iload 4, 2) := by decide +kernel
theorem dX2_isBefore_37 : decode cX2_isBefore 37 = .ok (.invokevirtual 15, 3) := by decide +kernel
theorem dX2_isBefore_40 : decode cX2_isBefore 40 = .ok (.aload_n 1, 1) := by decide +kernel
theorem dX2_isBefore_41 : decode cX2_isBefore 41 = .ok (.iload 4, 2) := by decide +kernel
theorem dX2_isBefore_43 : decode cX2_isBefore 43 = .ok (.invokevirtual 15, 3) := by decide +kernel
theorem dX2_isBefore_46 : decode cX2_isBefore 46 = .ok (.if_icmp .eq 24, 3) := by decide +kernel
theorem dX2_isBefore_49 : decode cX2_isBefore 49 = .ok (.aload_n 0, 1) := by decide +kernel
theorem dX2_isBefore_50 : decode cX2_isBefore 50 = .ok (.iload 4, 2) := by decide +kernel
theorem dX2_isBefore_52 : decode cX2_isBefore 52 = .ok (.invokevirtual 15, 3) := by decide +kernel
theorem dX2_isBefore_55 : decode cX2_isBefore 55 = .ok (.aload_n 1, 1) := by decide +kernel
theorem dX2_isBefore_56 : decode cX2_isBefore 56 = .ok (.iload 4, 2) := by decide +kernel
theorem dX2_isBefore_58 : decode cX2_isBefore 58 = .ok (.invokevirtual 15, 3) := by decide +kernel
theorem dX2_isBefore_61 : decode cX2_isBefore 61 = .ok (.if_icmp .ge 7, 3) := by decide +kernel
theorem dX2_isBefore_64 : decode cX2_isBefore 64 = .ok (.iconst 1, 1) := by decide +kernel
theorem dX2_isBefore_65 : decode cX2_isBefore 65 = .ok (.goto 4, 3) := by decide +kernel
theorem dX2_isBefore_68 : decode cX2_isBefore 68 = .ok (.iconst 0, 1) := by decide +kernel
theorem dX2_isBefore_69 : decode cX2_isBefore 69 = .ok (.ireturn, 1) := by decide +kernel
theorem dX2_isBefore_70 : decode cX2_isBefore 70 = .ok (.iinc 4 (-1), 3) := by decide +kernel
theorem dX2_isBefore_73 : decode cX2_isBefore 73 = .ok (.goto (-44), 3) := by decide +kernel
theorem dX2_isBefore_76 : decode cX2_isBefore 76 = .ok (.iconst 0, 1) := by decide +kernel
theorem dX2_isBefore_77 : decode cX2_isBefore 77 = .ok (.ireturn, 1) := by decide +kernel
end
section
theorem dX0_init_0 : decode cX0_init 0 = .ok (.aload_n 0, 1) := by decide +kernel
theorem dX0_init_1 : decode cX0_init 1 = .ok (.invokespecial 3, 3) := by decide +kernel
theorem dX0_init_4 : decode cX0_init 4 = .ok (.aload_n 0, 1) := by decide +kernel
theorem dX0_init_5 : decode cX0_init 5 = .ok (.iconst 1, 1) := by decide +kernel
theorem dX0_init_6 : decode cX0_init 6 = .ok (.putfield 9, 3) := by decide +kernel
theorem dX0_init_9 : decode cX0_init 9 = .ok (.aload_n 0, 1) := by decide +kernel
theorem dX0_init_10 : decode cX0_init 10 = .ok (.bipush 101, 2) := by decide +kernel
theorem dX0_init_12 : decode cX0_init 12 = .ok (.putfield 15, 3) := by decide +kernel
theorem dX0_init_15 : decode cX0_init 15 = .ok (.aload_n 0, 1) := by decide +kernel
theorem dX0_init_16 : decode cX0_init 16 = .ok (.iconst 0, 1) := by decide +kernel
theorem dX0_init_17 : decode cX0_init 17 = .ok (.putfield 18, 3) := by decide +kernel
theorem dX0_init_20 : decode cX0_init 20 = .ok (.aload_n 0, 1) := by decide +kernel
theorem dX0_init_21 : decode cX0_init 21 = .ok (.iconst 0, 1) := by decide +kernel
theorem dX0_init_22 : decode cX0_init 22 = .ok (.putfield 21, 3) := by decide +kernel
theorem dX0_init_25 : decode cX0_init 25 = .ok (.aload_n 0, 1) := by decide +kernel
theorem dX0_init_26 : decode cX0_init 26 = .ok (.iconst 0, 1) := by decide +kernel
theorem dX0_init_27 : decode cX0_init 27 = .ok (.putfield 24, 3) := by decide +kernel
theorem dX0_init_30 : decode cX0_init 30 = .ok (.aload_n 0, 1) := by decide +kernel
theorem dX0_init_31 : decode cX0_init 31 = .ok (.iconst 0, 1) := by decide +kernel
theorem dX0_init_32 : decode cX0_init 32 = .ok (.putfield 27, 3) := by decide +kernel
theorem dX0_init_35 : decode cX0_init 35 = .ok (.aload_n 0, 1) := by decide +kernel
theorem dX0_init_36 : decode cX0_init 36 = .ok (.iconst 0, 1) := by decide +kernel
theorem dX0_init_37 : decode cX0_init 37 = .ok (.putfield 30, 3) := by decide +kernel
theorem dX0_init_40 : decode cX0_init 40 = .ok (.aload_n 0, 1) := by decide +kernel
theorem dX0_init_41 : decode cX0_init 41 = .ok (.iconst 0, 1) := by decide +kernel
theorem dX0_init_42 : decode cX0_init 42 = .ok (.putfield 33, 3) := by decide +kernel
theorem dX0_init_45 : decode cX0_init 45 = .ok (.return_, 1) := by decide +kernel
set_option maxRecDepth 20000 in
theorem ggX0_become_X0_hasRoot : GoodIn wsX0_become wsX0_hasRoot := goodIn_r _ [13] (by decide +kernel) (by decide +kernel)
set_option maxRecDepth 20000 in
theorem gX0_become_X0_hasRoot : GoodIn wsX0_become (va_wsS RX0 36 yX0_hasRoot wsX0_hasRoot) := goodIn_app (goodIn_of _ (by decide +kernel)) ggX0_become_X0_hasRoot
set_option maxRecDepth 20000 in
theorem ggX0_become_X0_power : GoodIn wsX0_become wsX0_power := goodIn_r _ [17, 18, 19, 20, 12, 21, 1, 5, 4, 6, 22, 23, 24, 25, 26, 27, 28, 29] (by decide +kernel) (by decide +kernel)
set_option maxRecDepth 20000 in
theorem gX0_become_X0_power : GoodIn wsX0_become (wsV RX0 41 RX0 yX0_power wsX0_power) := goodIn_app (goodIn_of _ (by decide +kernel)) ggX0_become_X0_power
set_option maxRecDepth 20000 in
theorem ggX0_become_X0_times : GoodIn wsX0_become wsX0_times := goodIn_r _ [21, 1, 5, 4, 6, 22, 23, 24, 25, 26, 27, 28, 29] (by decide +kernel) (by decide +kernel)
set_option maxRecDepth 20000 in
theorem gX0_become_X0_times : GoodIn wsX0_become (wsV RX0 45 RX0 yX0_times wsX0_times) := goodIn_app (goodIn_of _ (by decide +kernel)) ggX0_become_X0_times
theorem dX0_become_0 : decode cX0_become 0 = .ok (.iload_n 1, 1) := by decide +kernel
theorem dX0_become_1 : decode cX0_become 1 = .ok (.iconst 1, 1) := by decide +kernel
theorem dX0_become_2 : decode cX0_become 2 = .ok (.if_icmp .le 7, 3) := by decide +kernel
theorem dX0_become_5 : decode cX0_become 5 = .ok (.iload_n 3, 1) := by decide +kernel
theorem dX0_become_6 : decode cX0_become 6 = .ok (.goto 4, 3) := by decide +kernel
theorem dX0_become_9 : decode cX0_become 9 = .ok (.iconst 0, 1) := by decide +kernel
theorem dX0_become_10 : decode cX0_become 10 = .ok (.istore 5, 2) := by decide +kernel
theorem dX0_become_12 : decode cX0_become 12 = .ok (.iload_n 1, 1) := by decide +kernel
theorem dX0_become_13 : decode cX0_become 13 = .ok (.iconst 2, 1) := by decide +kernel
theorem dX0_become_14 : decode cX0_become 14 = .ok (.if_icmp .le 8, 3) := by decide +kernel
theorem dX0_become_17 : decode cX0_become 17 = .ok (.iload 4, 2) := by decide +kernel
theorem dX0_become_19 : decode cX0_become 19 = .ok (.goto 4, 3) := by decide +kernel
theorem dX0_become_22 : decode cX0_become 22 = .ok (.iconst 0, 1) := by decide +kernel
theorem dX0_become_23 : decode cX0_become 23 = .ok (.istore 6, 2) := by decide +kernel
theorem dX0_become_25 : decode cX0_become 25 = .ok (.iload_n 1, 1) := by decide +kernel
theorem dX0_become_26 : decode cX0_become 26 = .ok (.iconst 1, 1) := by decide +kernel
theorem dX0_become_27 : decode cX0_become 27 = .ok (.if_icmp .le 17, 3) := by decide +kernel
theorem dX0_become_30 : decode cX0_become 30 = .ok (.iload_n 1, 1) := by decide +kernel
theorem dX0_become_31 : decode cX0_become 31 = .ok (.iload_n 2, 1) := by decide +kernel
theorem dX0_become_32 : decode cX0_become 32 = .ok (.iload 5, 2) := by decide +kernel
theorem dX0_become_34 : decode cX0_become 34 = .ok (.iload 6, 2) := by decide +kernel
theorem dX0_become_36 : decode cX0_become 36 = .ok (.invokestatic 36, 3) := by decide +kernel
theorem dX0_become_39 : decode cX0_become 39 = .ok (.ifCond .eq 5, 3) := by decide +kernel
theorem dX0_become_42 : decode cX0_become 42 = .ok (.iconst 0, 1) := by decide +kernel
theorem dX0_become_43 : decode cX0_become 43 = .ok (.ireturn, 1) := by decide +kernel
theorem dX0_become_44 : decode cX0_become 44 = .ok (.aload_n 0, 1) := by decide +kernel
theorem dX0_become_45 : decode cX0_become 45 = .ok (.iload_n 1, 1) := by decide +kernel
theorem dX0_become_46 : decode cX0_become 46 = .ok (.putfield 9, 3) := by decide +kernel
theorem dX0_become_49 : decode cX0_become 49 = .ok (.aload_n 0, 1) := by decide +kernel
theorem dX0_become_50 : decode cX0_become 50 = .ok (.iload_n 1, 1) := by decide +kernel
theorem dX0_become_51 : decode cX0_become 51 = .ok (.iconst 1, 1) := by decide +kernel
theorem dX0_become_52 : decode cX0_become 52 = .ok (.if_icmp .ne 8, 3) := by decide +kernel
theorem dX0_become_55 : decode cX0_become 55 = .ok (.bipush 101, 2) := by decide +kernel
theorem dX0_become_57 : decode cX0_become 57 = .ok (.goto 16, 3) := by decide +kernel
theorem dX0_become_60 : decode cX0_become 60 = .ok (.iload_n 1, 1) := by decide +kernel
theorem dX0_become_61 : decode cX0_become 61 = .ok (.iconst 2, 1) := by decide +kernel
theorem dX0_become_62 : decode cX0_become 62 = .ok (.if_icmp .ne 9, 3) := by decide +kernel
theorem dX0_become_65 : decode cX0_become 65 = .ok (.sipush 10201, 3) := by decide +kernel
theorem dX0_become_68 : decode cX0_become 68 = .ok (.goto 5, 3) := by decide +kernel
theorem dX0_become_71 : decode cX0_become 71 = .ok (.ldc 40, 2) := by decide +kernel
theorem dX0_become_73 : decode cX0_become 73 = .ok (.putfield 15, 3) := by decide +kernel
theorem dX0_become_76 : decode cX0_become 76 = .ok (.aload_n 0, 1) := by decide +kernel
theorem dX0_become_77 : decode cX0_become 77 = .ok (.iload_n 2, 1) := by decide +kernel
theorem dX0_become_78 : decode cX0_become 78 = .ok (.putfield 18, 3) := by decide +kernel
theorem dX0_become_81 : decode cX0_become 81 = .ok (.aload_n 0, 1) := by decide +kernel
theorem dX0_become_82 : decode cX0_become 82 = .ok (.iload 5, 2) := by decide +kernel
theorem dX0_become_84 : decode cX0_become 84 = .ok (.putfield 21, 3) := by decide +kernel
theorem dX0_become_87 : decode cX0_become 87 = .ok (.aload_n 0, 1) := by decide +kernel
theorem dX0_become_88 : decode cX0_become 88 = .ok (.iload 6, 2) := by decide +kernel
theorem dX0_become_90 : decode cX0_become 90 = .ok (.putfield 24, 3) := by decide +kernel
theorem dX0_become_93 : decode cX0_become 93 = .ok (.aload_n 0, 1) := by decide +kernel
theorem dX0_become_94 : decode cX0_become 94 = .ok (.iload_n 1, 1) := by decide +kernel
theorem dX0_become_95 : decode cX0_become 95 = .ok (.iconst 1, 1) := by decide +kernel
theorem dX0_become_96 : decode cX0_become 96 = .ok (.if_icmp .ne 13, 3) := by decide +kernel
theorem dX0_become_99 : decode cX0_become 99 = .ok (.bipush 101, 2) := by decide +kernel
theorem dX0_become_101 : decode cX0_become 101 = .ok (.iload_n 2, 1) := by decide +kernel
theorem dX0_become_102 : decode cX0_become 102 = .ok (.isub, 1) := by decide +kernel
theorem dX0_become_103 : decode cX0_become 103 = .ok (.bipush 101, 2) := by decide +kernel
theorem dX0_become_105 : decode cX0_become 105 = .ok (.irem, 1) := by decide +kernel
theorem dX0_become_106 : decode cX0_become 106 = .ok (.goto 5, 3) := by decide +kernel
theorem dX0_become_109 : decode cX0_become 109 = .ok (.bipush 101, 2) := by decide +kernel
theorem dX0_become_111 : decode cX0_become 111 = .ok (.putfield 27, 3) := by decide +kernel
theorem dX0_become_114 : decode cX0_become 114 = .ok (.aload_n 0, 1) := by decide +kernel
theorem dX0_become_115 : decode cX0_become 115 = .ok (.aload_n 0, 1) := by decide +kernel
theorem dX0_become_116 : decode cX0_become 116 = .ok (.aload_n 0, 1) := by decide +kernel
theorem dX0_become_117 : decode cX0_become 117 = .ok (.getfield 27, 3) := by decide +kernel
theorem dX0_become_120 : decode cX0_become 120 = .ok (.bipush 101, 2) := by decide +kernel
theorem dX0_become_122 : decode cX0_become 122 = .ok (.invokevirtual 41, 3) := by decide +kernel
theorem dX0_become_125 : decode cX0_become 125 = .ok (.putfield 30, 3) := by decide +kernel
theorem dX0_become_128 : decode cX0_become 128 = .ok (.aload_n 0, 1) := by decide +kernel
theorem dX0_become_129 : decode cX0_become 129 = .ok (.aload_n 0, 1) := by decide +kernel
theorem dX0_become_130 : decode cX0_become 130 = .ok (.aload_n 0, 1) := by decide +kernel
theorem dX0_become_131 : decode cX0_become 131 = .ok (.getfield 30, 3) := by decide +kernel
theorem dX0_become_134 : decode cX0_become 134 = .ok (.aload_n 0, 1) := by decide +kernel
theorem dX0_become_135 : decode cX0_become 135 = .ok (.getfield 30, 3) := by decide +kernel
theorem dX0_become_138 : decode cX0_become 138 = .ok (.invokevirtual 45, 3) := by decide +kernel
theorem dX0_become_141 : decode cX0_become 141 = .ok (.putfield 33, 3) := by decide +kernel
theorem dX0_become_144 : decode cX0_become 144 = .ok (.iconst 1, 1) := by decide +kernel
theorem dX0_become_145 : decode cX0_become 145 = .ok (.ireturn, 1) := by decide +kernel
theorem dX0_hasRoot_0 : decode cX0_hasRoot 0 = .ok (.iconst 0, 1) := by decide +kernel
theorem dX0_hasRoot_1 : decode cX0_hasRoot 1 = .ok (.istore 4, 2) := by decide +kernel
theorem dX0_hasRoot_3 : decode cX0_hasRoot 3 = .ok (.iload 4, 2) := by decide +kernel
theorem dX0_hasRoot_5 : decode cX0_hasRoot 5 = .ok (.bipush 101, 2) := by decide +kernel
theorem dX0_hasRoot_7 : decode cX0_hasRoot 7 = .ok (.if_icmp .ge 50, 3) := by decide +kernel
theorem dX0_hasRoot_10 : decode cX0_hasRoot 10 = .ok (.iload_n 0, 1) := by decide +kernel
theorem dX0_hasRoot_11 : decode cX0_hasRoot 11 = .ok (.iconst 2, 1) := by decide +kernel
theorem dX0_hasRoot_12 : decode cX0_hasRoot 12 = .ok (.if_icmp .ne 7, 3) := by decide +kernel
theorem dX0_hasRoot_15 : decode cX0_hasRoot 15 = .ok (.iconst 1, 1) := by decide +kernel
theorem dX0_hasRoot_16 : decode cX0_hasRoot 16 = .ok (.goto 10, 3) := by decide +kernel
theorem dX0_hasRoot_19 : decode cX0_hasRoot 19 = .ok (.iload 4, 2) := by decide +kernel
theorem dX0_hasRoot_21 : decode cX0_hasRoot 21 = .ok (.iload_n 3, 1) := by decide +kernel
theorem dX0_hasRoot_22 : decode cX0_hasRoot 22 = .ok (.iadd, 1) := by decide +kernel
theorem dX0_hasRoot_23 : decode cX0_hasRoot 23 = .ok (.bipush 101, 2) := by decide +kernel
theorem dX0_hasRoot_25 : decode cX0_hasRoot 25 = .ok (.irem, 1) := by decide +kernel
theorem dX0_hasRoot_26 : decode cX0_hasRoot 26 = .ok (.istore 5, 2) := by decide +kernel
theorem dX0_hasRoot_28 : decode cX0_hasRoot 28 = .ok (.iload 5, 2) := by decide +kernel
theorem dX0_hasRoot_30 : decode cX0_hasRoot 30 = .ok (.iload 4, 2) := by decide +kernel
theorem dX0_hasRoot_32 : decode cX0_hasRoot 32 = .ok (.imul, 1) := by decide +kernel
theorem dX0_hasRoot_33 : decode cX0_hasRoot 33 = .ok (.iload_n 2, 1) := by decide +kernel
theorem dX0_hasRoot_34 : decode cX0_hasRoot 34 = .ok (.iadd, 1) := by decide +kernel
theorem dX0_hasRoot_35 : decode cX0_hasRoot 35 = .ok (.bipush 101, 2) := by decide +kernel
theorem dX0_hasRoot_37 : decode cX0_hasRoot 37 = .ok (.irem, 1) := by decide +kernel
theorem dX0_hasRoot_38 : decode cX0_hasRoot 38 = .ok (.iload 4, 2) := by decide +kernel
theorem dX0_hasRoot_40 : decode cX0_hasRoot 40 = .ok (.imul, 1) := by decide +kernel
theorem dX0_hasRoot_41 : decode cX0_hasRoot 41 = .ok (.iload_n 1, 1) := by decide +kernel
theorem dX0_hasRoot_42 : decode cX0_hasRoot 42 = .ok (.iadd, 1) := by decide +kernel
theorem dX0_hasRoot_43 : decode cX0_hasRoot 43 = .ok (.bipush 101, 2) := by decide +kernel
theorem dX0_hasRoot_45 : decode cX0_hasRoot 45 = .ok (.irem, 1) := by decide +kernel
theorem dX0_hasRoot_46 : decode cX0_hasRoot 46 = .ok (.ifCond .ne 5, 3) := by decide +kernel
theorem dX0_hasRoot_49 : decode cX0_hasRoot 49 = .ok (.iconst 1, 1) := by decide +kernel
theorem dX0_hasRoot_50 : decode cX0_hasRoot 50 = .ok (.ireturn, 1) := by decide +kernel
theorem dX0_hasRoot_51 : decode cX0_hasRoot 51 = .ok (.iinc 4 1, 3) := by decide +kernel
theorem dX0_hasRoot_54 : decode cX0_hasRoot 54 = .ok (.goto (-51), 3) := by decide +kernel
theorem dX0_hasRoot_57 : decode cX0_hasRoot 57 = .ok (.iconst 0, 1) := by decide +kernel
theorem dX0_hasRoot_58 : decode cX0_hasRoot 58 = .ok (.ireturn, 1) := by decide +kernel
theorem dX0_modulusAt_0 : decode cX0_modulusAt 0 = .ok (.iload_n 1, 1) := by decide +kernel
theorem dX0_modulusAt_1 : decode cX0_modulusAt 1 = .ok (.aload_n 0, 1) := by decide +kernel
theorem dX0_modulusAt_2 : decode cX0_modulusAt 2 = .ok (.getfield 9, 3) := by decide +kernel
theorem dX0_modulusAt_5 : decode cX0_modulusAt 5 = .ok (.if_icmp .ne 5, 3) := by decide +kernel
theorem dX0_modulusAt_8 : decode cX0_modulusAt 8 = .ok (.iconst 1, 1) := by decide +kernel
theorem dX0_modulusAt_9 : decode cX0_modulusAt 9 = .ok (.ireturn, 1) := by decide +kernel
theorem dX0_modulusAt_10 : decode cX0_modulusAt 10 = .ok (.iload_n 1, 1) := by decide +kernel
theorem dX0_modulusAt_11 : decode cX0_modulusAt 11 = .ok (.tableswitch 40 0 2 #[25, 30, 35], 25) := by decide +kernel
theorem dX0_modulusAt_36 : decode cX0_modulusAt 36 = .ok (.aload_n 0, 1) := by decide +kernel
theorem dX0_modulusAt_37 : decode cX0_modulusAt 37 = .ok (.getfield 18, 3) := by decide +kernel
theorem dX0_modulusAt_40 : decode cX0_modulusAt 40 = .ok (.ireturn, 1) := by decide +kernel
theorem dX0_modulusAt_41 : decode cX0_modulusAt 41 = .ok (.aload_n 0, 1) := by decide +kernel
theorem dX0_modulusAt_42 : decode cX0_modulusAt 42 = .ok (.getfield 21, 3) := by decide +kernel
theorem dX0_modulusAt_45 : decode cX0_modulusAt 45 = .ok (.ireturn, 1) := by decide +kernel
theorem dX0_modulusAt_46 : decode cX0_modulusAt 46 = .ok (.aload_n 0, 1) := by decide +kernel
theorem dX0_modulusAt_47 : decode cX0_modulusAt 47 = .ok (.getfield 24, 3) := by decide +kernel
theorem dX0_modulusAt_50 : decode cX0_modulusAt 50 = .ok (.ireturn, 1) := by decide +kernel
theorem dX0_modulusAt_51 : decode cX0_modulusAt 51 = .ok (.iconst 0, 1) := by decide +kernel
theorem dX0_modulusAt_52 : decode cX0_modulusAt 52 = .ok (.ireturn, 1) := by decide +kernel
theorem dX0_plus_0 : decode cX0_plus 0 = .ok (.iload_n 1, 1) := by decide +kernel
theorem dX0_plus_1 : decode cX0_plus 1 = .ok (.bipush 101, 2) := by decide +kernel
theorem dX0_plus_3 : decode cX0_plus 3 = .ok (.irem, 1) := by decide +kernel
theorem dX0_plus_4 : decode cX0_plus 4 = .ok (.iload_n 2, 1) := by decide +kernel
theorem dX0_plus_5 : decode cX0_plus 5 = .ok (.bipush 101, 2) := by decide +kernel
theorem dX0_plus_7 : decode cX0_plus 7 = .ok (.irem, 1) := by decide +kernel
theorem dX0_plus_8 : decode cX0_plus 8 = .ok (.iadd, 1) := by decide +kernel
theorem dX0_plus_9 : decode cX0_plus 9 = .ok (.bipush 101, 2) := by decide +kernel
theorem dX0_plus_11 : decode cX0_plus 11 = .ok (.irem, 1) := by decide +kernel
theorem dX0_plus_12 : decode cX0_plus 12 = .ok (.istore_n 3, 1) := by decide +kernel
theorem dX0_plus_13 : decode cX0_plus 13 = .ok (.iload_n 1, 1) := by decide +kernel
theorem dX0_plus_14 : decode cX0_plus 14 = .ok (.bipush 101, 2) := by decide +kernel
theorem dX0_plus_16 : decode cX0_plus 16 = .ok (.idiv, 1) := by decide +kernel
theorem dX0_plus_17 : decode cX0_plus 17 = .ok (.bipush 101, 2) := by decide +kernel
theorem dX0_plus_19 : decode cX0_plus 19 = .ok (.irem, 1) := by decide +kernel
theorem dX0_plus_20 : decode cX0_plus 20 = .ok (.iload_n 2, 1) := by decide +kernel
theorem dX0_plus_21 : decode cX0_plus 21 = .ok (.bipush 101, 2) := by decide +kernel
theorem dX0_plus_23 : decode cX0_plus 23 = .ok (.idiv, 1) := by decide +kernel
theorem dX0_plus_24 : decode cX0_plus 24 = .ok (.bipush 101, 2) := by decide +kernel
theorem dX0_plus_26 : decode cX0_plus 26 = .ok (.irem, 1) := by decide +kernel
theorem dX0_plus_27 : decode cX0_plus 27 = .ok (.iadd, 1) := by decide +kernel
theorem dX0_plus_28 : decode cX0_plus 28 = .ok (.bipush 101, 2) := by decide +kernel
theorem dX0_plus_30 : decode cX0_plus 30 = .ok (.irem, 1) := by decide +kernel
theorem dX0_plus_31 : decode cX0_plus 31 = .ok (.istore 4, 2) := by decide +kernel
theorem dX0_plus_33 : decode cX0_plus 33 = .ok (.iload_n 1, 1) := by decide +kernel
theorem dX0_plus_34 : decode cX0_plus 34 = .ok (.sipush 10201, 3) := by decide +kernel
theorem dX0_plus_37 : decode cX0_plus 37 = .ok (.idiv, 1) := by decide +kernel
theorem dX0_plus_38 : decode cX0_plus 38 = .ok (.iload_n 2, 1) := by decide +kernel
theorem dX0_plus_39 : decode cX0_plus 39 = .ok (.sipush 10201, 3) := by decide +kernel
theorem dX0_plus_42 : decode cX0_plus 42 = .ok (.idiv, 1) := by decide +kernel
theorem dX0_plus_43 : decode cX0_plus 43 = .ok (.iadd, 1) := by decide +kernel
theorem dX0_plus_44 : decode cX0_plus 44 = .ok (.bipush 101, 2) := by decide +kernel
theorem dX0_plus_46 : decode cX0_plus 46 = .ok (.irem, 1) := by decide +kernel
theorem dX0_plus_47 : decode cX0_plus 47 = .ok (.istore 5, 2) := by decide +kernel
theorem dX0_plus_49 : decode cX0_plus 49 = .ok (.iload_n 3, 1) := by decide +kernel
theorem dX0_plus_50 : decode cX0_plus 50 = .ok (.bipush 101, 2) := by decide +kernel
theorem dX0_plus_52 : decode cX0_plus 52 = .ok (.iload 4, 2) := by decide +kernel
theorem dX0_plus_54 : decode cX0_plus 54 = .ok (.imul, 1) := by decide +kernel
theorem dX0_plus_55 : decode cX0_plus 55 = .ok (.iadd, 1) := by decide +kernel
theorem dX0_plus_56 : decode cX0_plus 56 = .ok (.sipush 10201, 3) := by decide +kernel
theorem dX0_plus_59 : decode cX0_plus 59 = .ok (.iload 5, 2) := by decide +kernel
theorem dX0_plus_61 : decode cX0_plus 61 = .ok (.imul, 1) := by decide +kernel
theorem dX0_plus_62 : decode cX0_plus 62 = .ok (.iadd, 1) := by decide +kernel
theorem dX0_plus_63 : decode cX0_plus 63 = .ok (.ireturn, 1) := by decide +kernel
theorem dX0_minus_0 : decode cX0_minus 0 = .ok (.iload_n 1, 1) := by decide +kernel
theorem dX0_minus_1 : decode cX0_minus 1 = .ok (.bipush 101, 2) := by decide +kernel
theorem dX0_minus_3 : decode cX0_minus 3 = .ok (.irem, 1) := by decide +kernel
theorem dX0_minus_4 : decode cX0_minus 4 = .ok (.iload_n 2, 1) := by decide +kernel
theorem dX0_minus_5 : decode cX0_minus 5 = .ok (.bipush 101, 2) := by decide +kernel
theorem dX0_minus_7 : decode cX0_minus 7 = .ok (.irem, 1) := by decide +kernel
theorem dX0_minus_8 : decode cX0_minus 8 = .ok (.isub, 1) := by decide +kernel
theorem dX0_minus_9 : decode cX0_minus 9 = .ok (.bipush 101, 2) := by decide +kernel
theorem dX0_minus_11 : decode cX0_minus 11 = .ok (.iadd, 1) := by decide +kernel
theorem dX0_minus_12 : decode cX0_minus 12 = .ok (.bipush 101, 2) := by decide +kernel
theorem dX0_minus_14 : decode cX0_minus 14 = .ok (.irem, 1) := by decide +kernel
theorem dX0_minus_15 : decode cX0_minus 15 = .ok (.istore_n 3, 1) := by decide +kernel
theorem dX0_minus_16 : decode cX0_minus 16 = .ok (.iload_n 1, 1) := by decide +kernel
theorem dX0_minus_17 : decode cX0_minus 17 = .ok (.bipush 101, 2) := by decide +kernel
theorem dX0_minus_19 : decode cX0_minus 19 = .ok (.idiv, 1) := by decide +kernel
theorem dX0_minus_20 : decode cX0_minus 20 = .ok (.bipush 101, 2) := by decide +kernel
theorem dX0_minus_22 : decode cX0_minus 22 = .ok (.irem, 1) := by decide +kernel
theorem dX0_minus_23 : decode cX0_minus 23 = .ok (.iload_n 2, 1) := by decide +kernel
theorem dX0_minus_24 : decode cX0_minus 24 = .ok (.bipush 101, 2) := by decide +kernel
theorem dX0_minus_26 : decode cX0_minus 26 = .ok (.idiv, 1) := by decide +kernel
theorem dX0_minus_27 : decode cX0_minus 27 = .ok (.bipush 101, 2) := by decide +kernel
theorem dX0_minus_29 : decode cX0_minus 29 = .ok (.irem, 1) := by decide +kernel
theorem dX0_minus_30 : decode cX0_minus 30 = .ok (.isub, 1) := by decide +kernel
theorem dX0_minus_31 : decode cX0_minus 31 = .ok (.bipush 101, 2) := by decide +kernel
theorem dX0_minus_33 : decode cX0_minus 33 = .ok (.iadd, 1) := by decide +kernel
theorem dX0_minus_34 : decode cX0_minus 34 = .ok (.bipush 101, 2) := by decide +kernel
theorem dX0_minus_36 : decode cX0_minus 36 = .ok (.irem, 1) := by decide +kernel
theorem dX0_minus_37 : decode cX0_minus 37 = .ok (.istore 4, 2) := by decide +kernel
theorem dX0_minus_39 : decode cX0_minus 39 = .ok (.iload_n 1, 1) := by decide +kernel
theorem dX0_minus_40 : decode cX0_minus 40 = .ok (.sipush 10201, 3) := by decide +kernel
theorem dX0_minus_43 : decode cX0_minus 43 = .ok (.idiv, 1) := by decide +kernel
theorem dX0_minus_44 : decode cX0_minus 44 = .ok (.iload_n 2, 1) := by decide +kernel
theorem dX0_minus_45 : decode cX0_minus 45 = .ok (.sipush 10201, 3) := by decide +kernel
theorem dX0_minus_48 : decode cX0_minus 48 = .ok (.idiv, 1) := by decide +kernel
theorem dX0_minus_49 : decode cX0_minus 49 = .ok (.isub, 1) := by decide +kernel
theorem dX0_minus_50 : decode cX0_minus 50 = .ok (.bipush 101, 2) := by decide +kernel
theorem dX0_minus_52 : decode cX0_minus 52 = .ok (.iadd, 1) := by decide +kernel
theorem dX0_minus_53 : decode cX0_minus 53 = .ok (.bipush 101, 2) := by decide +kernel
theorem dX0_minus_55 : decode cX0_minus 55 = .ok (.irem, 1) := by decide +kernel
theorem dX0_minus_56 : decode cX0_minus 56 = .ok (.istore 5, 2) := by decide +kernel
theorem dX0_minus_58 : decode cX0_minus 58 = .ok (.iload_n 3, 1) := by decide +kernel
theorem dX0_minus_59 : decode cX0_minus 59 = .ok (.bipush 101, 2) := by decide +kernel
theorem dX0_minus_61 : decode cX0_minus 61 = .ok (.iload 4, 2) := by decide +kernel
theorem dX0_minus_63 : decode cX0_minus 63 = .ok (.imul, 1) := by decide +kernel
theorem dX0_minus_64 : decode cX0_minus 64 = .ok (.iadd, 1) := by decide +kernel
theorem dX0_minus_65 : decode cX0_minus 65 = .ok (.sipush 10201, 3) := by decide +kernel
theorem dX0_minus_68 : decode cX0_minus 68 = .ok (.iload 5, 2) := by decide +kernel
theorem dX0_minus_70 : decode cX0_minus 70 = .ok (.imul, 1) := by decide +kernel
theorem dX0_minus_71 : decode cX0_minus 71 = .ok (.iadd, 1) := by decide +kernel
theorem dX0_minus_72 : decode cX0_minus 72 = .ok (.ireturn, 1) := by decide +kernel
theorem dX0_times_0 : decode cX0_times 0 = .ok (.iload_n 1, 1) := by decide +kernel
theorem dX0_times_1 : decode cX0_times 1 = .ok (.bipush 101, 2) := by decide +kernel
theorem dX0_times_3 : decode cX0_times 3 = .ok (.if_icmp .ge 16, 3) := by decide +kernel
theorem dX0_times_6 : decode cX0_times 6 = .ok (.iload_n 2, 1) := by decide +kernel
theorem dX0_times_7 : decode cX0_times 7 = .ok (.bipush 101, 2) := by decide +kernel
theorem dX0_times_9 : decode cX0_times 9 = .ok (.if_icmp .ge 10, 3) := by decide +kernel
theorem dX0_times_12 : decode cX0_times 12 = .ok (.iload_n 1, 1) := by decide +kernel
theorem dX0_times_13 : decode cX0_times 13 = .ok (.iload_n 2, 1) := by decide +kernel
theorem dX0_times_14 : decode cX0_times 14 = .ok (.imul, 1) := by decide +kernel
theorem dX0_times_15 : decode cX0_times 15 = .ok (.bipush 101, 2) := by decide +kernel
theorem dX0_times_17 : decode cX0_times 17 = .ok (.irem, 1) := by decide +kernel
theorem dX0_times_18 : decode cX0_times 18 = .ok (.ireturn, 1) := by decide +kernel
theorem dX0_times_19 : decode cX0_times 19 = .ok (.iload_n 1, 1) := by decide +kernel
theorem dX0_times_20 : decode cX0_times 20 = .ok (.bipush 101, 2) := by decide +kernel
theorem dX0_times_22 : decode cX0_times 22 = .ok (.irem, 1) := by decide +kernel
theorem dX0_times_23 : decode cX0_times 23 = .ok (.istore_n 3, 1) := by decide +kernel
theorem dX0_times_24 : decode cX0_times 24 = .ok (.iload_n 1, 1) := by decide +kernel
theorem dX0_times_25 : decode cX0_times 25 = .ok (.bipush 101, 2) := by decide +kernel
theorem dX0_times_27 : decode cX0_times 27 = .ok (.idiv, 1) := by decide +kernel
theorem dX0_times_28 : decode cX0_times 28 = .ok (.bipush 101, 2) := by decide +kernel
theorem dX0_times_30 : decode cX0_times 30 = .ok (.irem, 1) := by decide +kernel
theorem dX0_times_31 : decode cX0_times 31 = .ok (.istore 4, 2) := by decide +kernel
theorem dX0_times_33 : decode cX0_times 33 = .ok (.iload_n 1, 1) := by decide +kernel
theorem dX0_times_34 : decode cX0_times 34 = .ok (.sipush 10201, 3) := by decide +kernel
theorem dX0_times_37 : decode cX0_times 37 = .ok (.idiv, 1) := by decide +kernel
theorem dX0_times_38 : decode cX0_times 38 = .ok (.istore 5, 2) := by decide +kernel
theorem dX0_times_40 : decode cX0_times 40 = .ok (.iload_n 2, 1) := by decide +kernel
theorem dX0_times_41 : decode cX0_times 41 = .ok (.bipush 101, 2) := by decide +kernel
theorem dX0_times_43 : decode cX0_times 43 = .ok (.irem, 1) := by decide +kernel
theorem dX0_times_44 : decode cX0_times 44 = .ok (.istore 6, 2) := by decide +kernel
theorem dX0_times_46 : decode cX0_times 46 = .ok (.iload_n 2, 1) := by decide +kernel
theorem dX0_times_47 : decode cX0_times 47 = .ok (.bipush 101, 2) := by decide +kernel
theorem dX0_times_49 : decode cX0_times 49 = .ok (.idiv, 1) := by decide +kernel
theorem dX0_times_50 : decode cX0_times 50 = .ok (.bipush 101, 2) := by decide +kernel
theorem dX0_times_52 : decode cX0_times 52 = .ok (.irem, 1) := by decide +kernel
theorem dX0_times_53 : decode cX0_times 53 = .ok (.istore 7, 2) := by decide +kernel
theorem dX0_times_55 : decode cX0_times 55 = .ok (.iload_n 2, 1) := by decide +kernel
theorem dX0_times_56 : decode cX0_times 56 = .ok (.sipush 10201, 3) := by decide +kernel
theorem dX0_times_59 : decode cX0_times 59 = .ok (.idiv, 1) := by decide +kernel
theorem dX0_times_60 : decode cX0_times 60 = .ok (.istore 8, 2) := by decide +kernel
theorem dX0_times_62 : decode cX0_times 62 = .ok (.iload_n 3, 1) := by decide +kernel
theorem dX0_times_63 : decode cX0_times 63 = .ok (.iload 6, 2) := by decide +kernel
theorem dX0_times_65 : decode cX0_times 65 = .ok (.imul, 1) := by decide +kernel
theorem dX0_times_66 : decode cX0_times 66 = .ok (.istore 9, 2) := by decide +kernel
theorem dX0_times_68 : decode cX0_times 68 = .ok (.iload_n 3, 1) := by decide +kernel
theorem dX0_times_69 : decode cX0_times 69 = .ok (.iload 7, 2) := by decide +kernel
theorem dX0_times_71 : decode cX0_times 71 = .ok (.imul, 1) := by decide +kernel
theorem dX0_times_72 : decode cX0_times 72 = .ok (.iload 4, 2) := by decide +kernel
theorem dX0_times_74 : decode cX0_times 74 = .ok (.iload 6, 2) := by decide +kernel
theorem dX0_times_76 : decode cX0_times 76 = .ok (.imul, 1) := by decide +kernel
theorem dX0_times_77 : decode cX0_times 77 = .ok (.iadd, 1) := by decide +kernel
theorem dX0_times_78 : decode cX0_times 78 = .ok (.istore 10, 2) := by decide +kernel
theorem dX0_times_80 : decode cX0_times 80 = .ok (.iload_n 3, 1) := by decide +kernel
theorem dX0_times_81 : decode cX0_times 81 = .ok (.iload 8, 2) := by decide +kernel
theorem dX0_times_83 : decode cX0_times 83 = .ok (.imul, 1) := by decide +kernel
theorem dX0_times_84 : decode cX0_times 84 = .ok (.iload 4, 2) := by decide +kernel
theorem dX0_times_86 : decode cX0_times 86 = .ok (.iload 7, 2) := by decide +kernel
theorem dX0_times_88 : decode cX0_times 88 = .ok (.imul, 1) := by decide +kernel
theorem dX0_times_89 : decode cX0_times 89 = .ok (.iadd, 1) := by decide +kernel
theorem dX0_times_90 : decode cX0_times 90 = .ok (.iload 5, 2) := by decide +kernel
theorem dX0_times_92 : decode cX0_times 92 = .ok (.iload 6, 2) := by decide +kernel
theorem dX0_times_94 : decode cX0_times 94 = .ok (.imul, 1) := by decide +kernel
theorem dX0_times_95 : decode cX0_times 95 = .ok (.iadd, 1) := by decide +kernel
theorem dX0_times_96 : decode cX0_times 96 = .ok (.istore 11, 2) := by decide +kernel
theorem dX0_times_98 : decode cX0_times 98 = .ok (.aload_n 0, 1) := by decide +kernel
theorem dX0_times_99 : decode cX0_times 99 = .ok (.getfield 9, 3) := by decide +kernel
theorem dX0_times_102 : decode cX0_times 102 = .ok (.iconst 2, 1) := by decide +kernel
theorem dX0_times_103 : decode cX0_times 103 = .ok (.if_icmp .ne 55, 3) := by decide +kernel
theorem dX0_times_106 : decode cX0_times 106 = .ok (.bipush 101, 2) := by decide +kernel
theorem dX0_times_108 : decode cX0_times 108 = .ok (.iload 11, 2) := by decide +kernel
theorem dX0_times_110 : decode cX0_times 110 = .ok (.bipush 101, 2) := by decide +kernel
theorem dX0_times_112 : decode cX0_times 112 = .ok (.irem, 1) := by decide +kernel
theorem dX0_times_113 : decode cX0_times 113 = .ok (.isub, 1) := by decide +kernel
theorem dX0_times_114 : decode cX0_times 114 = .ok (.bipush 101, 2) := by decide +kernel
theorem dX0_times_116 : decode cX0_times 116 = .ok (.irem, 1) := by decide +kernel
theorem dX0_times_117 : decode cX0_times 117 = .ok (.istore 12, 2) := by decide +kernel
theorem dX0_times_119 : decode cX0_times 119 = .ok (.iload 10, 2) := by decide +kernel
theorem dX0_times_121 : decode cX0_times 121 = .ok (.iload 12, 2) := by decide +kernel
theorem dX0_times_123 : decode cX0_times 123 = .ok (.aload_n 0, 1) := by decide +kernel
theorem dX0_times_124 : decode cX0_times 124 = .ok (.getfield 21, 3) := by decide +kernel
theorem dX0_times_127 : decode cX0_times 127 = .ok (.imul, 1) := by decide +kernel
theorem dX0_times_128 : decode cX0_times 128 = .ok (.iadd, 1) := by decide +kernel
theorem dX0_times_129 : decode cX0_times 129 = .ok (.istore 10, 2) := by decide +kernel
theorem dX0_times_131 : decode cX0_times 131 = .ok (.iload 9, 2) := by decide +kernel
theorem dX0_times_133 : decode cX0_times 133 = .ok (.iload 12, 2) := by decide +kernel
theorem dX0_times_135 : decode cX0_times 135 = .ok (.aload_n 0, 1) := by decide +kernel
theorem dX0_times_136 : decode cX0_times 136 = .ok (.getfield 18, 3) := by decide +kernel
theorem dX0_times_139 : decode cX0_times 139 = .ok (.imul, 1) := by decide +kernel
theorem dX0_times_140 : decode cX0_times 140 = .ok (.iadd, 1) := by decide +kernel
theorem dX0_times_141 : decode cX0_times 141 = .ok (.istore 9, 2) := by decide +kernel
theorem dX0_times_143 : decode cX0_times 143 = .ok (.iload 9, 2) := by decide +kernel
theorem dX0_times_145 : decode cX0_times 145 = .ok (.bipush 101, 2) := by decide +kernel
theorem dX0_times_147 : decode cX0_times 147 = .ok (.irem, 1) := by decide +kernel
theorem dX0_times_148 : decode cX0_times 148 = .ok (.bipush 101, 2) := by decide +kernel
theorem dX0_times_150 : decode cX0_times 150 = .ok (.iload 10, 2) := by decide +kernel
theorem dX0_times_152 : decode cX0_times 152 = .ok (.bipush 101, 2) := by decide +kernel
theorem dX0_times_154 : decode cX0_times 154 = .ok (.irem, 1) := by decide +kernel
theorem dX0_times_155 : decode cX0_times 155 = .ok (.imul, 1) := by decide +kernel
theorem dX0_times_156 : decode cX0_times 156 = .ok (.iadd, 1) := by decide +kernel
theorem dX0_times_157 : decode cX0_times 157 = .ok (.ireturn, 1) := by decide +kernel
theorem dX0_times_158 : decode cX0_times 158 = .ok (.bipush 101, 2) := by decide +kernel
theorem dX0_times_160 : decode cX0_times 160 = .ok (.iload 5, 2) := by decide +kernel
theorem dX0_times_162 : decode cX0_times 162 = .ok (.iload 8, 2) := by decide +kernel
theorem dX0_times_164 : decode cX0_times 164 = .ok (.imul, 1) := by decide +kernel
theorem dX0_times_165 : decode cX0_times 165 = .ok (.bipush 101, 2) := by decide +kernel
theorem dX0_times_167 : decode cX0_times 167 = .ok (.irem, 1) := by decide +kernel
theorem dX0_times_168 : decode cX0_times 168 = .ok (.isub, 1) := by decide +kernel
theorem dX0_times_169 : decode cX0_times 169 = .ok (.bipush 101, 2) := by decide +kernel
theorem dX0_times_171 : decode cX0_times 171 = .ok (.irem, 1) := by decide +kernel
theorem dX0_times_172 : decode cX0_times 172 = .ok (.istore 12, 2) := by decide +kernel
theorem dX0_times_174 : decode cX0_times 174 = .ok (.iload 4, 2) := by decide +kernel
theorem dX0_times_176 : decode cX0_times 176 = .ok (.iload 8, 2) := by decide +kernel
theorem dX0_times_178 : decode cX0_times 178 = .ok (.imul, 1) := by decide +kernel
theorem dX0_times_179 : decode cX0_times 179 = .ok (.iload 5, 2) := by decide +kernel
theorem dX0_times_181 : decode cX0_times 181 = .ok (.iload 7, 2) := by decide +kernel
theorem dX0_times_183 : decode cX0_times 183 = .ok (.imul, 1) := by decide +kernel
theorem dX0_times_184 : decode cX0_times 184 = .ok (.iadd, 1) := by decide +kernel
theorem dX0_times_185 : decode cX0_times 185 = .ok (.iload 12, 2) := by decide +kernel
theorem dX0_times_187 : decode cX0_times 187 = .ok (.aload_n 0, 1) := by decide +kernel
theorem dX0_times_188 : decode cX0_times 188 = .ok (.getfield 24, 3) := by decide +kernel
theorem dX0_times_191 : decode cX0_times 191 = .ok (.imul, 1) := by decide +kernel
theorem dX0_times_192 : decode cX0_times 192 = .ok (.iadd, 1) := by decide +kernel
theorem dX0_times_193 : decode cX0_times 193 = .ok (.istore 13, 2) := by decide +kernel
theorem dX0_times_195 : decode cX0_times 195 = .ok (.bipush 101, 2) := by decide +kernel
theorem dX0_times_197 : decode cX0_times 197 = .ok (.iload 13, 2) := by decide +kernel
theorem dX0_times_199 : decode cX0_times 199 = .ok (.bipush 101, 2) := by decide +kernel
theorem dX0_times_201 : decode cX0_times 201 = .ok (.irem, 1) := by decide +kernel
theorem dX0_times_202 : decode cX0_times 202 = .ok (.isub, 1) := by decide +kernel
theorem dX0_times_203 : decode cX0_times 203 = .ok (.bipush 101, 2) := by decide +kernel
theorem dX0_times_205 : decode cX0_times 205 = .ok (.irem, 1) := by decide +kernel
theorem dX0_times_206 : decode cX0_times 206 = .ok (.istore 14, 2) := by decide +kernel
theorem dX0_times_208 : decode cX0_times 208 = .ok (.iload 11, 2) := by decide +kernel
theorem dX0_times_210 : decode cX0_times 210 = .ok (.iload 12, 2) := by decide +kernel
theorem dX0_times_212 : decode cX0_times 212 = .ok (.aload_n 0, 1) := by decide +kernel
theorem dX0_times_213 : decode cX0_times 213 = .ok (.getfield 21, 3) := by decide +kernel
theorem dX0_times_216 : decode cX0_times 216 = .ok (.imul, 1) := by decide +kernel
theorem dX0_times_217 : decode cX0_times 217 = .ok (.iload 14, 2) := by decide +kernel
theorem dX0_times_219 : decode cX0_times 219 = .ok (.aload_n 0, 1) := by decide +kernel
theorem dX0_times_220 : decode cX0_times 220 = .ok (.getfield 24, 3) := by decide +kernel
theorem dX0_times_223 : decode cX0_times 223 = .ok (.imul, 1) := by decide +kernel
theorem dX0_times_224 : decode cX0_times 224 = .ok (.iadd, 1) := by decide +kernel
theorem dX0_times_225 : decode cX0_times 225 = .ok (.iadd, 1) := by decide +kernel
theorem dX0_times_226 : decode cX0_times 226 = .ok (.istore 11, 2) := by decide +kernel
theorem dX0_times_228 : decode cX0_times 228 = .ok (.iload 10, 2) := by decide +kernel
theorem dX0_times_230 : decode cX0_times 230 = .ok (.iload 12, 2) := by decide +kernel
theorem dX0_times_232 : decode cX0_times 232 = .ok (.aload_n 0, 1) := by decide +kernel
theorem dX0_times_233 : decode cX0_times 233 = .ok (.getfield 18, 3) := by decide +kernel
theorem dX0_times_236 : decode cX0_times 236 = .ok (.imul, 1) := by decide +kernel
theorem dX0_times_237 : decode cX0_times 237 = .ok (.iload 14, 2) := by decide +kernel
theorem dX0_times_239 : decode cX0_times 239 = .ok (.aload_n 0, 1) := by decide +kernel
theorem dX0_times_240 : decode cX0_times 240 = .ok (.getfield 21, 3) := by decide +kernel
theorem dX0_times_243 : decode cX0_times 243 = .ok (.imul, 1) := by decide +kernel
theorem dX0_times_244 : decode cX0_times 244 = .ok (.iadd, 1) := by decide +kernel
theorem dX0_times_245 : decode cX0_times 245 = .ok (.iadd, 1) := by decide +kernel
theorem dX0_times_246 : decode cX0_times 246 = .ok (.istore 10, 2) := by decide +kernel
theorem dX0_times_248 : decode cX0_times 248 = .ok (.iload 9, 2) := by decide +kernel
theorem dX0_times_250 : decode cX0_times 250 = .ok (.iload 14, 2) := by decide +kernel
theorem dX0_times_252 : decode cX0_times 252 = .ok (.aload_n 0, 1) := by decide +kernel
theorem dX0_times_253 : decode cX0_times 253 = .ok (.getfield 18, 3) := by decide +kernel
theorem dX0_times_256 : decode cX0_times 256 = .ok (.imul, 1) := by decide +kernel
theorem dX0_times_257 : decode cX0_times 257 = .ok (.iadd, 1) := by decide +kernel
theorem dX0_times_258 : decode cX0_times 258 = .ok (.istore 9, 2) := by decide +kernel
theorem dX0_times_260 : decode cX0_times 260 = .ok (.iload 9, 2) := by decide +kernel
theorem dX0_times_262 : decode cX0_times 262 = .ok (.bipush 101, 2) := by decide +kernel
theorem dX0_times_264 : decode cX0_times 264 = .ok (.irem, 1) := by decide +kernel
theorem dX0_times_265 : decode cX0_times 265 = .ok (.bipush 101, 2) := by decide +kernel
theorem dX0_times_267 : decode cX0_times 267 = .ok (.iload 10, 2) := by decide +kernel
theorem dX0_times_269 : decode cX0_times 269 = .ok (.bipush 101, 2) := by decide +kernel
theorem dX0_times_271 : decode cX0_times 271 = .ok (.irem, 1) := by decide +kernel
theorem dX0_times_272 : decode cX0_times 272 = .ok (.imul, 1) := by decide +kernel
theorem dX0_times_273 : decode cX0_times 273 = .ok (.iadd, 1) := by decide +kernel
theorem dX0_times_274 : decode cX0_times 274 = .ok (.sipush 10201, 3) := by decide +kernel
theorem dX0_times_277 : decode cX0_times 277 = .ok (.iload 11, 2) := by decide +kernel
theorem dX0_times_279 : decode cX0_times 279 = .ok (.bipush 101, 2) := by decide +kernel
theorem dX0_times_281 : decode cX0_times 281 = .ok (.irem, 1) := by decide +kernel
theorem dX0_times_282 : decode cX0_times 282 = .ok (.imul, 1) := by decide +kernel
theorem dX0_times_283 : decode cX0_times 283 = .ok (.iadd, 1) := by decide +kernel
theorem dX0_times_284 : decode cX0_times 284 = .ok (.ireturn, 1) := by decide +kernel
set_option maxRecDepth 20000 in
theorem ggX0_power_X0_times : GoodIn wsX0_power wsX0_times := goodIn_r _ [5, 6, 7, 8, 9, 10, 11, 12, 13, 14, 15, 16, 17] (by decide +kernel) (by decide +kernel)
set_option maxRecDepth 20000 in
theorem gX0_power_X0_times : GoodIn wsX0_power (wsV RX0 45 RX0 yX0_times wsX0_times) := goodIn_app (goodIn_of _ (by decide +kernel)) ggX0_power_X0_times
theorem dX0_power_0 : decode cX0_power 0 = .ok (.iconst 1, 1) := by decide +kernel
theorem dX0_power_1 : decode cX0_power 1 = .ok (.istore_n 3, 1) := by decide +kernel
theorem dX0_power_2 : decode cX0_power 2 = .ok (.iload_n 1, 1) := by decide +kernel
theorem dX0_power_3 : decode cX0_power 3 = .ok (.istore 4, 2) := by decide +kernel
theorem dX0_power_5 : decode cX0_power 5 = .ok (.iload_n 2, 1) := by decide +kernel
theorem dX0_power_6 : decode cX0_power 6 = .ok (.istore 5, 2) := by decide +kernel
theorem dX0_power_8 : decode cX0_power 8 = .ok (.iload 5, 2) := by decide +kernel
theorem dX0_power_10 : decode cX0_power 10 = .ok (.ifCond .le 38, 3) := by decide +kernel
theorem dX0_power_13 : decode cX0_power 13 = .ok (.iload 5, 2) := by decide +kernel
theorem dX0_power_15 : decode cX0_power 15 = .ok (.iconst 1, 1) := by decide +kernel
theorem dX0_power_16 : decode cX0_power 16 = .ok (.iand, 1) := by decide +kernel
theorem dX0_power_17 : decode cX0_power 17 = .ok (.iconst 1, 1) := by decide +kernel
theorem dX0_power_18 : decode cX0_power 18 = .ok (.if_icmp .ne 11, 3) := by decide +kernel
theorem dX0_power_21 : decode cX0_power 21 = .ok (.aload_n 0, 1) := by decide +kernel
theorem dX0_power_22 : decode cX0_power 22 = .ok (.iload_n 3, 1) := by decide +kernel
theorem dX0_power_23 : decode cX0_power 23 = .ok (.iload 4, 2) := by decide +kernel
theorem dX0_power_25 : decode cX0_power 25 = .ok (.invokevirtual 45, 3) := by decide +kernel
theorem dX0_power_28 : decode cX0_power 28 = .ok (.istore_n 3, 1) := by decide +kernel
theorem dX0_power_29 : decode cX0_power 29 = .ok (.aload_n 0, 1) := by decide +kernel
theorem dX0_power_30 : decode cX0_power 30 = .ok (.iload 4, 2) := by decide +kernel
theorem dX0_power_32 : decode cX0_power 32 = .ok (.iload 4, 2) := by decide +kernel
theorem dX0_power_34 : decode cX0_power 34 = .ok (.invokevirtual 45, 3) := by decide +kernel
theorem dX0_power_37 : decode cX0_power 37 = .ok (.istore 4, 2) := by decide +kernel
theorem dX0_power_39 : decode cX0_power 39 = .ok (.iload 5, 2) := by decide +kernel
theorem dX0_power_41 : decode cX0_power 41 = .ok (.iconst 1, 1) := by decide +kernel
theorem dX0_power_42 : decode cX0_power 42 = .ok (.ishr, 1) := by decide +kernel
theorem dX0_power_43 : decode cX0_power 43 = .ok (.istore 5, 2) := by decide +kernel
theorem dX0_power_45 : decode cX0_power 45 = .ok (.goto (-37), 3) := by decide +kernel
theorem dX0_power_48 : decode cX0_power 48 = .ok (.iload_n 3, 1) := by decide +kernel
theorem dX0_power_49 : decode cX0_power 49 = .ok (.ireturn, 1) := by decide +kernel
set_option maxRecDepth 20000 in
theorem ggX0_mate_X0_times : GoodIn wsX0_mate wsX0_times := goodIn_r _ [7, 8, 9, 10, 11, 16, 17, 18, 19, 20, 21, 22, 23] (by decide +kernel) (by decide +kernel)
set_option maxRecDepth 20000 in
theorem gX0_mate_X0_times : GoodIn wsX0_mate (wsV RX0 45 RX0 yX0_times wsX0_times) := goodIn_app (goodIn_of _ (by decide +kernel)) ggX0_mate_X0_times
set_option maxRecDepth 20000 in
theorem ggX0_mate_X0_plus : GoodIn wsX0_mate wsX0_plus := goodIn_r _ [15] (by decide +kernel) (by decide +kernel)
set_option maxRecDepth 20000 in
theorem gX0_mate_X0_plus : GoodIn wsX0_mate (wsV RX0 48 RX0 yX0_plus wsX0_plus) := goodIn_app (goodIn_of _ (by decide +kernel)) ggX0_mate_X0_plus
theorem dX0_mate_0 : decode cX0_mate 0 = .ok (.aload_n 0, 1) := by decide +kernel
theorem dX0_mate_1 : decode cX0_mate 1 = .ok (.iload_n 1, 1) := by decide +kernel
theorem dX0_mate_2 : decode cX0_mate 2 = .ok (.sipush 10201, 3) := by decide +kernel
theorem dX0_mate_5 : decode cX0_mate 5 = .ok (.idiv, 1) := by decide +kernel
theorem dX0_mate_6 : decode cX0_mate 6 = .ok (.aload_n 0, 1) := by decide +kernel
theorem dX0_mate_7 : decode cX0_mate 7 = .ok (.getfield 33, 3) := by decide +kernel
theorem dX0_mate_10 : decode cX0_mate 10 = .ok (.invokevirtual 45, 3) := by decide +kernel
theorem dX0_mate_13 : decode cX0_mate 13 = .ok (.istore_n 2, 1) := by decide +kernel
theorem dX0_mate_14 : decode cX0_mate 14 = .ok (.aload_n 0, 1) := by decide +kernel
theorem dX0_mate_15 : decode cX0_mate 15 = .ok (.iload_n 1, 1) := by decide +kernel
theorem dX0_mate_16 : decode cX0_mate 16 = .ok (.bipush 101, 2) := by decide +kernel
theorem dX0_mate_18 : decode cX0_mate 18 = .ok (.idiv, 1) := by decide +kernel
theorem dX0_mate_19 : decode cX0_mate 19 = .ok (.bipush 101, 2) := by decide +kernel
theorem dX0_mate_21 : decode cX0_mate 21 = .ok (.irem, 1) := by decide +kernel
theorem dX0_mate_22 : decode cX0_mate 22 = .ok (.aload_n 0, 1) := by decide +kernel
theorem dX0_mate_23 : decode cX0_mate 23 = .ok (.getfield 30, 3) := by decide +kernel
theorem dX0_mate_26 : decode cX0_mate 26 = .ok (.invokevirtual 45, 3) := by decide +kernel
theorem dX0_mate_29 : decode cX0_mate 29 = .ok (.istore_n 3, 1) := by decide +kernel
theorem dX0_mate_30 : decode cX0_mate 30 = .ok (.aload_n 0, 1) := by decide +kernel
theorem dX0_mate_31 : decode cX0_mate 31 = .ok (.iload_n 1, 1) := by decide +kernel
theorem dX0_mate_32 : decode cX0_mate 32 = .ok (.bipush 101, 2) := by decide +kernel
theorem dX0_mate_34 : decode cX0_mate 34 = .ok (.irem, 1) := by decide +kernel
theorem dX0_mate_35 : decode cX0_mate 35 = .ok (.aload_n 0, 1) := by decide +kernel
theorem dX0_mate_36 : decode cX0_mate 36 = .ok (.iload_n 3, 1) := by decide +kernel
theorem dX0_mate_37 : decode cX0_mate 37 = .ok (.iload_n 2, 1) := by decide +kernel
theorem dX0_mate_38 : decode cX0_mate 38 = .ok (.invokevirtual 48, 3) := by decide +kernel
theorem dX0_mate_41 : decode cX0_mate 41 = .ok (.invokevirtual 48, 3) := by decide +kernel
theorem dX0_mate_44 : decode cX0_mate 44 = .ok (.ireturn, 1) := by decide +kernel
set_option maxRecDepth 20000 in
theorem ggX0_isSquare_X0_power : GoodIn wsX0_isSquare wsX0_power := goodIn_r _ [6, 7, 8, 9, 5, 10, 11, 12, 13, 14, 15, 16, 17, 18, 19, 20, 21, 22] (by decide +kernel) (by decide +kernel)
set_option maxRecDepth 20000 in
theorem gX0_isSquare_X0_power : GoodIn wsX0_isSquare (wsV RX0 41 RX0 yX0_power wsX0_power) := goodIn_app (goodIn_of _ (by decide +kernel)) ggX0_isSquare_X0_power
theorem dX0_isSquare_0 : decode cX0_isSquare 0 = .ok (.iload_n 1, 1) := by decide +kernel
theorem dX0_isSquare_1 : decode cX0_isSquare 1 = .ok (.ifCond .eq 18, 3) := by decide +kernel
theorem dX0_isSquare_4 : decode cX0_isSquare 4 = .ok (.aload_n 0, 1) := by decide +kernel
theorem dX0_isSquare_5 : decode cX0_isSquare 5 = .ok (.iload_n 1, 1) := by decide +kernel
theorem dX0_isSquare_6 : decode cX0_isSquare 6 = .ok (.aload_n 0, 1) := by decide +kernel
theorem dX0_isSquare_7 : decode cX0_isSquare 7 = .ok (.getfield 15, 3) := by decide +kernel
theorem dX0_isSquare_10 : decode cX0_isSquare 10 = .ok (.iconst 2, 1) := by decide +kernel
theorem dX0_isSquare_11 : decode cX0_isSquare 11 = .ok (.idiv, 1) := by decide +kernel
theorem dX0_isSquare_12 : decode cX0_isSquare 12 = .ok (.invokevirtual 41, 3) := by decide +kernel
theorem dX0_isSquare_15 : decode cX0_isSquare 15 = .ok (.iconst 1, 1) := by decide +kernel
theorem dX0_isSquare_16 : decode cX0_isSquare 16 = .ok (.if_icmp .ne 7, 3) := by decide +kernel
theorem dX0_isSquare_19 : decode cX0_isSquare 19 = .ok (.iconst 1, 1) := by decide +kernel
theorem dX0_isSquare_20 : decode cX0_isSquare 20 = .ok (.goto 4, 3) := by decide +kernel
theorem dX0_isSquare_23 : decode cX0_isSquare 23 = .ok (.iconst 0, 1) := by decide +kernel
theorem dX0_isSquare_24 : decode cX0_isSquare 24 = .ok (.ireturn, 1) := by decide +kernel
set_option maxRecDepth 20000 in
theorem ggX0_matesProduct_X0_mate : GoodIn wsX0_matesProduct wsX0_mate := goodIn_r _ [6, 7, 8, 9, 10, 11, 5, 12, 1, 13, 14, 15, 16, 17, 18, 19, 20, 21, 22, 23, 24, 25, 26, 27] (by decide +kernel) (by decide +kernel)
set_option maxRecDepth 20000 in
theorem gX0_matesProduct_X0_mate : GoodIn wsX0_matesProduct (wsV RX0 51 RX0 yX0_mate wsX0_mate) := goodIn_app (goodIn_of _ (by decide +kernel)) ggX0_matesProduct_X0_mate
set_option maxRecDepth 20000 in
theorem ggX0_matesProduct_X0_times : GoodIn wsX0_matesProduct wsX0_times := goodIn_r _ [12, 1, 13, 14, 15, 20, 21, 22, 23, 24, 25, 26, 27] (by decide +kernel) (by decide +kernel)
set_option maxRecDepth 20000 in
theorem gX0_matesProduct_X0_times : GoodIn wsX0_matesProduct (wsV RX0 45 RX0 yX0_times wsX0_times) := goodIn_app (goodIn_of _ (by decide +kernel)) ggX0_matesProduct_X0_times
theorem dX0_matesProduct_0 : decode cX0_matesProduct 0 = .ok (.iload_n 1, 1) := by decide +kernel
theorem dX0_matesProduct_1 : decode cX0_matesProduct 1 = .ok (.istore_n 2, 1) := by decide +kernel
theorem dX0_matesProduct_2 : decode cX0_matesProduct 2 = .ok (.iload_n 1, 1) := by decide +kernel
theorem dX0_matesProduct_3 : decode cX0_matesProduct 3 = .ok (.istore_n 3, 1) := by decide +kernel
theorem dX0_matesProduct_4 : decode cX0_matesProduct 4 = .ok (.iconst 1, 1) := by decide +kernel
theorem dX0_matesProduct_5 : decode cX0_matesProduct 5 = .ok (.istore 4, 2) := by decide +kernel
theorem dX0_matesProduct_7 : decode cX0_matesProduct 7 = .ok (.iload 4, 2) := by decide +kernel
theorem dX0_matesProduct_9 : decode cX0_matesProduct 9 = .ok (.aload_n 0, 1) := by decide +kernel
theorem dX0_matesProduct_10 : decode cX0_matesProduct 10 = .ok (.getfield 9, 3) := by decide +kernel
theorem dX0_matesProduct_13 : decode cX0_matesProduct 13 = .ok (.if_icmp .ge 22, 3) := by decide +kernel
theorem dX0_matesProduct_16 : decode cX0_matesProduct 16 = .ok (.aload_n 0, 1) := by decide +kernel
theorem dX0_matesProduct_17 : decode cX0_matesProduct 17 = .ok (.iload_n 3, 1) := by decide +kernel
theorem dX0_matesProduct_18 : decode cX0_matesProduct 18 = .ok (.invokevirtual 51, 3) := by decide +kernel
theorem dX0_matesProduct_21 : decode cX0_matesProduct 21 = .ok (.istore_n 3, 1) := by decide +kernel
theorem dX0_matesProduct_22 : decode cX0_matesProduct 22 = .ok (.aload_n 0, 1) := by decide +kernel
theorem dX0_matesProduct_23 : decode cX0_matesProduct 23 = .ok (.iload_n 2, 1) := by decide +kernel
theorem dX0_matesProduct_24 : decode cX0_matesProduct 24 = .ok (.iload_n 3, 1) := by decide +kernel
theorem dX0_matesProduct_25 : decode cX0_matesProduct 25 = .ok (.invokevirtual 45, 3) := by decide +kernel
theorem dX0_matesProduct_28 : decode cX0_matesProduct 28 = .ok (.istore_n 2, 1) := by decide +kernel
theorem dX0_matesProduct_29 : decode cX0_matesProduct 29 = .ok (.iinc 4 1, 3) := by decide +kernel
theorem dX0_matesProduct_32 : decode cX0_matesProduct 32 = .ok (.goto (-25), 3) := by decide +kernel
theorem dX0_matesProduct_35 : decode cX0_matesProduct 35 = .ok (.iload_n 2, 1) := by decide +kernel
theorem dX0_matesProduct_36 : decode cX0_matesProduct 36 = .ok (.ireturn, 1) := by decide +kernel
set_option maxRecDepth 20000 in
theorem ggX0_matesSum_X0_mate : GoodIn wsX0_matesSum wsX0_mate := goodIn_r _ [6, 7, 8, 9, 10, 11, 5, 12, 1, 13, 14, 15, 16, 17, 18, 19, 20, 21, 22, 23, 24, 25, 26, 27] (by decide +kernel) (by decide +kernel)
set_option maxRecDepth 20000 in
theorem gX0_matesSum_X0_mate : GoodIn wsX0_matesSum (wsV RX0 51 RX0 yX0_mate wsX0_mate) := goodIn_app (goodIn_of _ (by decide +kernel)) ggX0_matesSum_X0_mate
set_option maxRecDepth 20000 in
theorem ggX0_matesSum_X0_plus : GoodIn wsX0_matesSum wsX0_plus := goodIn_r _ [19] (by decide +kernel) (by decide +kernel)
set_option maxRecDepth 20000 in
theorem gX0_matesSum_X0_plus : GoodIn wsX0_matesSum (wsV RX0 48 RX0 yX0_plus wsX0_plus) := goodIn_app (goodIn_of _ (by decide +kernel)) ggX0_matesSum_X0_plus
theorem dX0_matesSum_0 : decode cX0_matesSum 0 = .ok (.iload_n 1, 1) := by decide +kernel
theorem dX0_matesSum_1 : decode cX0_matesSum 1 = .ok (.istore_n 2, 1) := by decide +kernel
theorem dX0_matesSum_2 : decode cX0_matesSum 2 = .ok (.iload_n 1, 1) := by decide +kernel
theorem dX0_matesSum_3 : decode cX0_matesSum 3 = .ok (.istore_n 3, 1) := by decide +kernel
theorem dX0_matesSum_4 : decode cX0_matesSum 4 = .ok (.iconst 1, 1) := by decide +kernel
theorem dX0_matesSum_5 : decode cX0_matesSum 5 = .ok (.istore 4, 2) := by decide +kernel
theorem dX0_matesSum_7 : decode cX0_matesSum 7 = .ok (.iload 4, 2) := by decide +kernel
theorem dX0_matesSum_9 : decode cX0_matesSum 9 = .ok (.aload_n 0, 1) := by decide +kernel
theorem dX0_matesSum_10 : decode cX0_matesSum 10 = .ok (.getfield 9, 3) := by decide +kernel
theorem dX0_matesSum_13 : decode cX0_matesSum 13 = .ok (.if_icmp .ge 22, 3) := by decide +kernel
theorem dX0_matesSum_16 : decode cX0_matesSum 16 = .ok (.aload_n 0, 1) := by decide +kernel
theorem dX0_matesSum_17 : decode cX0_matesSum 17 = .ok (.iload_n 3, 1) := by decide +kernel
theorem dX0_matesSum_18 : decode cX0_matesSum 18 = .ok (.invokevirtual 51, 3) := by decide +kernel
theorem dX0_matesSum_21 : decode cX0_matesSum 21 = .ok (.istore_n 3, 1) := by decide +kernel
theorem dX0_matesSum_22 : decode cX0_matesSum 22 = .ok (.aload_n 0, 1) := by decide +kernel
theorem dX0_matesSum_23 : decode cX0_matesSum 23 = .ok (.iload_n 2, 1) := by decide +kernel
theorem dX0_matesSum_24 : decode cX0_matesSum 24 = .ok (.iload_n 3, 1) := by decide +kernel
theorem dX0_matesSum_25 : decode cX0_matesSum 25 = .ok (.invokevirtual 48, 3) := by decide +kernel
theorem dX0_matesSum_28 : decode cX0_matesSum 28 = .ok (.istore_n 2, 1) := by decide +kernel
theorem dX0_matesSum_29 : decode cX0_matesSum 29 = .ok (.iinc 4 1, 3) := by decide +kernel
theorem dX0_matesSum_32 : decode cX0_matesSum 32 = .ok (.goto (-25), 3) := by decide +kernel
theorem dX0_matesSum_35 : decode cX0_matesSum 35 = .ok (.iload_n 2, 1) := by decide +kernel
theorem dX0_matesSum_36 : decode cX0_matesSum 36 = .ok (.ireturn, 1) := by decide +kernel
set_option maxRecDepth 20000 in
theorem ggX0_differentMates_X0_mate : GoodIn wsX0_differentMates wsX0_mate := goodIn_r _ [6, 7, 8, 9, 10, 11, 5, 12, 1, 13, 14, 15, 16, 17, 18, 19, 20, 21, 22, 23, 24, 25, 26, 27] (by decide +kernel) (by decide +kernel)
set_option maxRecDepth 20000 in
theorem gX0_differentMates_X0_mate : GoodIn wsX0_differentMates (wsV RX0 51 RX0 yX0_mate wsX0_mate) := goodIn_app (goodIn_of _ (by decide +kernel)) ggX0_differentMates_X0_mate
theorem dX0_differentMates_0 : decode cX0_differentMates 0 = .ok (.aload_n 0, 1) := by decide +kernel
theorem dX0_differentMates_1 : decode cX0_differentMates 1 = .ok (.iload_n 1, 1) := by decide +kernel
theorem dX0_differentMates_2 : decode cX0_differentMates 2 = .ok (.invokevirtual 51, 3) := by decide +kernel
theorem dX0_differentMates_5 : decode cX0_differentMates 5 = .ok (.iload_n 1, 1) := by decide +kernel
theorem dX0_differentMates_6 : decode cX0_differentMates 6 = .ok (.if_icmp .ne 7, 3) := by decide +kernel
theorem dX0_differentMates_9 : decode cX0_differentMates 9 = .ok (.iconst 1, 1) := by decide +kernel
theorem dX0_differentMates_10 : decode cX0_differentMates 10 = .ok (.goto 7, 3) := by decide +kernel
theorem dX0_differentMates_13 : decode cX0_differentMates 13 = .ok (.aload_n 0, 1) := by decide +kernel
theorem dX0_differentMates_14 : decode cX0_differentMates 14 = .ok (.getfield 9, 3) := by decide +kernel
theorem dX0_differentMates_17 : decode cX0_differentMates 17 = .ok (.ireturn, 1) := by decide +kernel
end
section
set_option maxRecDepth 20000 in
theorem ggX1_init_X0_init : GoodIn wsX1_init wsX0_init := goodIn_r _ [22, 23, 2, 3, 24, 25, 26, 27, 28, 29, 30, 31, 37, 38, 39, 40, 41, 42, 43, 44] (by decide +kernel) (by decide +kernel)
set_option maxRecDepth 20000 in
theorem gX1_init_X0_init_n11 : GoodIn wsX1_init (wsX0_init) := ggX1_init_X0_init
set_option maxRecDepth 20000 in
theorem ggX1_init_X2_init : GoodIn wsX1_init wsX2_init := goodIn_r _ [33, 34, 2, 3, 35, 36, 56] (by decide +kernel) (by decide +kernel)
set_option maxRecDepth 20000 in
theorem gX1_init_X2_init_n20 : GoodIn wsX1_init (wsX2_init) := ggX1_init_X2_init
theorem dX1_init_0 : decode cX1_init 0 = .ok (.aload_n 0, 1) := by decide +kernel
theorem dX1_init_1 : decode cX1_init 1 = .ok (.invokespecial 3, 3) := by decide +kernel
theorem dX1_init_4 : decode cX1_init 4 = .ok (.aload_n 0, 1) := by decide +kernel
theorem dX1_init_5 : decode cX1_init 5 = .ok (.new 9, 3) := by decide +kernel
theorem dX1_init_8 : decode cX1_init 8 = .ok (.dup, 1) := by decide +kernel
theorem dX1_init_9 : decode cX1_init 9 = .ok (.invokespecial 11, 3) := by decide +kernel
theorem dX1_init_12 : decode cX1_init 12 = .ok (.putfield 12, 3) := by decide +kernel
theorem dX1_init_15 : decode cX1_init 15 = .ok (.aload_n 0, 1) := by decide +kernel
theorem dX1_init_16 : decode cX1_init 16 = .ok (.new 18, 3) := by decide +kernel
theorem dX1_init_19 : decode cX1_init 19 = .ok (.dup, 1) := by decide +kernel
theorem dX1_init_20 : decode cX1_init 20 = .ok (.invokespecial 20, 3) := by decide +kernel
theorem dX1_init_23 : decode cX1_init 23 = .ok (.putfield 21, 3) := by decide +kernel
theorem dX1_init_26 : decode cX1_init 26 = .ok (.aload_n 0, 1) := by decide +kernel
theorem dX1_init_27 : decode cX1_init 27 = .ok (.new 18, 3) := by decide +kernel
theorem dX1_init_30 : decode cX1_init 30 = .ok (.dup, 1) := by decide +kernel
theorem dX1_init_31 : decode cX1_init 31 = .ok (.invokespecial 20, 3) := by decide +kernel
theorem dX1_init_34 : decode cX1_init 34 = .ok (.putfield 25, 3) := by decide +kernel
theorem dX1_init_37 : decode cX1_init 37 = .ok (.aload_n 0, 1) := by decide +kernel
theorem dX1_init_38 : decode cX1_init 38 = .ok (.new 18, 3) := by decide +kernel
theorem dX1_init_41 : decode cX1_init 41 = .ok (.dup, 1) := by decide +kernel
theorem dX1_init_42 : decode cX1_init 42 = .ok (.invokespecial 20, 3) := by decide +kernel
theorem dX1_init_45 : decode cX1_init 45 = .ok (.putfield 28, 3) := by decide +kernel
theorem dX1_init_48 : decode cX1_init 48 = .ok (.aload_n 0, 1) := by decide +kernel
theorem dX1_init_49 : decode cX1_init 49 = .ok (.new 18, 3) := by decide +kernel
theorem dX1_init_52 : decode cX1_init 52 = .ok (.dup, 1) := by decide +kernel
theorem dX1_init_53 : decode cX1_init 53 = .ok (.invokespecial 20, 3) := by decide +kernel
theorem dX1_init_56 : decode cX1_init 56 = .ok (.putfield 31, 3) := by decide +kernel
theorem dX1_init_59 : decode cX1_init 59 = .ok (.aload_n 0, 1) := by decide +kernel
theorem dX1_init_60 : decode cX1_init 60 = .ok (.new 18, 3) := by decide +kernel
theorem dX1_init_63 : decode cX1_init 63 = .ok (.dup, 1) := by decide +kernel
theorem dX1_init_64 : decode cX1_init 64 = .ok (.invokespecial 20, 3) := by decide +kernel
theorem dX1_init_67 : decode cX1_init 67 = .ok (.putfield 34, 3) := by decide +kernel
theorem dX1_init_70 : decode cX1_init 70 = .ok (.aload_n 0, 1) := by decide +kernel
theorem dX1_init_71 : decode cX1_init 71 = .ok (.new 18, 3) := by decide +kernel
theorem dX1_init_74 : decode cX1_init 74 = .ok (.dup, 1) := by decide +kernel
theorem dX1_init_75 : decode cX1_init 75 = .ok (.invokespecial 20, 3) := by decide +kernel
theorem dX1_init_78 : decode cX1_init 78 = .ok (.putfield 37, 3) := by decide +kernel
theorem dX1_init_81 : decode cX1_init 81 = .ok (.aload_n 0, 1) := by decide +kernel
theorem dX1_init_82 : decode cX1_init 82 = .ok (.new 18, 3) := by decide +kernel
theorem dX1_init_85 : decode cX1_init 85 = .ok (.dup, 1) := by decide +kernel
theorem dX1_init_86 : decode cX1_init 86 = .ok (.invokespecial 20, 3) := by decide +kernel
theorem dX1_init_89 : decode cX1_init 89 = .ok (.putfield 40, 3) := by decide +kernel
theorem dX1_init_92 : decode cX1_init 92 = .ok (.aload_n 0, 1) := by decide +kernel
theorem dX1_init_93 : decode cX1_init 93 = .ok (.new 18, 3) := by decide +kernel
theorem dX1_init_96 : decode cX1_init 96 = .ok (.dup, 1) := by decide +kernel
theorem dX1_init_97 : decode cX1_init 97 = .ok (.invokespecial 20, 3) := by decide +kernel
theorem dX1_init_100 : decode cX1_init 100 = .ok (.putfield 43, 3) := by decide +kernel
theorem dX1_init_103 : decode cX1_init 103 = .ok (.aload_n 0, 1) := by decide +kernel
theorem dX1_init_104 : decode cX1_init 104 = .ok (.new 18, 3) := by decide +kernel
theorem dX1_init_107 : decode cX1_init 107 = .ok (.dup, 1) := by decide +kernel
theorem dX1_init_108 : decode cX1_init 108 = .ok (.invokespecial 20, 3) := by decide +kernel
theorem dX1_init_111 : decode cX1_init 111 = .ok (.putfield 46, 3) := by decide +kernel
theorem dX1_init_114 : decode cX1_init 114 = .ok (.aload_n 0, 1) := by decide +kernel
theorem dX1_init_115 : decode cX1_init 115 = .ok (.new 18, 3) := by decide +kernel
theorem dX1_init_118 : decode cX1_init 118 = .ok (.dup, 1) := by decide +kernel
theorem dX1_init_119 : decode cX1_init 119 = .ok (.invokespecial 20, 3) := by decide +kernel
theorem dX1_init_122 : decode cX1_init 122 = .ok (.putfield 49, 3) := by decide +kernel
theorem dX1_init_125 : decode cX1_init 125 = .ok (.return_, 1) := by decide +kernel
set_option maxRecDepth 20000 in
theorem ggX1_valueOf_X2_degree : GoodIn wsX1_valueOf wsX2_degree := goodIn_r _ [6, 7, 36] (by decide +kernel) (by decide +kernel)
set_option maxRecDepth 20000 in
theorem gX1_valueOf_X2_degree : GoodIn wsX1_valueOf (wsV RX1 52 RX2 yX2_degree wsX2_degree) := goodIn_app (goodIn_of _ (by decide +kernel)) ggX1_valueOf_X2_degree
set_option maxRecDepth 20000 in
theorem ggX1_valueOf_X0_times : GoodIn wsX1_valueOf wsX0_times := goodIn_r _ [12, 13, 14, 15, 16, 37, 38, 39, 40, 41, 42, 43, 44] (by decide +kernel) (by decide +kernel)
set_option maxRecDepth 20000 in
theorem gX1_valueOf_X0_times : GoodIn wsX1_valueOf (wsV RX1 56 RX0 yX0_times wsX0_times) := goodIn_app (goodIn_of _ (by decide +kernel)) ggX1_valueOf_X0_times
set_option maxRecDepth 20000 in
theorem ggX1_valueOf_X2_get : GoodIn wsX1_valueOf wsX2_get := goodIn_r _ [20, 7, 36] (by decide +kernel) (by decide +kernel)
set_option maxRecDepth 20000 in
theorem gX1_valueOf_X2_get : GoodIn wsX1_valueOf (wsV RX1 60 RX2 yX2_get wsX2_get) := goodIn_app (goodIn_of _ (by decide +kernel)) ggX1_valueOf_X2_get
set_option maxRecDepth 20000 in
theorem ggX1_valueOf_X0_plus : GoodIn wsX1_valueOf wsX0_plus := goodIn_r _ [24] (by decide +kernel) (by decide +kernel)
set_option maxRecDepth 20000 in
theorem gX1_valueOf_X0_plus : GoodIn wsX1_valueOf (wsV RX1 64 RX0 yX0_plus wsX0_plus) := goodIn_app (goodIn_of _ (by decide +kernel)) ggX1_valueOf_X0_plus
theorem dX1_valueOf_0 : decode cX1_valueOf 0 = .ok (.iconst 0, 1) := by decide +kernel
theorem dX1_valueOf_1 : decode cX1_valueOf 1 = .ok (.istore_n 3, 1) := by decide +kernel
theorem dX1_valueOf_2 : decode cX1_valueOf 2 = .ok (.aload_n 1, 1) := by decide +kernel
theorem dX1_valueOf_3 : decode cX1_valueOf 3 = .ok (.invokevirtual 52, 3) := by decide +kernel
theorem dX1_valueOf_6 : decode cX1_valueOf 6 = .ok (.istore 4, 2) := by decide +kernel
theorem dX1_valueOf_8 : decode cX1_valueOf 8 = .ok (.iload 4, 2) := by decide +kernel
theorem dX1_valueOf_10 : decode cX1_valueOf 10 = .ok (.ifCond .lt 32, 3) := by decide +kernel
theorem dX1_valueOf_13 : decode cX1_valueOf 13 = .ok (.aload_n 0, 1) := by decide +kernel
theorem dX1_valueOf_14 : decode cX1_valueOf 14 = .ok (.getfield 12, 3) := by decide +kernel
theorem dX1_valueOf_17 : decode cX1_valueOf 17 = .ok (.aload_n 0, 1) := by decide +kernel
theorem dX1_valueOf_18 : decode cX1_valueOf 18 = .ok (.getfield 12, 3) := by decide +kernel
theorem dX1_valueOf_21 : decode cX1_valueOf 21 = .ok (.iload_n 3, 1) := by decide +kernel
theorem dX1_valueOf_22 : decode cX1_valueOf 22 = .ok (.iload_n 2, 1) := by decide +kernel
theorem dX1_valueOf_23 : decode cX1_valueOf 23 = .ok (.invokevirtual 56, 3) := by decide +kernel
theorem dX1_valueOf_26 : decode cX1_valueOf 26 = .ok (.aload_n 1, 1) := by decide +kernel
theorem dX1_valueOf_27 : decode cX1_valueOf 27 = .ok (.iload 4, 2) := by decide +kernel
theorem dX1_valueOf_29 : decode cX1_valueOf 29 = .ok (.invokevirtual 60, 3) := by decide +kernel
theorem dX1_valueOf_32 : decode cX1_valueOf 32 = .ok (.invokevirtual 64, 3) := by decide +kernel
theorem dX1_valueOf_35 : decode cX1_valueOf 35 = .ok (.istore_n 3, 1) := by decide +kernel
theorem dX1_valueOf_36 : decode cX1_valueOf 36 = .ok (.iinc 4 (-1), 3) := by decide +kernel
theorem dX1_valueOf_39 : decode cX1_valueOf 39 = .ok (.goto (-31), 3) := by decide +kernel
theorem dX1_valueOf_42 : decode cX1_valueOf 42 = .ok (.iload_n 3, 1) := by decide +kernel
theorem dX1_valueOf_43 : decode cX1_valueOf 43 = .ok (.ireturn, 1) := by decide +kernel
set_option maxRecDepth 20000 in
theorem ggX1_displace_X2_degree : GoodIn wsX1_displace wsX2_degree := goodIn_r _ [6, 7, 40] (by decide +kernel) (by decide +kernel)
set_option maxRecDepth 20000 in
theorem gX1_displace_X2_degree : GoodIn wsX1_displace (wsV RX1 52 RX2 yX2_degree wsX2_degree) := goodIn_app (goodIn_of _ (by decide +kernel)) ggX1_displace_X2_degree
set_option maxRecDepth 20000 in
theorem ggX1_displace_X2_get : GoodIn wsX1_displace wsX2_get := goodIn_r _ [11, 7, 40] (by decide +kernel) (by decide +kernel)
set_option maxRecDepth 20000 in
theorem gX1_displace_X2_get : GoodIn wsX1_displace (wsV RX1 60 RX2 yX2_get wsX2_get) := goodIn_app (goodIn_of _ (by decide +kernel)) ggX1_displace_X2_get
set_option maxRecDepth 20000 in
theorem ggX1_displace_X0_times : GoodIn wsX1_displace wsX0_times := goodIn_r _ [16, 17, 18, 19, 20, 41, 42, 43, 44, 45, 46, 47, 48] (by decide +kernel) (by decide +kernel)
set_option maxRecDepth 20000 in
theorem gX1_displace_X0_times : GoodIn wsX1_displace (wsV RX1 56 RX0 yX0_times wsX0_times) := goodIn_app (goodIn_of _ (by decide +kernel)) ggX1_displace_X0_times
set_option maxRecDepth 20000 in
theorem ggX1_displace_X0_plus : GoodIn wsX1_displace wsX0_plus := goodIn_r _ [24] (by decide +kernel) (by decide +kernel)
set_option maxRecDepth 20000 in
theorem gX1_displace_X0_plus : GoodIn wsX1_displace (wsV RX1 64 RX0 yX0_plus wsX0_plus) := goodIn_app (goodIn_of _ (by decide +kernel)) ggX1_displace_X0_plus
set_option maxRecDepth 20000 in
theorem ggX1_displace_X2_set : GoodIn wsX1_displace wsX2_set := goodIn_r _ [28, 7, 40] (by decide +kernel) (by decide +kernel)
set_option maxRecDepth 20000 in
theorem gX1_displace_X2_set : GoodIn wsX1_displace (wsV RX1 67 RX2 yX2_set wsX2_set) := goodIn_app (goodIn_of _ (by decide +kernel)) ggX1_displace_X2_set
theorem dX1_displace_0 : decode cX1_displace 0 = .ok (.aload_n 1, 1) := by decide +kernel
theorem dX1_displace_1 : decode cX1_displace 1 = .ok (.invokevirtual 52, 3) := by decide +kernel
theorem dX1_displace_4 : decode cX1_displace 4 = .ok (.istore_n 3, 1) := by decide +kernel
theorem dX1_displace_5 : decode cX1_displace 5 = .ok (.iconst 0, 1) := by decide +kernel
theorem dX1_displace_6 : decode cX1_displace 6 = .ok (.istore 4, 2) := by decide +kernel
theorem dX1_displace_8 : decode cX1_displace 8 = .ok (.iload 4, 2) := by decide +kernel
theorem dX1_displace_10 : decode cX1_displace 10 = .ok (.iload_n 3, 1) := by decide +kernel
theorem dX1_displace_11 : decode cX1_displace 11 = .ok (.if_icmp .ge 62, 3) := by decide +kernel
theorem dX1_displace_14 : decode cX1_displace 14 = .ok (.iload_n 3, 1) := by decide +kernel
theorem dX1_displace_15 : decode cX1_displace 15 = .ok (.iconst 1, 1) := by decide +kernel
theorem dX1_displace_16 : decode cX1_displace 16 = .ok (.isub, 1) := by decide +kernel
theorem dX1_displace_17 : decode cX1_displace 17 = .ok (.istore 5, 2) := by decide +kernel
theorem dX1_displace_19 : decode cX1_displace 19 = .ok (.iload 5, 2) := by decide +kernel
theorem dX1_displace_21 : decode cX1_displace 21 = .ok (.iload 4, 2) := by decide +kernel
theorem dX1_displace_23 : decode cX1_displace 23 = .ok (.if_icmp .lt 44, 3) := by decide +kernel
theorem dX1_displace_26 : decode cX1_displace 26 = .ok (.aload_n 1, 1) := by decide +kernel
theorem dX1_displace_27 : decode cX1_displace 27 = .ok (.iload 5, 2) := by decide +kernel
theorem dX1_displace_29 : decode cX1_displace 29 = .ok (.aload_n 0, 1) := by decide +kernel
theorem dX1_displace_30 : decode cX1_displace 30 = .ok (.getfield 12, 3) := by decide +kernel
theorem dX1_displace_33 : decode cX1_displace 33 = .ok (.aload_n 1, 1) := by decide +kernel
theorem dX1_displace_34 : decode cX1_displace 34 = .ok (.iload 5, 2) := by decide +kernel
theorem dX1_displace_36 : decode cX1_displace 36 = .ok (.invokevirtual 60, 3) := by decide +kernel
theorem dX1_displace_39 : decode cX1_displace 39 = .ok (.aload_n 0, 1) := by decide +kernel
theorem dX1_displace_40 : decode cX1_displace 40 = .ok (.getfield 12, 3) := by decide +kernel
theorem dX1_displace_43 : decode cX1_displace 43 = .ok (.iload_n 2, 1) := by decide +kernel
theorem dX1_displace_44 : decode cX1_displace 44 = .ok (.aload_n 1, 1) := by decide +kernel
theorem dX1_displace_45 : decode cX1_displace 45 = .ok (.iload 5, 2) := by decide +kernel
theorem dX1_displace_47 : decode cX1_displace 47 = .ok (.iconst 1, 1) := by decide +kernel
theorem dX1_displace_48 : decode cX1_displace 48 = .ok (.iadd, 1) := by decide +kernel
theorem dX1_displace_49 : decode cX1_displace 49 = .ok (.invokevirtual 60, 3) := by decide +kernel
theorem dX1_displace_52 : decode cX1_displace 52 = .ok (.invokevirtual 56, 3) := by decide +kernel
theorem dX1_displace_55 : decode cX1_displace 55 = .ok (.invokevirtual 64, 3) := by decide +kernel
theorem dX1_displace_58 : decode cX1_displace 58 = .ok (.invokevirtual 67, 3) := by decide +kernel
theorem dX1_displace_61 : decode cX1_displace 61 = .ok (.iinc 5 (-1), 3) := by decide +kernel
theorem dX1_displace_64 : decode cX1_displace 64 = .ok (.goto (-45), 3) := by decide +kernel
theorem dX1_displace_67 : decode cX1_displace 67 = .ok (.iinc 4 1, 3) := by decide +kernel
theorem dX1_displace_70 : decode cX1_displace 70 = .ok (.goto (-62), 3) := by decide +kernel
theorem dX1_displace_73 : decode cX1_displace 73 = .ok (.return_, 1) := by decide +kernel
set_option maxRecDepth 20000 in
theorem ggX1_multiply_X2_degree : GoodIn wsX1_multiply wsX2_degree := goodIn_r _ [7, 8, 50] (by decide +kernel) (by decide +kernel)
set_option maxRecDepth 20000 in
theorem gX1_multiply_X2_degree : GoodIn wsX1_multiply (wsV RX1 52 RX2 yX2_degree wsX2_degree) := goodIn_app (goodIn_of _ (by decide +kernel)) ggX1_multiply_X2_degree
set_option maxRecDepth 20000 in
theorem ggX1_multiply_X2_clear : GoodIn wsX1_multiply wsX2_clear := goodIn_r _ [12, 8, 50] (by decide +kernel) (by decide +kernel)
set_option maxRecDepth 20000 in
theorem gX1_multiply_X2_clear : GoodIn wsX1_multiply (wsV RX1 71 RX2 yX2_clear wsX2_clear) := goodIn_app (goodIn_of _ (by decide +kernel)) ggX1_multiply_X2_clear
set_option maxRecDepth 20000 in
theorem ggX1_multiply_X2_get : GoodIn wsX1_multiply wsX2_get := goodIn_r _ [16, 8, 50] (by decide +kernel) (by decide +kernel)
set_option maxRecDepth 20000 in
theorem gX1_multiply_X2_get : GoodIn wsX1_multiply (wsV RX1 60 RX2 yX2_get wsX2_get) := goodIn_app (goodIn_of _ (by decide +kernel)) ggX1_multiply_X2_get
set_option maxRecDepth 20000 in
theorem ggX1_multiply_X0_times : GoodIn wsX1_multiply wsX0_times := goodIn_r _ [21, 22, 23, 24, 25, 51, 52, 53, 54, 55, 56, 57, 58] (by decide +kernel) (by decide +kernel)
set_option maxRecDepth 20000 in
theorem gX1_multiply_X0_times : GoodIn wsX1_multiply (wsV RX1 56 RX0 yX0_times wsX0_times) := goodIn_app (goodIn_of _ (by decide +kernel)) ggX1_multiply_X0_times
set_option maxRecDepth 20000 in
theorem ggX1_multiply_X0_plus : GoodIn wsX1_multiply wsX0_plus := goodIn_r _ [29] (by decide +kernel) (by decide +kernel)
set_option maxRecDepth 20000 in
theorem gX1_multiply_X0_plus : GoodIn wsX1_multiply (wsV RX1 64 RX0 yX0_plus wsX0_plus) := goodIn_app (goodIn_of _ (by decide +kernel)) ggX1_multiply_X0_plus
set_option maxRecDepth 20000 in
theorem ggX1_multiply_X2_set : GoodIn wsX1_multiply wsX2_set := goodIn_r _ [33, 8, 50] (by decide +kernel) (by decide +kernel)
set_option maxRecDepth 20000 in
theorem gX1_multiply_X2_set : GoodIn wsX1_multiply (wsV RX1 67 RX2 yX2_set wsX2_set) := goodIn_app (goodIn_of _ (by decide +kernel)) ggX1_multiply_X2_set
set_option maxRecDepth 20000 in
theorem ggX1_multiply_X2_copy : GoodIn wsX1_multiply wsX2_copy := goodIn_r _ [37, 8, 38, 14, 15, 6, 16, 50] (by decide +kernel) (by decide +kernel)
set_option maxRecDepth 20000 in
theorem gX1_multiply_X2_copy : GoodIn wsX1_multiply (wsV RX1 74 RX2 yX2_copy wsX2_copy) := goodIn_app (goodIn_of _ (by decide +kernel)) ggX1_multiply_X2_copy
theorem dX1_multiply_0 : decode cX1_multiply 0 = .ok (.aload_n 1, 1) := by decide +kernel
theorem dX1_multiply_1 : decode cX1_multiply 1 = .ok (.invokevirtual 52, 3) := by decide +kernel
theorem dX1_multiply_4 : decode cX1_multiply 4 = .ok (.istore_n 3, 1) := by decide +kernel
theorem dX1_multiply_5 : decode cX1_multiply 5 = .ok (.aload_n 2, 1) := by decide +kernel
theorem dX1_multiply_6 : decode cX1_multiply 6 = .ok (.invokevirtual 52, 3) := by decide +kernel
theorem dX1_multiply_9 : decode cX1_multiply 9 = .ok (.istore 4, 2) := by decide +kernel
theorem dX1_multiply_11 : decode cX1_multiply 11 = .ok (.aload_n 0, 1) := by decide +kernel
theorem dX1_multiply_12 : decode cX1_multiply 12 = .ok (.getfield 21, 3) := by decide +kernel
theorem dX1_multiply_15 : decode cX1_multiply 15 = .ok (.invokevirtual 71, 3) := by decide +kernel
theorem dX1_multiply_18 : decode cX1_multiply 18 = .ok (.iconst 0, 1) := by decide +kernel
theorem dX1_multiply_19 : decode cX1_multiply 19 = .ok (.istore 5, 2) := by decide +kernel
theorem dX1_multiply_21 : decode cX1_multiply 21 = .ok (.iload 5, 2) := by decide +kernel
theorem dX1_multiply_23 : decode cX1_multiply 23 = .ok (.iload_n 3, 1) := by decide +kernel
theorem dX1_multiply_24 : decode cX1_multiply 24 = .ok (.if_icmp .gt 84, 3) := by decide +kernel
theorem dX1_multiply_27 : decode cX1_multiply 27 = .ok (.aload_n 1, 1) := by decide +kernel
theorem dX1_multiply_28 : decode cX1_multiply 28 = .ok (.iload 5, 2) := by decide +kernel
theorem dX1_multiply_30 : decode cX1_multiply 30 = .ok (.invokevirtual 60, 3) := by decide +kernel
theorem dX1_multiply_33 : decode cX1_multiply 33 = .ok (.istore 6, 2) := by decide +kernel
theorem dX1_multiply_35 : decode cX1_multiply 35 = .ok (.iconst 0, 1) := by decide +kernel
theorem dX1_multiply_36 : decode cX1_multiply 36 = .ok (.istore 7, 2) := by decide +kernel
theorem dX1_multiply_38 : decode cX1_multiply 38 = .ok (.iload 6, 2) := by decide +kernel
theorem dX1_multiply_40 : decode cX1_multiply 40 = .ok (.ifCond .eq 62, 3) := by decide +kernel
theorem dX1_multiply_43 : decode cX1_multiply 43 = .ok (.iload 7, 2) := by decide +kernel
theorem dX1_multiply_45 : decode cX1_multiply 45 = .ok (.iload 4, 2) := by decide +kernel
theorem dX1_multiply_47 : decode cX1_multiply 47 = .ok (.if_icmp .gt 55, 3) := by decide +kernel
theorem dX1_multiply_50 : decode cX1_multiply 50 = .ok (.aload_n 0, 1) := by decide +kernel
theorem dX1_multiply_51 : decode cX1_multiply 51 = .ok (.getfield 21, 3) := by decide +kernel
theorem dX1_multiply_54 : decode cX1_multiply 54 = .ok (.iload 5, 2) := by decide +kernel
theorem dX1_multiply_56 : decode cX1_multiply 56 = .ok (.iload 7, 2) := by decide +kernel
theorem dX1_multiply_58 : decode cX1_multiply 58 = .ok (.iadd, 1) := by decide +kernel
theorem dX1_multiply_59 : decode cX1_multiply 59 = .ok (.aload_n 0, 1) := by decide +kernel
theorem dX1_multiply_60 : decode cX1_multiply 60 = .ok (.getfield 12, 3) := by decide +kernel
theorem dX1_multiply_63 : decode cX1_multiply 63 = .ok (.aload_n 0, 1) := by decide +kernel
theorem dX1_multiply_64 : decode cX1_multiply 64 = .ok (.getfield 21, 3) := by decide +kernel
theorem dX1_multiply_67 : decode cX1_multiply 67 = .ok (.iload 5, 2) := by decide +kernel
theorem dX1_multiply_69 : decode cX1_multiply 69 = .ok (.iload 7, 2) := by decide +kernel
theorem dX1_multiply_71 : decode cX1_multiply 71 = .ok (.iadd, 1) := by decide +kernel
theorem dX1_multiply_72 : decode cX1_multiply 72 = .ok (.invokevirtual 60, 3) := by decide +kernel
theorem dX1_multiply_75 : decode cX1_multiply 75 = .ok (.aload_n 0, 1) := by decide +kernel
theorem dX1_multiply_76 : decode cX1_multiply 76 = .ok (.getfield 12, 3) := by decide +kernel
theorem dX1_multiply_79 : decode cX1_multiply 79 = .ok (.iload 6, 2) := by decide +kernel
theorem dX1_multiply_81 : decode cX1_multiply 81 = .ok (.aload_n 2, 1) := by decide +kernel
theorem dX1_multiply_82 : decode cX1_multiply 82 = .ok (.iload 7, 2) := by decide +kernel
theorem dX1_multiply_84 : decode cX1_multiply 84 = .ok (.invokevirtual 60, 3) := by decide +kernel
theorem dX1_multiply_87 : decode cX1_multiply 87 = .ok (.invokevirtual 56, 3) := by decide +kernel
theorem dX1_multiply_90 : decode cX1_multiply 90 = .ok (.invokevirtual 64, 3) := by decide +kernel
theorem dX1_multiply_93 : decode cX1_multiply 93 = .ok (.invokevirtual 67, 3) := by decide +kernel
theorem dX1_multiply_96 : decode cX1_multiply 96 = .ok (.iinc 7 1, 3) := by decide +kernel
theorem dX1_multiply_99 : decode cX1_multiply 99 = .ok (.goto (-61), 3) := by decide +kernel
theorem dX1_multiply_102 : decode cX1_multiply 102 = .ok (.iinc 5 1, 3) := by decide +kernel
theorem dX1_multiply_105 : decode cX1_multiply 105 = .ok (.goto (-84), 3) := by decide +kernel
theorem dX1_multiply_108 : decode cX1_multiply 108 = .ok (.aload_n 1, 1) := by decide +kernel
theorem dX1_multiply_109 : decode cX1_multiply 109 = .ok (.aload_n 0, 1) := by decide +kernel
theorem dX1_multiply_110 : decode cX1_multiply 110 = .ok (.getfield 21, 3) := by decide +kernel
theorem dX1_multiply_113 : decode cX1_multiply 113 = .ok (.invokevirtual 74, 3) := by decide +kernel
theorem dX1_multiply_116 : decode cX1_multiply 116 = .ok (.return_, 1) := by decide +kernel
set_option maxRecDepth 20000 in
theorem ggX1_multiplyLinear_X2_degree : GoodIn wsX1_multiplyLinear wsX2_degree := goodIn_r _ [6, 7, 40] (by decide +kernel) (by decide +kernel)
set_option maxRecDepth 20000 in
theorem gX1_multiplyLinear_X2_degree : GoodIn wsX1_multiplyLinear (wsV RX1 52 RX2 yX2_degree wsX2_degree) := goodIn_app (goodIn_of _ (by decide +kernel)) ggX1_multiplyLinear_X2_degree
set_option maxRecDepth 20000 in
theorem ggX1_multiplyLinear_X2_get : GoodIn wsX1_multiplyLinear wsX2_get := goodIn_r _ [11, 7, 40] (by decide +kernel) (by decide +kernel)
set_option maxRecDepth 20000 in
theorem gX1_multiplyLinear_X2_get : GoodIn wsX1_multiplyLinear (wsV RX1 60 RX2 yX2_get wsX2_get) := goodIn_app (goodIn_of _ (by decide +kernel)) ggX1_multiplyLinear_X2_get
set_option maxRecDepth 20000 in
theorem ggX1_multiplyLinear_X0_times : GoodIn wsX1_multiplyLinear wsX0_times := goodIn_r _ [16, 17, 18, 19, 20, 41, 42, 43, 44, 45, 46, 47, 48] (by decide +kernel) (by decide +kernel)
set_option maxRecDepth 20000 in
theorem gX1_multiplyLinear_X0_times : GoodIn wsX1_multiplyLinear (wsV RX1 56 RX0 yX0_times wsX0_times) := goodIn_app (goodIn_of _ (by decide +kernel)) ggX1_multiplyLinear_X0_times
set_option maxRecDepth 20000 in
theorem ggX1_multiplyLinear_X0_plus : GoodIn wsX1_multiplyLinear wsX0_plus := goodIn_r _ [24] (by decide +kernel) (by decide +kernel)
set_option maxRecDepth 20000 in
theorem gX1_multiplyLinear_X0_plus : GoodIn wsX1_multiplyLinear (wsV RX1 64 RX0 yX0_plus wsX0_plus) := goodIn_app (goodIn_of _ (by decide +kernel)) ggX1_multiplyLinear_X0_plus
set_option maxRecDepth 20000 in
theorem ggX1_multiplyLinear_X2_set : GoodIn wsX1_multiplyLinear wsX2_set := goodIn_r _ [28, 7, 40] (by decide +kernel) (by decide +kernel)
set_option maxRecDepth 20000 in
theorem gX1_multiplyLinear_X2_set : GoodIn wsX1_multiplyLinear (wsV RX1 67 RX2 yX2_set wsX2_set) := goodIn_app (goodIn_of _ (by decide +kernel)) ggX1_multiplyLinear_X2_set
theorem dX1_multiplyLinear_0 : decode cX1_multiplyLinear 0 = .ok (.aload_n 1, 1) := by decide +kernel
theorem dX1_multiplyLinear_1 : decode cX1_multiplyLinear 1 = .ok (.invokevirtual 52, 3) := by decide +kernel
theorem dX1_multiplyLinear_4 : decode cX1_multiplyLinear 4 = .ok (.iconst 1, 1) := by decide +kernel
theorem dX1_multiplyLinear_5 : decode cX1_multiplyLinear 5 = .ok (.iadd, 1) := by decide +kernel
theorem dX1_multiplyLinear_6 : decode cX1_multiplyLinear 6 = .ok (.istore_n 3, 1) := by decide +kernel
theorem dX1_multiplyLinear_7 : decode cX1_multiplyLinear 7 = .ok (.iload_n 3, 1) := by decide +kernel
theorem dX1_multiplyLinear_8 : decode cX1_multiplyLinear 8 = .ok (.ifCond .lt 41, 3) := by decide +kernel
theorem dX1_multiplyLinear_11 : decode cX1_multiplyLinear 11 = .ok (.aload_n 1, 1) := by decide +kernel
theorem dX1_multiplyLinear_12 : decode cX1_multiplyLinear 12 = .ok (.iload_n 3, 1) := by decide +kernel
theorem dX1_multiplyLinear_13 : decode cX1_multiplyLinear 13 = .ok (.aload_n 0, 1) := by decide +kernel
theorem dX1_multiplyLinear_14 : decode cX1_multiplyLinear 14 = .ok (.getfield 12, 3) := by decide +kernel
theorem dX1_multiplyLinear_17 : decode cX1_multiplyLinear 17 = .ok (.aload_n 1, 1) := by decide +kernel
theorem dX1_multiplyLinear_18 : decode cX1_multiplyLinear 18 = .ok (.iload_n 3, 1) := by decide +kernel
theorem dX1_multiplyLinear_19 : decode cX1_multiplyLinear 19 = .ok (.iconst 1, 1) := by decide +kernel
theorem dX1_multiplyLinear_20 : decode cX1_multiplyLinear 20 = .ok (.isub, 1) := by decide +kernel
theorem dX1_multiplyLinear_21 : decode cX1_multiplyLinear 21 = .ok (.invokevirtual 60, 3) := by decide +kernel
theorem dX1_multiplyLinear_24 : decode cX1_multiplyLinear 24 = .ok (.aload_n 0, 1) := by decide +kernel
theorem dX1_multiplyLinear_25 : decode cX1_multiplyLinear 25 = .ok (.getfield 12, 3) := by decide +kernel
theorem dX1_multiplyLinear_28 : decode cX1_multiplyLinear 28 = .ok (.iload_n 2, 1) := by decide +kernel
theorem dX1_multiplyLinear_29 : decode cX1_multiplyLinear 29 = .ok (.aload_n 1, 1) := by decide +kernel
theorem dX1_multiplyLinear_30 : decode cX1_multiplyLinear 30 = .ok (.iload_n 3, 1) := by decide +kernel
theorem dX1_multiplyLinear_31 : decode cX1_multiplyLinear 31 = .ok (.invokevirtual 60, 3) := by decide +kernel
theorem dX1_multiplyLinear_34 : decode cX1_multiplyLinear 34 = .ok (.invokevirtual 56, 3) := by decide +kernel
theorem dX1_multiplyLinear_37 : decode cX1_multiplyLinear 37 = .ok (.invokevirtual 64, 3) := by decide +kernel
theorem dX1_multiplyLinear_40 : decode cX1_multiplyLinear 40 = .ok (.invokevirtual 67, 3) := by decide +kernel
theorem dX1_multiplyLinear_43 : decode cX1_multiplyLinear 43 = .ok (.iinc 3 (-1), 3) := by decide +kernel
theorem dX1_multiplyLinear_46 : decode cX1_multiplyLinear 46 = .ok (.goto (-39), 3) := by decide +kernel
theorem dX1_multiplyLinear_49 : decode cX1_multiplyLinear 49 = .ok (.return_, 1) := by decide +kernel
set_option maxRecDepth 20000 in
theorem ggX1_divide_X2_degree : GoodIn wsX1_divide wsX2_degree := goodIn_r _ [7, 8, 45] (by decide +kernel) (by decide +kernel)
set_option maxRecDepth 20000 in
theorem gX1_divide_X2_degree : GoodIn wsX1_divide (wsV RX1 52 RX2 yX2_degree wsX2_degree) := goodIn_app (goodIn_of _ (by decide +kernel)) ggX1_divide_X2_degree
set_option maxRecDepth 20000 in
theorem ggX1_divide_X2_clear : GoodIn wsX1_divide wsX2_clear := goodIn_r _ [12, 8, 45] (by decide +kernel) (by decide +kernel)
set_option maxRecDepth 20000 in
theorem gX1_divide_X2_clear : GoodIn wsX1_divide (wsV RX1 71 RX2 yX2_clear wsX2_clear) := goodIn_app (goodIn_of _ (by decide +kernel)) ggX1_divide_X2_clear
set_option maxRecDepth 20000 in
theorem ggX1_divide_X2_get : GoodIn wsX1_divide wsX2_get := goodIn_r _ [16, 8, 45] (by decide +kernel) (by decide +kernel)
set_option maxRecDepth 20000 in
theorem gX1_divide_X2_get : GoodIn wsX1_divide (wsV RX1 60 RX2 yX2_get wsX2_get) := goodIn_app (goodIn_of _ (by decide +kernel)) ggX1_divide_X2_get
set_option maxRecDepth 20000 in
theorem ggX1_divide_X2_set : GoodIn wsX1_divide wsX2_set := goodIn_r _ [20, 8, 45] (by decide +kernel) (by decide +kernel)
set_option maxRecDepth 20000 in
theorem gX1_divide_X2_set : GoodIn wsX1_divide (wsV RX1 67 RX2 yX2_set wsX2_set) := goodIn_app (goodIn_of _ (by decide +kernel)) ggX1_divide_X2_set
set_option maxRecDepth 20000 in
theorem ggX1_divide_X0_times : GoodIn wsX1_divide wsX0_times := goodIn_r _ [25, 26, 27, 28, 29, 46, 47, 48, 49, 50, 51, 52, 53] (by decide +kernel) (by decide +kernel)
set_option maxRecDepth 20000 in
theorem gX1_divide_X0_times : GoodIn wsX1_divide (wsV RX1 56 RX0 yX0_times wsX0_times) := goodIn_app (goodIn_of _ (by decide +kernel)) ggX1_divide_X0_times
set_option maxRecDepth 20000 in
theorem ggX1_divide_X0_minus : GoodIn wsX1_divide wsX0_minus := goodIn_r _ [33] (by decide +kernel) (by decide +kernel)
set_option maxRecDepth 20000 in
theorem gX1_divide_X0_minus : GoodIn wsX1_divide (wsV RX1 78 RX0 yX0_minus wsX0_minus) := goodIn_app (goodIn_of _ (by decide +kernel)) ggX1_divide_X0_minus
theorem dX1_divide_0 : decode cX1_divide 0 = .ok (.aload_n 2, 1) := by decide +kernel
theorem dX1_divide_1 : decode cX1_divide 1 = .ok (.invokevirtual 52, 3) := by decide +kernel
theorem dX1_divide_4 : decode cX1_divide 4 = .ok (.istore_n 3, 1) := by decide +kernel
theorem dX1_divide_5 : decode cX1_divide 5 = .ok (.aload_n 0, 1) := by decide +kernel
theorem dX1_divide_6 : decode cX1_divide 6 = .ok (.getfield 25, 3) := by decide +kernel
theorem dX1_divide_9 : decode cX1_divide 9 = .ok (.invokevirtual 71, 3) := by decide +kernel
theorem dX1_divide_12 : decode cX1_divide 12 = .ok (.aload_n 1, 1) := by decide +kernel
theorem dX1_divide_13 : decode cX1_divide 13 = .ok (.invokevirtual 52, 3) := by decide +kernel
theorem dX1_divide_16 : decode cX1_divide 16 = .ok (.istore 4, 2) := by decide +kernel
theorem dX1_divide_18 : decode cX1_divide 18 = .ok (.iload_n 3, 1) := by decide +kernel
theorem dX1_divide_19 : decode cX1_divide 19 = .ok (.ifCond .lt 99, 3) := by decide +kernel
theorem dX1_divide_22 : decode cX1_divide 22 = .ok (.iload 4, 2) := by decide +kernel
theorem dX1_divide_24 : decode cX1_divide 24 = .ok (.iload_n 3, 1) := by decide +kernel
theorem dX1_divide_25 : decode cX1_divide 25 = .ok (.if_icmp .lt 93, 3) := by decide +kernel
theorem dX1_divide_28 : decode cX1_divide 28 = .ok (.aload_n 1, 1) := by decide +kernel
theorem dX1_divide_29 : decode cX1_divide 29 = .ok (.iload 4, 2) := by decide +kernel
theorem dX1_divide_31 : decode cX1_divide 31 = .ok (.invokevirtual 60, 3) := by decide +kernel
theorem dX1_divide_34 : decode cX1_divide 34 = .ok (.istore 5, 2) := by decide +kernel
theorem dX1_divide_36 : decode cX1_divide 36 = .ok (.aload_n 0, 1) := by decide +kernel
theorem dX1_divide_37 : decode cX1_divide 37 = .ok (.getfield 25, 3) := by decide +kernel
theorem dX1_divide_40 : decode cX1_divide 40 = .ok (.iload 4, 2) := by decide +kernel
theorem dX1_divide_42 : decode cX1_divide 42 = .ok (.iload_n 3, 1) := by decide +kernel
theorem dX1_divide_43 : decode cX1_divide 43 = .ok (.isub, 1) := by decide +kernel
theorem dX1_divide_44 : decode cX1_divide 44 = .ok (.iload 5, 2) := by decide +kernel
theorem dX1_divide_46 : decode cX1_divide 46 = .ok (.invokevirtual 67, 3) := by decide +kernel
theorem dX1_divide_49 : decode cX1_divide 49 = .ok (.iconst 0, 1) := by decide +kernel
theorem dX1_divide_50 : decode cX1_divide 50 = .ok (.istore 6, 2) := by decide +kernel
theorem dX1_divide_52 : decode cX1_divide 52 = .ok (.iload 5, 2) := by decide +kernel
theorem dX1_divide_54 : decode cX1_divide 54 = .ok (.ifCond .eq 58, 3) := by decide +kernel
theorem dX1_divide_57 : decode cX1_divide 57 = .ok (.iload 6, 2) := by decide +kernel
theorem dX1_divide_59 : decode cX1_divide 59 = .ok (.iload_n 3, 1) := by decide +kernel
theorem dX1_divide_60 : decode cX1_divide 60 = .ok (.if_icmp .gt 52, 3) := by decide +kernel
theorem dX1_divide_63 : decode cX1_divide 63 = .ok (.iload 4, 2) := by decide +kernel
theorem dX1_divide_65 : decode cX1_divide 65 = .ok (.iload_n 3, 1) := by decide +kernel
theorem dX1_divide_66 : decode cX1_divide 66 = .ok (.isub, 1) := by decide +kernel
theorem dX1_divide_67 : decode cX1_divide 67 = .ok (.iload 6, 2) := by decide +kernel
theorem dX1_divide_69 : decode cX1_divide 69 = .ok (.iadd, 1) := by decide +kernel
theorem dX1_divide_70 : decode cX1_divide 70 = .ok (.istore 7, 2) := by decide +kernel
theorem dX1_divide_72 : decode cX1_divide 72 = .ok (.aload_n 1, 1) := by decide +kernel
theorem dX1_divide_73 : decode cX1_divide 73 = .ok (.iload 7, 2) := by decide +kernel
theorem dX1_divide_75 : decode cX1_divide 75 = .ok (.aload_n 0, 1) := by decide +kernel
theorem dX1_divide_76 : decode cX1_divide 76 = .ok (.getfield 12, 3) := by decide +kernel
theorem dX1_divide_79 : decode cX1_divide 79 = .ok (.aload_n 1, 1) := by decide +kernel
theorem dX1_divide_80 : decode cX1_divide 80 = .ok (.iload 7, 2) := by decide +kernel
theorem dX1_divide_82 : decode cX1_divide 82 = .ok (.invokevirtual 60, 3) := by decide +kernel
theorem dX1_divide_85 : decode cX1_divide 85 = .ok (.aload_n 0, 1) := by decide +kernel
theorem dX1_divide_86 : decode cX1_divide 86 = .ok (.getfield 12, 3) := by decide +kernel
theorem dX1_divide_89 : decode cX1_divide 89 = .ok (.iload 5, 2) := by decide +kernel
theorem dX1_divide_91 : decode cX1_divide 91 = .ok (.aload_n 2, 1) := by decide +kernel
theorem dX1_divide_92 : decode cX1_divide 92 = .ok (.iload 6, 2) := by decide +kernel
theorem dX1_divide_94 : decode cX1_divide 94 = .ok (.invokevirtual 60, 3) := by decide +kernel
theorem dX1_divide_97 : decode cX1_divide 97 = .ok (.invokevirtual 56, 3) := by decide +kernel
theorem dX1_divide_100 : decode cX1_divide 100 = .ok (.invokevirtual 78, 3) := by decide +kernel
theorem dX1_divide_103 : decode cX1_divide 103 = .ok (.invokevirtual 67, 3) := by decide +kernel
theorem dX1_divide_106 : decode cX1_divide 106 = .ok (.iinc 6 1, 3) := by decide +kernel
theorem dX1_divide_109 : decode cX1_divide 109 = .ok (.goto (-57), 3) := by decide +kernel
theorem dX1_divide_112 : decode cX1_divide 112 = .ok (.iinc 4 (-1), 3) := by decide +kernel
theorem dX1_divide_115 : decode cX1_divide 115 = .ok (.goto (-97), 3) := by decide +kernel
theorem dX1_divide_118 : decode cX1_divide 118 = .ok (.return_, 1) := by decide +kernel
set_option maxRecDepth 20000 in
theorem ggX1_makeMonic_X2_degree : GoodIn wsX1_makeMonic wsX2_degree := goodIn_r _ [6, 7, 49] (by decide +kernel) (by decide +kernel)
set_option maxRecDepth 20000 in
theorem gX1_makeMonic_X2_degree : GoodIn wsX1_makeMonic (wsV RX1 52 RX2 yX2_degree wsX2_degree) := goodIn_app (goodIn_of _ (by decide +kernel)) ggX1_makeMonic_X2_degree
set_option maxRecDepth 20000 in
theorem ggX1_makeMonic_X2_get : GoodIn wsX1_makeMonic wsX2_get := goodIn_r _ [11, 7, 49] (by decide +kernel) (by decide +kernel)
set_option maxRecDepth 20000 in
theorem gX1_makeMonic_X2_get : GoodIn wsX1_makeMonic (wsV RX1 60 RX2 yX2_get wsX2_get) := goodIn_app (goodIn_of _ (by decide +kernel)) ggX1_makeMonic_X2_get
set_option maxRecDepth 20000 in
theorem ggX1_makeMonic_X0_power : GoodIn wsX1_makeMonic wsX0_power := goodIn_r _ [16, 17, 18, 19, 15, 20, 21, 22, 23, 24, 41, 42, 43, 44, 45, 46, 47, 48] (by decide +kernel) (by decide +kernel)
set_option maxRecDepth 20000 in
theorem gX1_makeMonic_X0_power : GoodIn wsX1_makeMonic (wsV RX1 85 RX0 yX0_power wsX0_power) := goodIn_app (goodIn_of _ (by decide +kernel)) ggX1_makeMonic_X0_power
set_option maxRecDepth 20000 in
theorem ggX1_makeMonic_X0_times : GoodIn wsX1_makeMonic wsX0_times := goodIn_r _ [20, 21, 22, 23, 24, 41, 42, 43, 44, 45, 46, 47, 48] (by decide +kernel) (by decide +kernel)
set_option maxRecDepth 20000 in
theorem gX1_makeMonic_X0_times : GoodIn wsX1_makeMonic (wsV RX1 56 RX0 yX0_times wsX0_times) := goodIn_app (goodIn_of _ (by decide +kernel)) ggX1_makeMonic_X0_times
set_option maxRecDepth 20000 in
theorem ggX1_makeMonic_X2_set : GoodIn wsX1_makeMonic wsX2_set := goodIn_r _ [29, 7, 49] (by decide +kernel) (by decide +kernel)
set_option maxRecDepth 20000 in
theorem gX1_makeMonic_X2_set : GoodIn wsX1_makeMonic (wsV RX1 67 RX2 yX2_set wsX2_set) := goodIn_app (goodIn_of _ (by decide +kernel)) ggX1_makeMonic_X2_set
theorem dX1_makeMonic_0 : decode cX1_makeMonic 0 = .ok (.aload_n 1, 1) := by decide +kernel
theorem dX1_makeMonic_1 : decode cX1_makeMonic 1 = .ok (.invokevirtual 52, 3) := by decide +kernel
theorem dX1_makeMonic_4 : decode cX1_makeMonic 4 = .ok (.istore_n 2, 1) := by decide +kernel
theorem dX1_makeMonic_5 : decode cX1_makeMonic 5 = .ok (.aload_n 1, 1) := by decide +kernel
theorem dX1_makeMonic_6 : decode cX1_makeMonic 6 = .ok (.iload_n 2, 1) := by decide +kernel
theorem dX1_makeMonic_7 : decode cX1_makeMonic 7 = .ok (.invokevirtual 60, 3) := by decide +kernel
theorem dX1_makeMonic_10 : decode cX1_makeMonic 10 = .ok (.istore_n 3, 1) := by decide +kernel
theorem dX1_makeMonic_11 : decode cX1_makeMonic 11 = .ok (.iload_n 3, 1) := by decide +kernel
theorem dX1_makeMonic_12 : decode cX1_makeMonic 12 = .ok (.ifCond .eq 8, 3) := by decide +kernel
theorem dX1_makeMonic_15 : decode cX1_makeMonic 15 = .ok (.iload_n 3, 1) := by decide +kernel
theorem dX1_makeMonic_16 : decode cX1_makeMonic 16 = .ok (.iconst 1, 1) := by decide +kernel
theorem dX1_makeMonic_17 : decode cX1_makeMonic 17 = .ok (.if_icmp .ne 4, 3) := by decide +kernel
theorem dX1_makeMonic_20 : decode cX1_makeMonic 20 = .ok (.return_, 1) := by decide +kernel
theorem dX1_makeMonic_21 : decode cX1_makeMonic 21 = .ok (.aload_n 0, 1) := by decide +kernel
theorem dX1_makeMonic_22 : decode cX1_makeMonic 22 = .ok (.getfield 12, 3) := by decide +kernel
theorem dX1_makeMonic_25 : decode cX1_makeMonic 25 = .ok (.iload_n 3, 1) := by decide +kernel
theorem dX1_makeMonic_26 : decode cX1_makeMonic 26 = .ok (.aload_n 0, 1) := by decide +kernel
theorem dX1_makeMonic_27 : decode cX1_makeMonic 27 = .ok (.getfield 12, 3) := by decide +kernel
theorem dX1_makeMonic_30 : decode cX1_makeMonic 30 = .ok (.getfield 81, 3) := by decide +kernel
theorem dX1_makeMonic_33 : decode cX1_makeMonic 33 = .ok (.iconst 2, 1) := by decide +kernel
theorem dX1_makeMonic_34 : decode cX1_makeMonic 34 = .ok (.isub, 1) := by decide +kernel
theorem dX1_makeMonic_35 : decode cX1_makeMonic 35 = .ok (.invokevirtual 85, 3) := by decide +kernel
theorem dX1_makeMonic_38 : decode cX1_makeMonic 38 = .ok (.istore 4, 2) := by decide +kernel
theorem dX1_makeMonic_40 : decode cX1_makeMonic 40 = .ok (.iconst 0, 1) := by decide +kernel
theorem dX1_makeMonic_41 : decode cX1_makeMonic 41 = .ok (.istore 5, 2) := by decide +kernel
theorem dX1_makeMonic_43 : decode cX1_makeMonic 43 = .ok (.iload 5, 2) := by decide +kernel
theorem dX1_makeMonic_45 : decode cX1_makeMonic 45 = .ok (.iload_n 2, 1) := by decide +kernel
theorem dX1_makeMonic_46 : decode cX1_makeMonic 46 = .ok (.if_icmp .gt 30, 3) := by decide +kernel
theorem dX1_makeMonic_49 : decode cX1_makeMonic 49 = .ok (.aload_n 1, 1) := by decide +kernel
theorem dX1_makeMonic_50 : decode cX1_makeMonic 50 = .ok (.iload 5, 2) := by decide +kernel
theorem dX1_makeMonic_52 : decode cX1_makeMonic 52 = .ok (.aload_n 0, 1) := by decide +kernel
theorem dX1_makeMonic_53 : decode cX1_makeMonic 53 = .ok (.getfield 12, 3) := by decide +kernel
theorem dX1_makeMonic_56 : decode cX1_makeMonic 56 = .ok (.aload_n 1, 1) := by decide +kernel
theorem dX1_makeMonic_57 : decode cX1_makeMonic 57 = .ok (.iload 5, 2) := by decide +kernel
theorem dX1_makeMonic_59 : decode cX1_makeMonic 59 = .ok (.invokevirtual 60, 3) := by decide +kernel
theorem dX1_makeMonic_62 : decode cX1_makeMonic 62 = .ok (.iload 4, 2) := by decide +kernel
theorem dX1_makeMonic_64 : decode cX1_makeMonic 64 = .ok (.invokevirtual 56, 3) := by decide +kernel
theorem dX1_makeMonic_67 : decode cX1_makeMonic 67 = .ok (.invokevirtual 67, 3) := by decide +kernel
theorem dX1_makeMonic_70 : decode cX1_makeMonic 70 = .ok (.iinc 5 1, 3) := by decide +kernel
theorem dX1_makeMonic_73 : decode cX1_makeMonic 73 = .ok (.goto (-30), 3) := by decide +kernel
theorem dX1_makeMonic_76 : decode cX1_makeMonic 76 = .ok (.return_, 1) := by decide +kernel
set_option maxRecDepth 20000 in
theorem ggX1_findCommon_X2_copy : GoodIn wsX1_findCommon wsX2_copy := goodIn_r _ [7, 8, 9, 10, 11, 6, 12, 66] (by decide +kernel) (by decide +kernel)
set_option maxRecDepth 20000 in
theorem gX1_findCommon_X2_copy : GoodIn wsX1_findCommon (wsV RX1 74 RX2 yX2_copy wsX2_copy) := goodIn_app (goodIn_of _ (by decide +kernel)) ggX1_findCommon_X2_copy
set_option maxRecDepth 20000 in
theorem ggX1_findCommon_X2_degree : GoodIn wsX1_findCommon wsX2_degree := goodIn_r _ [16, 8, 66] (by decide +kernel) (by decide +kernel)
set_option maxRecDepth 20000 in
theorem gX1_findCommon_X2_degree : GoodIn wsX1_findCommon (wsV RX1 52 RX2 yX2_degree wsX2_degree) := goodIn_app (goodIn_of _ (by decide +kernel)) ggX1_findCommon_X2_degree
set_option maxRecDepth 20000 in
theorem ggX1_findCommon_X1_makeMonic : GoodIn wsX1_findCommon wsX1_makeMonic := goodIn_r _ [21, 22, 13, 14, 15, 6, 16, 8, 23, 10, 11, 12, 24, 25, 26, 27, 28, 29, 30, 31, 32, 33, 34, 35, 36, 37, 38, 39, 40, 41, 55, 56, 57, 58, 59, 60, 61, 62, 63, 64, 65, 67, 68, 69, 70, 71, 72, 73, 74, 66] (by decide +kernel) (by decide +kernel)
set_option maxRecDepth 20000 in
theorem gX1_findCommon_X1_makeMonic : GoodIn wsX1_findCommon (wsV RX1 88 RX1 yX1_makeMonic wsX1_makeMonic) := goodIn_app (goodIn_of _ (by decide +kernel)) ggX1_findCommon_X1_makeMonic
set_option maxRecDepth 20000 in
theorem ggX1_findCommon_X1_divide : GoodIn wsX1_findCommon wsX1_divide := goodIn_r _ [45, 46, 22, 13, 14, 15, 6, 16, 8, 47, 48, 49, 50, 23, 10, 11, 12, 38, 39, 40, 41, 37, 30, 31, 27, 32, 33, 34, 35, 36, 51, 52, 53, 54, 55, 56, 57, 58, 59, 60, 61, 62, 63, 64, 65, 66, 67, 68, 69, 70, 71, 72, 73, 74] (by decide +kernel) (by decide +kernel)
set_option maxRecDepth 20000 in
theorem gX1_findCommon_X1_divide : GoodIn wsX1_findCommon (wsV RX1 91 RX1 yX1_divide wsX1_divide) := goodIn_app (goodIn_of _ (by decide +kernel)) ggX1_findCommon_X1_divide
theorem dX1_findCommon_0 : decode cX1_findCommon 0 = .ok (.aload_n 0, 1) := by decide +kernel
theorem dX1_findCommon_1 : decode cX1_findCommon 1 = .ok (.getfield 28, 3) := by decide +kernel
theorem dX1_findCommon_4 : decode cX1_findCommon 4 = .ok (.aload_n 1, 1) := by decide +kernel
theorem dX1_findCommon_5 : decode cX1_findCommon 5 = .ok (.invokevirtual 74, 3) := by decide +kernel
theorem dX1_findCommon_8 : decode cX1_findCommon 8 = .ok (.aload_n 0, 1) := by decide +kernel
theorem dX1_findCommon_9 : decode cX1_findCommon 9 = .ok (.getfield 31, 3) := by decide +kernel
theorem dX1_findCommon_12 : decode cX1_findCommon 12 = .ok (.aload_n 2, 1) := by decide +kernel
theorem dX1_findCommon_13 : decode cX1_findCommon 13 = .ok (.invokevirtual 74, 3) := by decide +kernel
theorem dX1_findCommon_16 : decode cX1_findCommon 16 = .ok (.aload_n 0, 1) := by decide +kernel
theorem dX1_findCommon_17 : decode cX1_findCommon 17 = .ok (.getfield 28, 3) := by decide +kernel
theorem dX1_findCommon_20 : decode cX1_findCommon 20 = .ok (.astore 4, 2) := by decide +kernel
theorem dX1_findCommon_22 : decode cX1_findCommon 22 = .ok (.aload_n 0, 1) := by decide +kernel
theorem dX1_findCommon_23 : decode cX1_findCommon 23 = .ok (.getfield 31, 3) := by decide +kernel
theorem dX1_findCommon_26 : decode cX1_findCommon 26 = .ok (.astore 5, 2) := by decide +kernel
theorem dX1_findCommon_28 : decode cX1_findCommon 28 = .ok (.iconst 0, 1) := by decide +kernel
theorem dX1_findCommon_29 : decode cX1_findCommon 29 = .ok (.istore 6, 2) := by decide +kernel
theorem dX1_findCommon_31 : decode cX1_findCommon 31 = .ok (.iload 6, 2) := by decide +kernel
theorem dX1_findCommon_33 : decode cX1_findCommon 33 = .ok (.bipush 17, 2) := by decide +kernel
theorem dX1_findCommon_35 : decode cX1_findCommon 35 = .ok (.if_icmp .gt 43, 3) := by decide +kernel
theorem dX1_findCommon_38 : decode cX1_findCommon 38 = .ok (.aload 5, 2) := by decide +kernel
theorem dX1_findCommon_40 : decode cX1_findCommon 40 = .ok (.invokevirtual 52, 3) := by decide +kernel
theorem dX1_findCommon_43 : decode cX1_findCommon 43 = .ok (.ifCond .lt 35, 3) := by decide +kernel
theorem dX1_findCommon_46 : decode cX1_findCommon 46 = .ok (.aload_n 0, 1) := by decide +kernel
theorem dX1_findCommon_47 : decode cX1_findCommon 47 = .ok (.aload 5, 2) := by decide +kernel
theorem dX1_findCommon_49 : decode cX1_findCommon 49 = .ok (.invokevirtual 88, 3) := by decide +kernel
theorem dX1_findCommon_52 : decode cX1_findCommon 52 = .ok (.aload_n 0, 1) := by decide +kernel
theorem dX1_findCommon_53 : decode cX1_findCommon 53 = .ok (.aload 4, 2) := by decide +kernel
theorem dX1_findCommon_55 : decode cX1_findCommon 55 = .ok (.aload 5, 2) := by decide +kernel
theorem dX1_findCommon_57 : decode cX1_findCommon 57 = .ok (.invokevirtual 91, 3) := by decide +kernel
theorem dX1_findCommon_60 : decode cX1_findCommon 60 = .ok (.aload 4, 2) := by decide +kernel
theorem dX1_findCommon_62 : decode cX1_findCommon 62 = .ok (.astore 7, 2) := by decide +kernel
theorem dX1_findCommon_64 : decode cX1_findCommon 64 = .ok (.aload 5, 2) := by decide +kernel
theorem dX1_findCommon_66 : decode cX1_findCommon 66 = .ok (.astore 4, 2) := by decide +kernel
theorem dX1_findCommon_68 : decode cX1_findCommon 68 = .ok (.aload 7, 2) := by decide +kernel
theorem dX1_findCommon_70 : decode cX1_findCommon 70 = .ok (.astore 5, 2) := by decide +kernel
theorem dX1_findCommon_72 : decode cX1_findCommon 72 = .ok (.iinc 6 1, 3) := by decide +kernel
theorem dX1_findCommon_75 : decode cX1_findCommon 75 = .ok (.goto (-44), 3) := by decide +kernel
theorem dX1_findCommon_78 : decode cX1_findCommon 78 = .ok (.aload_n 0, 1) := by decide +kernel
theorem dX1_findCommon_79 : decode cX1_findCommon 79 = .ok (.aload 4, 2) := by decide +kernel
theorem dX1_findCommon_81 : decode cX1_findCommon 81 = .ok (.invokevirtual 88, 3) := by decide +kernel
theorem dX1_findCommon_84 : decode cX1_findCommon 84 = .ok (.aload_n 3, 1) := by decide +kernel
theorem dX1_findCommon_85 : decode cX1_findCommon 85 = .ok (.aload 4, 2) := by decide +kernel
theorem dX1_findCommon_87 : decode cX1_findCommon 87 = .ok (.invokevirtual 74, 3) := by decide +kernel
theorem dX1_findCommon_90 : decode cX1_findCommon 90 = .ok (.return_, 1) := by decide +kernel
set_option maxRecDepth 20000 in
theorem ggX1_findSquares_X2_clear : GoodIn wsX1_findSquares wsX2_clear := goodIn_r _ [7, 8, 71] (by decide +kernel) (by decide +kernel)
set_option maxRecDepth 20000 in
theorem gX1_findSquares_X2_clear : GoodIn wsX1_findSquares (wsV RX1 71 RX2 yX2_clear wsX2_clear) := goodIn_app (goodIn_of _ (by decide +kernel)) ggX1_findSquares_X2_clear
set_option maxRecDepth 20000 in
theorem ggX1_findSquares_X2_degree : GoodIn wsX1_findSquares wsX2_degree := goodIn_r _ [12, 8, 71] (by decide +kernel) (by decide +kernel)
set_option maxRecDepth 20000 in
theorem gX1_findSquares_X2_degree : GoodIn wsX1_findSquares (wsV RX1 52 RX2 yX2_degree wsX2_degree) := goodIn_app (goodIn_of _ (by decide +kernel)) ggX1_findSquares_X2_degree
set_option maxRecDepth 20000 in
theorem ggX1_findSquares_X2_get : GoodIn wsX1_findSquares wsX2_get := goodIn_r _ [16, 8, 71] (by decide +kernel) (by decide +kernel)
set_option maxRecDepth 20000 in
theorem gX1_findSquares_X2_get : GoodIn wsX1_findSquares (wsV RX1 60 RX2 yX2_get wsX2_get) := goodIn_app (goodIn_of _ (by decide +kernel)) ggX1_findSquares_X2_get
set_option maxRecDepth 20000 in
theorem ggX1_findSquares_X0_times : GoodIn wsX1_findSquares wsX0_times := goodIn_r _ [21, 22, 23, 24, 25, 72, 73, 74, 75, 76, 77, 78, 79] (by decide +kernel) (by decide +kernel)
set_option maxRecDepth 20000 in
theorem gX1_findSquares_X0_times : GoodIn wsX1_findSquares (wsV RX1 56 RX0 yX0_times wsX0_times) := goodIn_app (goodIn_of _ (by decide +kernel)) ggX1_findSquares_X0_times
set_option maxRecDepth 20000 in
theorem ggX1_findSquares_X2_set : GoodIn wsX1_findSquares wsX2_set := goodIn_r _ [29, 8, 71] (by decide +kernel) (by decide +kernel)
set_option maxRecDepth 20000 in
theorem gX1_findSquares_X2_set : GoodIn wsX1_findSquares (wsV RX1 67 RX2 yX2_set wsX2_set) := goodIn_app (goodIn_of _ (by decide +kernel)) ggX1_findSquares_X2_set
set_option maxRecDepth 20000 in
theorem ggX1_findSquares_X1_findCommon : GoodIn wsX1_findSquares wsX1_findCommon := goodIn_r _ [34, 35, 36, 37, 38, 39, 6, 40, 8, 41, 14, 15, 16, 9, 10, 11, 12, 42, 43, 44, 33, 45, 2, 13, 46, 47, 48, 20, 49, 50, 18, 19, 21, 22, 23, 24, 25, 17, 26, 27, 28, 29, 51, 52, 53, 54, 55, 3, 4, 5, 7, 56, 57, 58, 59, 60, 61, 62, 63, 64, 65, 66, 67, 68, 69, 70, 71, 72, 73, 74, 75, 76, 77, 78, 79] (by decide +kernel) (by decide +kernel)
set_option maxRecDepth 20000 in
theorem gX1_findSquares_X1_findCommon : GoodIn wsX1_findSquares (wsV RX1 95 RX1 yX1_findCommon wsX1_findCommon) := goodIn_app (goodIn_of _ (by decide +kernel)) ggX1_findSquares_X1_findCommon
theorem dX1_findSquares_0 : decode cX1_findSquares 0 = .ok (.aload_n 0, 1) := by decide +kernel
theorem dX1_findSquares_1 : decode cX1_findSquares 1 = .ok (.getfield 34, 3) := by decide +kernel
theorem dX1_findSquares_4 : decode cX1_findSquares 4 = .ok (.invokevirtual 71, 3) := by decide +kernel
theorem dX1_findSquares_7 : decode cX1_findSquares 7 = .ok (.aload_n 1, 1) := by decide +kernel
theorem dX1_findSquares_8 : decode cX1_findSquares 8 = .ok (.invokevirtual 52, 3) := by decide +kernel
theorem dX1_findSquares_11 : decode cX1_findSquares 11 = .ok (.istore_n 3, 1) := by decide +kernel
theorem dX1_findSquares_12 : decode cX1_findSquares 12 = .ok (.iload_n 3, 1) := by decide +kernel
theorem dX1_findSquares_13 : decode cX1_findSquares 13 = .ok (.ifCond .le 32, 3) := by decide +kernel
theorem dX1_findSquares_16 : decode cX1_findSquares 16 = .ok (.aload_n 0, 1) := by decide +kernel
theorem dX1_findSquares_17 : decode cX1_findSquares 17 = .ok (.getfield 34, 3) := by decide +kernel
theorem dX1_findSquares_20 : decode cX1_findSquares 20 = .ok (.iload_n 3, 1) := by decide +kernel
theorem dX1_findSquares_21 : decode cX1_findSquares 21 = .ok (.iconst 1, 1) := by decide +kernel
theorem dX1_findSquares_22 : decode cX1_findSquares 22 = .ok (.isub, 1) := by decide +kernel
theorem dX1_findSquares_23 : decode cX1_findSquares 23 = .ok (.aload_n 0, 1) := by decide +kernel
theorem dX1_findSquares_24 : decode cX1_findSquares 24 = .ok (.getfield 12, 3) := by decide +kernel
theorem dX1_findSquares_27 : decode cX1_findSquares 27 = .ok (.iload_n 3, 1) := by decide +kernel
theorem dX1_findSquares_28 : decode cX1_findSquares 28 = .ok (.aload_n 1, 1) := by decide +kernel
theorem dX1_findSquares_29 : decode cX1_findSquares 29 = .ok (.iload_n 3, 1) := by decide +kernel
theorem dX1_findSquares_30 : decode cX1_findSquares 30 = .ok (.invokevirtual 60, 3) := by decide +kernel
theorem dX1_findSquares_33 : decode cX1_findSquares 33 = .ok (.invokevirtual 56, 3) := by decide +kernel
theorem dX1_findSquares_36 : decode cX1_findSquares 36 = .ok (.invokevirtual 67, 3) := by decide +kernel
theorem dX1_findSquares_39 : decode cX1_findSquares 39 = .ok (.iinc 3 (-1), 3) := by decide +kernel
theorem dX1_findSquares_42 : decode cX1_findSquares 42 = .ok (.goto (-30), 3) := by decide +kernel
theorem dX1_findSquares_45 : decode cX1_findSquares 45 = .ok (.aload_n 0, 1) := by decide +kernel
theorem dX1_findSquares_46 : decode cX1_findSquares 46 = .ok (.aload_n 1, 1) := by decide +kernel
theorem dX1_findSquares_47 : decode cX1_findSquares 47 = .ok (.aload_n 0, 1) := by decide +kernel
theorem dX1_findSquares_48 : decode cX1_findSquares 48 = .ok (.getfield 34, 3) := by decide +kernel
theorem dX1_findSquares_51 : decode cX1_findSquares 51 = .ok (.aload_n 2, 1) := by decide +kernel
theorem dX1_findSquares_52 : decode cX1_findSquares 52 = .ok (.invokevirtual 95, 3) := by decide +kernel
theorem dX1_findSquares_55 : decode cX1_findSquares 55 = .ok (.return_, 1) := by decide +kernel
set_option maxRecDepth 20000 in
theorem ggX1_raiseLinear_X2_becomeOne : GoodIn wsX1_raiseLinear wsX2_becomeOne := goodIn_r _ [5, 6, 7, 8, 4, 9, 10, 11, 12, 13, 14, 63] (by decide +kernel) (by decide +kernel)
set_option maxRecDepth 20000 in
theorem gX1_raiseLinear_X2_becomeOne : GoodIn wsX1_raiseLinear (wsV RX1 99 RX2 yX2_becomeOne wsX2_becomeOne) := goodIn_app (goodIn_of _ (by decide +kernel)) ggX1_raiseLinear_X2_becomeOne
set_option maxRecDepth 20000 in
theorem ggX1_raiseLinear_X1_multiply : GoodIn wsX1_raiseLinear wsX1_multiply := goodIn_r _ [19, 20, 21, 22, 23, 24, 4, 25, 10, 26, 7, 8, 9, 27, 28, 29, 30, 31, 32, 33, 34, 35, 36, 37, 38, 39, 40, 41, 42, 43, 44, 12, 13, 14, 45, 46, 47, 48, 49, 64, 65, 66, 67, 68, 69, 70, 71, 72, 73, 74, 63, 75, 76, 77, 78, 79, 80, 81, 82] (by decide +kernel) (by decide +kernel)
set_option maxRecDepth 20000 in
theorem gX1_raiseLinear_X1_multiply : GoodIn wsX1_raiseLinear (wsV RX1 102 RX1 yX1_multiply wsX1_multiply) := goodIn_app (goodIn_of _ (by decide +kernel)) ggX1_raiseLinear_X1_multiply
set_option maxRecDepth 20000 in
theorem ggX1_raiseLinear_X1_multiplyLinear : GoodIn wsX1_raiseLinear wsX1_multiplyLinear := goodIn_r _ [53, 21, 22, 23, 24, 4, 25, 10, 27, 28, 29, 30, 31, 32, 33, 34, 35, 36, 37, 38, 39, 40, 41, 42, 43, 44, 12, 13, 14, 64, 65, 66, 67, 68, 69, 70, 71, 72, 73, 74, 63, 75, 76, 77, 78, 79, 80, 81, 82] (by decide +kernel) (by decide +kernel)
set_option maxRecDepth 20000 in
theorem gX1_raiseLinear_X1_multiplyLinear : GoodIn wsX1_raiseLinear (wsV RX1 105 RX1 yX1_multiplyLinear wsX1_multiplyLinear) := goodIn_app (goodIn_of _ (by decide +kernel)) ggX1_raiseLinear_X1_multiplyLinear
set_option maxRecDepth 20000 in
theorem ggX1_raiseLinear_X1_divide : GoodIn wsX1_raiseLinear wsX1_divide := goodIn_r _ [57, 58, 21, 22, 23, 24, 4, 25, 10, 26, 7, 8, 9, 27, 28, 29, 30, 44, 12, 13, 14, 31, 32, 33, 34, 35, 36, 37, 38, 39, 59, 60, 61, 62, 64, 65, 66, 67, 68, 69, 70, 71, 72, 73, 74, 63, 75, 76, 77, 78, 79, 80, 81, 82] (by decide +kernel) (by decide +kernel)
set_option maxRecDepth 20000 in
theorem gX1_raiseLinear_X1_divide : GoodIn wsX1_raiseLinear (wsV RX1 91 RX1 yX1_divide wsX1_divide) := goodIn_app (goodIn_of _ (by decide +kernel)) ggX1_raiseLinear_X1_divide
theorem dX1_raiseLinear_0 : decode cX1_raiseLinear 0 = .ok (.aload 5, 2) := by decide +kernel
theorem dX1_raiseLinear_2 : decode cX1_raiseLinear 2 = .ok (.invokevirtual 99, 3) := by decide +kernel
theorem dX1_raiseLinear_5 : decode cX1_raiseLinear 5 = .ok (.bipush 40, 2) := by decide +kernel
theorem dX1_raiseLinear_7 : decode cX1_raiseLinear 7 = .ok (.istore 6, 2) := by decide +kernel
theorem dX1_raiseLinear_9 : decode cX1_raiseLinear 9 = .ok (.iload 6, 2) := by decide +kernel
theorem dX1_raiseLinear_11 : decode cX1_raiseLinear 11 = .ok (.ifCond .lt 55, 3) := by decide +kernel
theorem dX1_raiseLinear_14 : decode cX1_raiseLinear 14 = .ok (.lload_n 2, 1) := by decide +kernel
theorem dX1_raiseLinear_15 : decode cX1_raiseLinear 15 = .ok (.iload 6, 2) := by decide +kernel
theorem dX1_raiseLinear_17 : decode cX1_raiseLinear 17 = .ok (.lshr, 1) := by decide +kernel
theorem dX1_raiseLinear_18 : decode cX1_raiseLinear 18 = .ok (.lconst 0, 1) := by decide +kernel
theorem dX1_raiseLinear_19 : decode cX1_raiseLinear 19 = .ok (.lcmp, 1) := by decide +kernel
theorem dX1_raiseLinear_20 : decode cX1_raiseLinear 20 = .ok (.ifCond .ne 6, 3) := by decide +kernel
theorem dX1_raiseLinear_23 : decode cX1_raiseLinear 23 = .ok (.goto 37, 3) := by decide +kernel
theorem dX1_raiseLinear_26 : decode cX1_raiseLinear 26 = .ok (.aload_n 0, 1) := by decide +kernel
theorem dX1_raiseLinear_27 : decode cX1_raiseLinear 27 = .ok (.aload 5, 2) := by decide +kernel
theorem dX1_raiseLinear_29 : decode cX1_raiseLinear 29 = .ok (.aload 5, 2) := by decide +kernel
theorem dX1_raiseLinear_31 : decode cX1_raiseLinear 31 = .ok (.invokevirtual 102, 3) := by decide +kernel
theorem dX1_raiseLinear_34 : decode cX1_raiseLinear 34 = .ok (.lload_n 2, 1) := by decide +kernel
theorem dX1_raiseLinear_35 : decode cX1_raiseLinear 35 = .ok (.iload 6, 2) := by decide +kernel
theorem dX1_raiseLinear_37 : decode cX1_raiseLinear 37 = .ok (.lshr, 1) := by decide +kernel
theorem dX1_raiseLinear_38 : decode cX1_raiseLinear 38 = .ok (.lconst 1, 1) := by decide +kernel
theorem dX1_raiseLinear_39 : decode cX1_raiseLinear 39 = .ok (.land, 1) := by decide +kernel
theorem dX1_raiseLinear_40 : decode cX1_raiseLinear 40 = .ok (.lconst 1, 1) := by decide +kernel
theorem dX1_raiseLinear_41 : decode cX1_raiseLinear 41 = .ok (.lcmp, 1) := by decide +kernel
theorem dX1_raiseLinear_42 : decode cX1_raiseLinear 42 = .ok (.ifCond .ne 10, 3) := by decide +kernel
theorem dX1_raiseLinear_45 : decode cX1_raiseLinear 45 = .ok (.aload_n 0, 1) := by decide +kernel
theorem dX1_raiseLinear_46 : decode cX1_raiseLinear 46 = .ok (.aload 5, 2) := by decide +kernel
theorem dX1_raiseLinear_48 : decode cX1_raiseLinear 48 = .ok (.iload_n 1, 1) := by decide +kernel
theorem dX1_raiseLinear_49 : decode cX1_raiseLinear 49 = .ok (.invokevirtual 105, 3) := by decide +kernel
theorem dX1_raiseLinear_52 : decode cX1_raiseLinear 52 = .ok (.aload_n 0, 1) := by decide +kernel
theorem dX1_raiseLinear_53 : decode cX1_raiseLinear 53 = .ok (.aload 5, 2) := by decide +kernel
theorem dX1_raiseLinear_55 : decode cX1_raiseLinear 55 = .ok (.aload 4, 2) := by decide +kernel
theorem dX1_raiseLinear_57 : decode cX1_raiseLinear 57 = .ok (.invokevirtual 91, 3) := by decide +kernel
theorem dX1_raiseLinear_60 : decode cX1_raiseLinear 60 = .ok (.iinc 6 (-1), 3) := by decide +kernel
theorem dX1_raiseLinear_63 : decode cX1_raiseLinear 63 = .ok (.goto (-54), 3) := by decide +kernel
theorem dX1_raiseLinear_66 : decode cX1_raiseLinear 66 = .ok (.return_, 1) := by decide +kernel
set_option maxRecDepth 20000 in
theorem ggX1_normOf_X2_copy : GoodIn wsX1_normOf wsX2_copy := goodIn_r _ [8, 9, 10, 11, 12, 7, 13, 73] (by decide +kernel) (by decide +kernel)
set_option maxRecDepth 20000 in
theorem gX1_normOf_X2_copy : GoodIn wsX1_normOf (wsV RX1 74 RX2 yX2_copy wsX2_copy) := goodIn_app (goodIn_of _ (by decide +kernel)) ggX1_normOf_X2_copy
set_option maxRecDepth 20000 in
theorem ggX1_normOf_X2_degree : GoodIn wsX1_normOf wsX2_degree := goodIn_r _ [17, 9, 73] (by decide +kernel) (by decide +kernel)
set_option maxRecDepth 20000 in
theorem gX1_normOf_X2_degree : GoodIn wsX1_normOf (wsV RX1 52 RX2 yX2_degree wsX2_degree) := goodIn_app (goodIn_of _ (by decide +kernel)) ggX1_normOf_X2_degree
set_option maxRecDepth 20000 in
theorem ggX1_normOf_X2_get : GoodIn wsX1_normOf wsX2_get := goodIn_r _ [13, 9, 73] (by decide +kernel) (by decide +kernel)
set_option maxRecDepth 20000 in
theorem gX1_normOf_X2_get : GoodIn wsX1_normOf (wsV RX1 60 RX2 yX2_get wsX2_get) := goodIn_app (goodIn_of _ (by decide +kernel)) ggX1_normOf_X2_get
set_option maxRecDepth 20000 in
theorem ggX1_normOf_X0_mate : GoodIn wsX1_normOf wsX0_mate := goodIn_r _ [23, 24, 25, 26, 27, 28, 22, 29, 30, 31, 32, 33, 34, 35, 36, 37, 65, 66, 67, 68, 69, 70, 71, 72] (by decide +kernel) (by decide +kernel)
set_option maxRecDepth 20000 in
theorem gX1_normOf_X0_mate : GoodIn wsX1_normOf (wsV RX1 111 RX0 yX0_mate wsX0_mate) := goodIn_app (goodIn_of _ (by decide +kernel)) ggX1_normOf_X0_mate
set_option maxRecDepth 20000 in
theorem ggX1_normOf_X2_set : GoodIn wsX1_normOf wsX2_set := goodIn_r _ [41, 9, 73] (by decide +kernel) (by decide +kernel)
set_option maxRecDepth 20000 in
theorem gX1_normOf_X2_set : GoodIn wsX1_normOf (wsV RX1 67 RX2 yX2_set wsX2_set) := goodIn_app (goodIn_of _ (by decide +kernel)) ggX1_normOf_X2_set
set_option maxRecDepth 20000 in
theorem ggX1_normOf_X1_multiply : GoodIn wsX1_normOf wsX1_multiply := goodIn_r _ [46, 47, 3, 14, 15, 16, 7, 17, 9, 48, 49, 50, 51, 18, 11, 12, 13, 52, 27, 28, 22, 29, 30, 31, 32, 33, 53, 35, 36, 37, 38, 39, 40, 41, 4, 5, 6, 8, 10, 54, 55, 56, 57, 58, 59, 60, 61, 62, 63, 64, 73, 65, 66, 67, 68, 69, 70, 71, 72] (by decide +kernel) (by decide +kernel)
set_option maxRecDepth 20000 in
theorem gX1_normOf_X1_multiply : GoodIn wsX1_normOf (wsV RX1 102 RX1 yX1_multiply wsX1_multiply) := goodIn_app (goodIn_of _ (by decide +kernel)) ggX1_normOf_X1_multiply
theorem dX1_normOf_0 : decode cX1_normOf 0 = .ok (.aload_n 0, 1) := by decide +kernel
theorem dX1_normOf_1 : decode cX1_normOf 1 = .ok (.getfield 40, 3) := by decide +kernel
theorem dX1_normOf_4 : decode cX1_normOf 4 = .ok (.aload_n 1, 1) := by decide +kernel
theorem dX1_normOf_5 : decode cX1_normOf 5 = .ok (.invokevirtual 74, 3) := by decide +kernel
theorem dX1_normOf_8 : decode cX1_normOf 8 = .ok (.aload_n 0, 1) := by decide +kernel
theorem dX1_normOf_9 : decode cX1_normOf 9 = .ok (.getfield 37, 3) := by decide +kernel
theorem dX1_normOf_12 : decode cX1_normOf 12 = .ok (.aload_n 1, 1) := by decide +kernel
theorem dX1_normOf_13 : decode cX1_normOf 13 = .ok (.invokevirtual 74, 3) := by decide +kernel
theorem dX1_normOf_16 : decode cX1_normOf 16 = .ok (.aload_n 1, 1) := by decide +kernel
theorem dX1_normOf_17 : decode cX1_normOf 17 = .ok (.invokevirtual 52, 3) := by decide +kernel
theorem dX1_normOf_20 : decode cX1_normOf 20 = .ok (.istore_n 2, 1) := by decide +kernel
theorem dX1_normOf_21 : decode cX1_normOf 21 = .ok (.iconst 1, 1) := by decide +kernel
theorem dX1_normOf_22 : decode cX1_normOf 22 = .ok (.istore_n 3, 1) := by decide +kernel
theorem dX1_normOf_23 : decode cX1_normOf 23 = .ok (.iload_n 3, 1) := by decide +kernel
theorem dX1_normOf_24 : decode cX1_normOf 24 = .ok (.aload_n 0, 1) := by decide +kernel
theorem dX1_normOf_25 : decode cX1_normOf 25 = .ok (.getfield 12, 3) := by decide +kernel
theorem dX1_normOf_28 : decode cX1_normOf 28 = .ok (.getfield 109, 3) := by decide +kernel
theorem dX1_normOf_31 : decode cX1_normOf 31 = .ok (.if_icmp .ge 61, 3) := by decide +kernel
theorem dX1_normOf_34 : decode cX1_normOf 34 = .ok (.iconst 0, 1) := by decide +kernel
theorem dX1_normOf_35 : decode cX1_normOf 35 = .ok (.istore 4, 2) := by decide +kernel
theorem dX1_normOf_37 : decode cX1_normOf 37 = .ok (.iload 4, 2) := by decide +kernel
theorem dX1_normOf_39 : decode cX1_normOf 39 = .ok (.iload_n 2, 1) := by decide +kernel
theorem dX1_normOf_40 : decode cX1_normOf 40 = .ok (.if_icmp .gt 34, 3) := by decide +kernel
theorem dX1_normOf_43 : decode cX1_normOf 43 = .ok (.aload_n 0, 1) := by decide +kernel
theorem dX1_normOf_44 : decode cX1_normOf 44 = .ok (.getfield 37, 3) := by decide +kernel
theorem dX1_normOf_47 : decode cX1_normOf 47 = .ok (.iload 4, 2) := by decide +kernel
theorem dX1_normOf_49 : decode cX1_normOf 49 = .ok (.aload_n 0, 1) := by decide +kernel
theorem dX1_normOf_50 : decode cX1_normOf 50 = .ok (.getfield 12, 3) := by decide +kernel
theorem dX1_normOf_53 : decode cX1_normOf 53 = .ok (.aload_n 0, 1) := by decide +kernel
theorem dX1_normOf_54 : decode cX1_normOf 54 = .ok (.getfield 37, 3) := by decide +kernel
theorem dX1_normOf_57 : decode cX1_normOf 57 = .ok (.iload 4, 2) := by decide +kernel
theorem dX1_normOf_59 : decode cX1_normOf 59 = .ok (.invokevirtual 60, 3) := by decide +kernel
theorem dX1_normOf_62 : decode cX1_normOf 62 = .ok (.invokevirtual 111, 3) := by decide +kernel
theorem dX1_normOf_65 : decode cX1_normOf 65 = .ok (.invokevirtual 67, 3) := by decide +kernel
theorem dX1_normOf_68 : decode cX1_normOf 68 = .ok (.iinc 4 1, 3) := by decide +kernel
theorem dX1_normOf_71 : decode cX1_normOf 71 = .ok (.goto (-34), 3) := by decide +kernel
theorem dX1_normOf_74 : decode cX1_normOf 74 = .ok (.aload_n 0, 1) := by decide +kernel
theorem dX1_normOf_75 : decode cX1_normOf 75 = .ok (.aload_n 0, 1) := by decide +kernel
theorem dX1_normOf_76 : decode cX1_normOf 76 = .ok (.getfield 40, 3) := by decide +kernel
theorem dX1_normOf_79 : decode cX1_normOf 79 = .ok (.aload_n 0, 1) := by decide +kernel
theorem dX1_normOf_80 : decode cX1_normOf 80 = .ok (.getfield 37, 3) := by decide +kernel
theorem dX1_normOf_83 : decode cX1_normOf 83 = .ok (.invokevirtual 102, 3) := by decide +kernel
theorem dX1_normOf_86 : decode cX1_normOf 86 = .ok (.iinc 3 1, 3) := by decide +kernel
theorem dX1_normOf_89 : decode cX1_normOf 89 = .ok (.goto (-66), 3) := by decide +kernel
theorem dX1_normOf_92 : decode cX1_normOf 92 = .ok (.aload_n 0, 1) := by decide +kernel
theorem dX1_normOf_93 : decode cX1_normOf 93 = .ok (.getfield 40, 3) := by decide +kernel
theorem dX1_normOf_96 : decode cX1_normOf 96 = .ok (.areturn, 1) := by decide +kernel
set_option maxRecDepth 20000 in
theorem ggX1_leastPolynomial_X0_differentMates : GoodIn wsX1_leastPolynomial wsX0_differentMates := goodIn_r _ [7, 8, 9, 10, 11, 6, 12, 13, 14, 15, 16, 17, 18, 19, 20, 21, 22, 23, 24, 25, 72, 73, 74, 75, 76, 77, 78, 79] (by decide +kernel) (by decide +kernel)
set_option maxRecDepth 20000 in
theorem gX1_leastPolynomial_X0_differentMates : GoodIn wsX1_leastPolynomial (wsV RX1 114 RX0 yX0_differentMates wsX0_differentMates) := goodIn_app (goodIn_of _ (by decide +kernel)) ggX1_leastPolynomial_X0_differentMates
set_option maxRecDepth 20000 in
theorem ggX1_leastPolynomial_X2_becomeOne : GoodIn wsX1_leastPolynomial wsX2_becomeOne := goodIn_r _ [30, 31, 32, 33, 29, 34, 35, 36, 37, 38, 39, 80] (by decide +kernel) (by decide +kernel)
set_option maxRecDepth 20000 in
theorem gX1_leastPolynomial_X2_becomeOne : GoodIn wsX1_leastPolynomial (wsV RX1 99 RX2 yX2_becomeOne wsX2_becomeOne) := goodIn_app (goodIn_of _ (by decide +kernel)) ggX1_leastPolynomial_X2_becomeOne
set_option maxRecDepth 20000 in
theorem ggX1_leastPolynomial_X0_minus : GoodIn wsX1_leastPolynomial wsX0_minus := goodIn_r _ [43] (by decide +kernel) (by decide +kernel)
set_option maxRecDepth 20000 in
theorem gX1_leastPolynomial_X0_minus : GoodIn wsX1_leastPolynomial (wsV RX1 78 RX0 yX0_minus wsX0_minus) := goodIn_app (goodIn_of _ (by decide +kernel)) ggX1_leastPolynomial_X0_minus
set_option maxRecDepth 20000 in
theorem ggX1_leastPolynomial_X1_multiplyLinear : GoodIn wsX1_leastPolynomial wsX1_multiplyLinear := goodIn_r _ [48, 1, 49, 50, 51, 29, 52, 35, 53, 54, 55, 56, 57, 16, 17, 6, 18, 8, 19, 20, 21, 58, 23, 24, 25, 59, 37, 38, 39, 61, 62, 63, 64, 65, 66, 67, 68, 69, 70, 71, 80, 72, 73, 74, 75, 76, 77, 78, 79] (by decide +kernel) (by decide +kernel)
set_option maxRecDepth 20000 in
theorem gX1_leastPolynomial_X1_multiplyLinear : GoodIn wsX1_leastPolynomial (wsV RX1 105 RX1 yX1_multiplyLinear wsX1_multiplyLinear) := goodIn_app (goodIn_of _ (by decide +kernel)) ggX1_leastPolynomial_X1_multiplyLinear
set_option maxRecDepth 20000 in
theorem ggX1_leastPolynomial_X0_mate : GoodIn wsX1_leastPolynomial wsX0_mate := goodIn_r _ [12, 13, 14, 15, 16, 17, 6, 18, 8, 19, 20, 21, 22, 23, 24, 25, 72, 73, 74, 75, 76, 77, 78, 79] (by decide +kernel) (by decide +kernel)
set_option maxRecDepth 20000 in
theorem gX1_leastPolynomial_X0_mate : GoodIn wsX1_leastPolynomial (wsV RX1 111 RX0 yX0_mate wsX0_mate) := goodIn_app (goodIn_of _ (by decide +kernel)) ggX1_leastPolynomial_X0_mate
theorem dX1_leastPolynomial_0 : decode cX1_leastPolynomial 0 = .ok (.aload_n 0, 1) := by decide +kernel
theorem dX1_leastPolynomial_1 : decode cX1_leastPolynomial 1 = .ok (.getfield 12, 3) := by decide +kernel
theorem dX1_leastPolynomial_4 : decode cX1_leastPolynomial 4 = .ok (.iload_n 1, 1) := by decide +kernel
theorem dX1_leastPolynomial_5 : decode cX1_leastPolynomial 5 = .ok (.invokevirtual 114, 3) := by decide +kernel
theorem dX1_leastPolynomial_8 : decode cX1_leastPolynomial 8 = .ok (.istore_n 2, 1) := by decide +kernel
theorem dX1_leastPolynomial_9 : decode cX1_leastPolynomial 9 = .ok (.iload_n 1, 1) := by decide +kernel
theorem dX1_leastPolynomial_10 : decode cX1_leastPolynomial 10 = .ok (.istore_n 3, 1) := by decide +kernel
theorem dX1_leastPolynomial_11 : decode cX1_leastPolynomial 11 = .ok (.aload_n 0, 1) := by decide +kernel
theorem dX1_leastPolynomial_12 : decode cX1_leastPolynomial 12 = .ok (.getfield 46, 3) := by decide +kernel
theorem dX1_leastPolynomial_15 : decode cX1_leastPolynomial 15 = .ok (.invokevirtual 99, 3) := by decide +kernel
theorem dX1_leastPolynomial_18 : decode cX1_leastPolynomial 18 = .ok (.iconst 0, 1) := by decide +kernel
theorem dX1_leastPolynomial_19 : decode cX1_leastPolynomial 19 = .ok (.istore 4, 2) := by decide +kernel
theorem dX1_leastPolynomial_21 : decode cX1_leastPolynomial 21 = .ok (.iload 4, 2) := by decide +kernel
theorem dX1_leastPolynomial_23 : decode cX1_leastPolynomial 23 = .ok (.iload_n 2, 1) := by decide +kernel
theorem dX1_leastPolynomial_24 : decode cX1_leastPolynomial 24 = .ok (.if_icmp .ge 35, 3) := by decide +kernel
theorem dX1_leastPolynomial_27 : decode cX1_leastPolynomial 27 = .ok (.aload_n 0, 1) := by decide +kernel
theorem dX1_leastPolynomial_28 : decode cX1_leastPolynomial 28 = .ok (.aload_n 0, 1) := by decide +kernel
theorem dX1_leastPolynomial_29 : decode cX1_leastPolynomial 29 = .ok (.getfield 46, 3) := by decide +kernel
theorem dX1_leastPolynomial_32 : decode cX1_leastPolynomial 32 = .ok (.aload_n 0, 1) := by decide +kernel
theorem dX1_leastPolynomial_33 : decode cX1_leastPolynomial 33 = .ok (.getfield 12, 3) := by decide +kernel
theorem dX1_leastPolynomial_36 : decode cX1_leastPolynomial 36 = .ok (.iconst 0, 1) := by decide +kernel
theorem dX1_leastPolynomial_37 : decode cX1_leastPolynomial 37 = .ok (.iload_n 3, 1) := by decide +kernel
theorem dX1_leastPolynomial_38 : decode cX1_leastPolynomial 38 = .ok (.invokevirtual 78, 3) := by decide +kernel
theorem dX1_leastPolynomial_41 : decode cX1_leastPolynomial 41 = .ok (.invokevirtual 105, 3) := by decide +kernel
theorem dX1_leastPolynomial_44 : decode cX1_leastPolynomial 44 = .ok (.aload_n 0, 1) := by decide +kernel
theorem dX1_leastPolynomial_45 : decode cX1_leastPolynomial 45 = .ok (.getfield 12, 3) := by decide +kernel
theorem dX1_leastPolynomial_48 : decode cX1_leastPolynomial 48 = .ok (.iload_n 3, 1) := by decide +kernel
theorem dX1_leastPolynomial_49 : decode cX1_leastPolynomial 49 = .ok (.invokevirtual 111, 3) := by decide +kernel
theorem dX1_leastPolynomial_52 : decode cX1_leastPolynomial 52 = .ok (.istore_n 3, 1) := by decide +kernel
theorem dX1_leastPolynomial_53 : decode cX1_leastPolynomial 53 = .ok (.iinc 4 1, 3) := by decide +kernel
theorem dX1_leastPolynomial_56 : decode cX1_leastPolynomial 56 = .ok (.goto (-35), 3) := by decide +kernel
theorem dX1_leastPolynomial_59 : decode cX1_leastPolynomial 59 = .ok (.aload_n 0, 1) := by decide +kernel
theorem dX1_leastPolynomial_60 : decode cX1_leastPolynomial 60 = .ok (.getfield 46, 3) := by decide +kernel
theorem dX1_leastPolynomial_63 : decode cX1_leastPolynomial 63 = .ok (.areturn, 1) := by decide +kernel
set_option maxRecDepth 20000 in
theorem ggX1_leastShift_X2_copy : GoodIn wsX1_leastShift wsX2_copy := goodIn_r _ [8, 9, 10, 11, 12, 7, 13, 111] (by decide +kernel) (by decide +kernel)
set_option maxRecDepth 20000 in
theorem gX1_leastShift_X2_copy : GoodIn wsX1_leastShift (wsV RX1 74 RX2 yX2_copy wsX2_copy) := goodIn_app (goodIn_of _ (by decide +kernel)) ggX1_leastShift_X2_copy
set_option maxRecDepth 20000 in
theorem ggX1_leastShift_X0_times : GoodIn wsX1_leastShift wsX0_times := goodIn_r _ [18, 19, 20, 21, 22, 103, 104, 105, 106, 107, 108, 109, 110] (by decide +kernel) (by decide +kernel)
set_option maxRecDepth 20000 in
theorem gX1_leastShift_X0_times : GoodIn wsX1_leastShift (wsV RX1 56 RX0 yX0_times wsX0_times) := goodIn_app (goodIn_of _ (by decide +kernel)) ggX1_leastShift_X0_times
set_option maxRecDepth 20000 in
theorem ggX1_leastShift_X0_minus : GoodIn wsX1_leastShift wsX0_minus := goodIn_r _ [26] (by decide +kernel) (by decide +kernel)
set_option maxRecDepth 20000 in
theorem gX1_leastShift_X0_minus : GoodIn wsX1_leastShift (wsV RX1 78 RX0 yX0_minus wsX0_minus) := goodIn_app (goodIn_of _ (by decide +kernel)) ggX1_leastShift_X0_minus
set_option maxRecDepth 20000 in
theorem ggX1_leastShift_X1_displace : GoodIn wsX1_leastShift wsX1_displace := goodIn_r _ [31, 2, 32, 33, 34, 7, 35, 9, 36, 11, 12, 13, 14, 15, 16, 17, 18, 19, 20, 21, 22, 37, 38, 39, 40, 41, 42, 43, 44, 92, 93, 94, 95, 96, 97, 98, 99, 100, 101, 102, 111, 103, 104, 105, 106, 107, 108, 109, 110] (by decide +kernel) (by decide +kernel)
set_option maxRecDepth 20000 in
theorem gX1_leastShift_X1_displace : GoodIn wsX1_leastShift (wsV RX1 120 RX1 yX1_displace wsX1_displace) := goodIn_app (goodIn_of _ (by decide +kernel)) ggX1_leastShift_X1_displace
set_option maxRecDepth 20000 in
theorem ggX1_leastShift_X1_normOf : GoodIn wsX1_leastShift wsX1_normOf := goodIn_r _ [48, 49, 50, 2, 4, 5, 6, 7, 8, 9, 10, 11, 12, 13, 32, 33, 34, 35, 36, 51, 52, 53, 17, 54, 55, 56, 57, 15, 16, 18, 19, 20, 21, 22, 58, 38, 39, 40, 41, 42, 43, 44, 59, 60, 61, 30, 62, 63, 64, 65, 66, 67, 14, 37, 92, 93, 94, 95, 96, 97, 98, 99, 100, 101, 102, 103, 104, 105, 106, 107, 108, 109, 110, 111] (by decide +kernel) (by decide +kernel)
set_option maxRecDepth 20000 in
theorem gX1_leastShift_X1_normOf : GoodIn wsX1_leastShift (wsV RX1 123 RX1 yX1_normOf wsX1_normOf) := goodIn_app (goodIn_of _ (by decide +kernel)) ggX1_leastShift_X1_normOf
set_option maxRecDepth 20000 in
theorem ggX1_leastShift_X1_findSquares : GoodIn wsX1_leastShift wsX1_findSquares := goodIn_r _ [71, 72, 2, 64, 65, 66, 7, 67, 9, 32, 33, 34, 35, 36, 11, 12, 13, 14, 15, 16, 17, 18, 19, 20, 21, 22, 41, 42, 43, 44, 73, 74, 75, 30, 76, 77, 78, 4, 5, 6, 8, 10, 79, 80, 81, 82, 83, 84, 85, 86, 57, 87, 88, 89, 90, 91, 23, 24, 25, 26, 92, 93, 94, 95, 96, 97, 98, 99, 100, 101, 102, 111, 103, 104, 105, 106, 107, 108, 109, 110] (by decide +kernel) (by decide +kernel)
set_option maxRecDepth 20000 in
theorem gX1_leastShift_X1_findSquares : GoodIn wsX1_leastShift (wsV RX1 127 RX1 yX1_findSquares wsX1_findSquares) := goodIn_app (goodIn_of _ (by decide +kernel)) ggX1_leastShift_X1_findSquares
set_option maxRecDepth 20000 in
theorem ggX1_leastShift_X2_degree : GoodIn wsX1_leastShift wsX2_degree := goodIn_r _ [35, 9, 111] (by decide +kernel) (by decide +kernel)
set_option maxRecDepth 20000 in
theorem gX1_leastShift_X2_degree : GoodIn wsX1_leastShift (wsV RX1 52 RX2 yX2_degree wsX2_degree) := goodIn_app (goodIn_of _ (by decide +kernel)) ggX1_leastShift_X2_degree
theorem dX1_leastShift_0 : decode cX1_leastShift 0 = .ok (.iconst 0, 1) := by decide +kernel
theorem dX1_leastShift_1 : decode cX1_leastShift 1 = .ok (.istore_n 2, 1) := by decide +kernel
theorem dX1_leastShift_2 : decode cX1_leastShift 2 = .ok (.iload_n 2, 1) := by decide +kernel
theorem dX1_leastShift_3 : decode cX1_leastShift 3 = .ok (.bipush 101, 2) := by decide +kernel
theorem dX1_leastShift_5 : decode cX1_leastShift 5 = .ok (.if_icmp .ge 76, 3) := by decide +kernel
theorem dX1_leastShift_8 : decode cX1_leastShift 8 = .ok (.aload_n 0, 1) := by decide +kernel
theorem dX1_leastShift_9 : decode cX1_leastShift 9 = .ok (.getfield 43, 3) := by decide +kernel
theorem dX1_leastShift_12 : decode cX1_leastShift 12 = .ok (.aload_n 1, 1) := by decide +kernel
theorem dX1_leastShift_13 : decode cX1_leastShift 13 = .ok (.invokevirtual 74, 3) := by decide +kernel
theorem dX1_leastShift_16 : decode cX1_leastShift 16 = .ok (.aload_n 0, 1) := by decide +kernel
theorem dX1_leastShift_17 : decode cX1_leastShift 17 = .ok (.aload_n 0, 1) := by decide +kernel
theorem dX1_leastShift_18 : decode cX1_leastShift 18 = .ok (.getfield 43, 3) := by decide +kernel
theorem dX1_leastShift_21 : decode cX1_leastShift 21 = .ok (.aload_n 0, 1) := by decide +kernel
theorem dX1_leastShift_22 : decode cX1_leastShift 22 = .ok (.getfield 12, 3) := by decide +kernel
theorem dX1_leastShift_25 : decode cX1_leastShift 25 = .ok (.iconst 0, 1) := by decide +kernel
theorem dX1_leastShift_26 : decode cX1_leastShift 26 = .ok (.aload_n 0, 1) := by decide +kernel
theorem dX1_leastShift_27 : decode cX1_leastShift 27 = .ok (.getfield 12, 3) := by decide +kernel
theorem dX1_leastShift_30 : decode cX1_leastShift 30 = .ok (.iload_n 2, 1) := by decide +kernel
theorem dX1_leastShift_31 : decode cX1_leastShift 31 = .ok (.aload_n 0, 1) := by decide +kernel
theorem dX1_leastShift_32 : decode cX1_leastShift 32 = .ok (.getfield 12, 3) := by decide +kernel
theorem dX1_leastShift_35 : decode cX1_leastShift 35 = .ok (.getfield 117, 3) := by decide +kernel
theorem dX1_leastShift_38 : decode cX1_leastShift 38 = .ok (.invokevirtual 56, 3) := by decide +kernel
theorem dX1_leastShift_41 : decode cX1_leastShift 41 = .ok (.invokevirtual 78, 3) := by decide +kernel
theorem dX1_leastShift_44 : decode cX1_leastShift 44 = .ok (.invokevirtual 120, 3) := by decide +kernel
theorem dX1_leastShift_47 : decode cX1_leastShift 47 = .ok (.aload_n 0, 1) := by decide +kernel
theorem dX1_leastShift_48 : decode cX1_leastShift 48 = .ok (.aload_n 0, 1) := by decide +kernel
theorem dX1_leastShift_49 : decode cX1_leastShift 49 = .ok (.aload_n 0, 1) := by decide +kernel
theorem dX1_leastShift_50 : decode cX1_leastShift 50 = .ok (.getfield 43, 3) := by decide +kernel
theorem dX1_leastShift_53 : decode cX1_leastShift 53 = .ok (.invokevirtual 123, 3) := by decide +kernel
theorem dX1_leastShift_56 : decode cX1_leastShift 56 = .ok (.aload_n 0, 1) := by decide +kernel
theorem dX1_leastShift_57 : decode cX1_leastShift 57 = .ok (.getfield 49, 3) := by decide +kernel
theorem dX1_leastShift_60 : decode cX1_leastShift 60 = .ok (.invokevirtual 127, 3) := by decide +kernel
theorem dX1_leastShift_63 : decode cX1_leastShift 63 = .ok (.aload_n 0, 1) := by decide +kernel
theorem dX1_leastShift_64 : decode cX1_leastShift 64 = .ok (.getfield 49, 3) := by decide +kernel
theorem dX1_leastShift_67 : decode cX1_leastShift 67 = .ok (.invokevirtual 52, 3) := by decide +kernel
theorem dX1_leastShift_70 : decode cX1_leastShift 70 = .ok (.ifCond .gt 5, 3) := by decide +kernel
theorem dX1_leastShift_73 : decode cX1_leastShift 73 = .ok (.iload_n 2, 1) := by decide +kernel
theorem dX1_leastShift_74 : decode cX1_leastShift 74 = .ok (.ireturn, 1) := by decide +kernel
theorem dX1_leastShift_75 : decode cX1_leastShift 75 = .ok (.iinc 2 1, 3) := by decide +kernel
theorem dX1_leastShift_78 : decode cX1_leastShift 78 = .ok (.goto (-76), 3) := by decide +kernel
theorem dX1_leastShift_81 : decode cX1_leastShift 81 = .ok (.iconst 0, 1) := by decide +kernel
theorem dX1_leastShift_82 : decode cX1_leastShift 82 = .ok (.ireturn, 1) := by decide +kernel
end
section
set_option maxRecDepth 20000 in
theorem ggX3_init_X2_init : GoodIn wsX3_init wsX2_init := goodIn_r _ [17, 18, 2, 3, 6, 19, 28] (by decide +kernel) (by decide +kernel)
set_option maxRecDepth 20000 in
theorem gX3_init_X2_init_n29 : GoodIn wsX3_init (wsX2_init) := ggX3_init_X2_init
theorem dX3_init_0 : decode cX3_init 0 = .ok (.aload_n 0, 1) := by decide +kernel
theorem dX3_init_1 : decode cX3_init 1 = .ok (.invokespecial 3, 3) := by decide +kernel
theorem dX3_init_4 : decode cX3_init 4 = .ok (.aload_n 0, 1) := by decide +kernel
theorem dX3_init_5 : decode cX3_init 5 = .ok (.iconst 5, 1) := by decide +kernel
theorem dX3_init_6 : decode cX3_init 6 = .ok (.anewarray 9, 3) := by decide +kernel
theorem dX3_init_9 : decode cX3_init 9 = .ok (.putfield 11, 3) := by decide +kernel
theorem dX3_init_12 : decode cX3_init 12 = .ok (.aload_n 0, 1) := by decide +kernel
theorem dX3_init_13 : decode cX3_init 13 = .ok (.iconst 5, 1) := by decide +kernel
theorem dX3_init_14 : decode cX3_init 14 = .ok (.newarray .int, 2) := by decide +kernel
theorem dX3_init_16 : decode cX3_init 16 = .ok (.putfield 17, 3) := by decide +kernel
theorem dX3_init_19 : decode cX3_init 19 = .ok (.aload_n 0, 1) := by decide +kernel
theorem dX3_init_20 : decode cX3_init 20 = .ok (.iconst 0, 1) := by decide +kernel
theorem dX3_init_21 : decode cX3_init 21 = .ok (.putfield 21, 3) := by decide +kernel
theorem dX3_init_24 : decode cX3_init 24 = .ok (.aload_n 0, 1) := by decide +kernel
theorem dX3_init_25 : decode cX3_init 25 = .ok (.iconst 0, 1) := by decide +kernel
theorem dX3_init_26 : decode cX3_init 26 = .ok (.putfield 25, 3) := by decide +kernel
theorem dX3_init_29 : decode cX3_init 29 = .ok (.aload_n 0, 1) := by decide +kernel
theorem dX3_init_30 : decode cX3_init 30 = .ok (.new 9, 3) := by decide +kernel
theorem dX3_init_33 : decode cX3_init 33 = .ok (.dup, 1) := by decide +kernel
theorem dX3_init_34 : decode cX3_init 34 = .ok (.invokespecial 29, 3) := by decide +kernel
theorem dX3_init_37 : decode cX3_init 37 = .ok (.putfield 30, 3) := by decide +kernel
theorem dX3_init_40 : decode cX3_init 40 = .ok (.aload_n 0, 1) := by decide +kernel
theorem dX3_init_41 : decode cX3_init 41 = .ok (.new 9, 3) := by decide +kernel
theorem dX3_init_44 : decode cX3_init 44 = .ok (.dup, 1) := by decide +kernel
theorem dX3_init_45 : decode cX3_init 45 = .ok (.invokespecial 29, 3) := by decide +kernel
theorem dX3_init_48 : decode cX3_init 48 = .ok (.putfield 34, 3) := by decide +kernel
theorem dX3_init_51 : decode cX3_init 51 = .ok (.aload_n 0, 1) := by decide +kernel
theorem dX3_init_52 : decode cX3_init 52 = .ok (.new 9, 3) := by decide +kernel
theorem dX3_init_55 : decode cX3_init 55 = .ok (.dup, 1) := by decide +kernel
theorem dX3_init_56 : decode cX3_init 56 = .ok (.invokespecial 29, 3) := by decide +kernel
theorem dX3_init_59 : decode cX3_init 59 = .ok (.putfield 37, 3) := by decide +kernel
theorem dX3_init_62 : decode cX3_init 62 = .ok (.aload_n 0, 1) := by decide +kernel
theorem dX3_init_63 : decode cX3_init 63 = .ok (.new 9, 3) := by decide +kernel
theorem dX3_init_66 : decode cX3_init 66 = .ok (.dup, 1) := by decide +kernel
theorem dX3_init_67 : decode cX3_init 67 = .ok (.invokespecial 29, 3) := by decide +kernel
theorem dX3_init_70 : decode cX3_init 70 = .ok (.putfield 40, 3) := by decide +kernel
theorem dX3_init_73 : decode cX3_init 73 = .ok (.iconst 0, 1) := by decide +kernel
theorem dX3_init_74 : decode cX3_init 74 = .ok (.istore_n 1, 1) := by decide +kernel
theorem dX3_init_75 : decode cX3_init 75 = .ok (.iload_n 1, 1) := by decide +kernel
theorem dX3_init_76 : decode cX3_init 76 = .ok (.aload_n 0, 1) := by decide +kernel
theorem dX3_init_77 : decode cX3_init 77 = .ok (.getfield 11, 3) := by decide +kernel
theorem dX3_init_80 : decode cX3_init 80 = .ok (.arraylength, 1) := by decide +kernel
theorem dX3_init_81 : decode cX3_init 81 = .ok (.if_icmp .ge 22, 3) := by decide +kernel
theorem dX3_init_84 : decode cX3_init 84 = .ok (.aload_n 0, 1) := by decide +kernel
theorem dX3_init_85 : decode cX3_init 85 = .ok (.getfield 11, 3) := by decide +kernel
theorem dX3_init_88 : decode cX3_init 88 = .ok (.iload_n 1, 1) := by decide +kernel
theorem dX3_init_89 : decode cX3_init 89 = .ok (.new 9, 3) := by decide +kernel
theorem dX3_init_92 : decode cX3_init 92 = .ok (.dup, 1) := by decide +kernel
theorem dX3_init_93 : decode cX3_init 93 = .ok (.invokespecial 29, 3) := by decide +kernel
theorem dX3_init_96 : decode cX3_init 96 = .ok (.aastore, 1) := by decide +kernel
theorem dX3_init_97 : decode cX3_init 97 = .ok (.iinc 1 1, 3) := by decide +kernel
theorem dX3_init_100 : decode cX3_init 100 = .ok (.goto (-25), 3) := by decide +kernel
theorem dX3_init_103 : decode cX3_init 103 = .ok (.return_, 1) := by decide +kernel
theorem dX3_forget_0 : decode cX3_forget 0 = .ok (.aload_n 0, 1) := by decide +kernel
theorem dX3_forget_1 : decode cX3_forget 1 = .ok (.iconst 0, 1) := by decide +kernel
theorem dX3_forget_2 : decode cX3_forget 2 = .ok (.putfield 25, 3) := by decide +kernel
theorem dX3_forget_5 : decode cX3_forget 5 = .ok (.return_, 1) := by decide +kernel
theorem dX3_part_0 : decode cX3_part 0 = .ok (.iload_n 1, 1) := by decide +kernel
theorem dX3_part_1 : decode cX3_part 1 = .ok (.ifCond .lt 21, 3) := by decide +kernel
theorem dX3_part_4 : decode cX3_part 4 = .ok (.iload_n 1, 1) := by decide +kernel
theorem dX3_part_5 : decode cX3_part 5 = .ok (.aload_n 0, 1) := by decide +kernel
theorem dX3_part_6 : decode cX3_part 6 = .ok (.getfield 11, 3) := by decide +kernel
theorem dX3_part_9 : decode cX3_part 9 = .ok (.arraylength, 1) := by decide +kernel
theorem dX3_part_10 : decode cX3_part 10 = .ok (.if_icmp .ge 12, 3) := by decide +kernel
theorem dX3_part_13 : decode cX3_part 13 = .ok (.aload_n 0, 1) := by decide +kernel
theorem dX3_part_14 : decode cX3_part 14 = .ok (.getfield 11, 3) := by decide +kernel
theorem dX3_part_17 : decode cX3_part 17 = .ok (.iload_n 1, 1) := by decide +kernel
theorem dX3_part_18 : decode cX3_part 18 = .ok (.aaload, 1) := by decide +kernel
theorem dX3_part_19 : decode cX3_part 19 = .ok (.goto 7, 3) := by decide +kernel
theorem dX3_part_22 : decode cX3_part 22 = .ok (.aload_n 0, 1) := by decide +kernel
theorem dX3_part_23 : decode cX3_part 23 = .ok (.getfield 30, 3) := by decide +kernel
theorem dX3_part_26 : decode cX3_part 26 = .ok (.areturn, 1) := by decide +kernel
theorem dX3_timesOf_0 : decode cX3_timesOf 0 = .ok (.iload_n 1, 1) := by decide +kernel
theorem dX3_timesOf_1 : decode cX3_timesOf 1 = .ok (.ifCond .lt 21, 3) := by decide +kernel
theorem dX3_timesOf_4 : decode cX3_timesOf 4 = .ok (.iload_n 1, 1) := by decide +kernel
theorem dX3_timesOf_5 : decode cX3_timesOf 5 = .ok (.aload_n 0, 1) := by decide +kernel
theorem dX3_timesOf_6 : decode cX3_timesOf 6 = .ok (.getfield 17, 3) := by decide +kernel
theorem dX3_timesOf_9 : decode cX3_timesOf 9 = .ok (.arraylength, 1) := by decide +kernel
theorem dX3_timesOf_10 : decode cX3_timesOf 10 = .ok (.if_icmp .ge 12, 3) := by decide +kernel
theorem dX3_timesOf_13 : decode cX3_timesOf 13 = .ok (.aload_n 0, 1) := by decide +kernel
theorem dX3_timesOf_14 : decode cX3_timesOf 14 = .ok (.getfield 17, 3) := by decide +kernel
theorem dX3_timesOf_17 : decode cX3_timesOf 17 = .ok (.iload_n 1, 1) := by decide +kernel
theorem dX3_timesOf_18 : decode cX3_timesOf 18 = .ok (.iaload, 1) := by decide +kernel
theorem dX3_timesOf_19 : decode cX3_timesOf 19 = .ok (.goto 4, 3) := by decide +kernel
theorem dX3_timesOf_22 : decode cX3_timesOf 22 = .ok (.iconst 0, 1) := by decide +kernel
theorem dX3_timesOf_23 : decode cX3_timesOf 23 = .ok (.ireturn, 1) := by decide +kernel
set_option maxRecDepth 20000 in
theorem ggX3_commonDegree_X3_part : GoodIn wsX3_commonDegree wsX3_part := goodIn_r _ [6, 7, 8, 15, 16, 17, 18, 19, 20, 21, 22] (by decide +kernel) (by decide +kernel)
set_option maxRecDepth 20000 in
theorem gX3_commonDegree_X3_part : GoodIn wsX3_commonDegree (wsV RX3 43 RX3 yX3_part wsX3_part) := goodIn_app (goodIn_of _ (by decide +kernel)) ggX3_commonDegree_X3_part
set_option maxRecDepth 20000 in
theorem ggX3_commonDegree_X2_degree : GoodIn wsX3_commonDegree wsX2_degree := goodIn_r _ [13, 14, 23] (by decide +kernel) (by decide +kernel)
set_option maxRecDepth 20000 in
theorem gX3_commonDegree_X2_degree : GoodIn wsX3_commonDegree (wsV RX3 47 RX2 yX2_degree wsX2_degree) := goodIn_app (goodIn_of _ (by decide +kernel)) ggX3_commonDegree_X2_degree
theorem dX3_commonDegree_0 : decode cX3_commonDegree 0 = .ok (.iconst 1, 1) := by decide +kernel
theorem dX3_commonDegree_1 : decode cX3_commonDegree 1 = .ok (.istore_n 1, 1) := by decide +kernel
theorem dX3_commonDegree_2 : decode cX3_commonDegree 2 = .ok (.iload_n 1, 1) := by decide +kernel
theorem dX3_commonDegree_3 : decode cX3_commonDegree 3 = .ok (.bipush 60, 2) := by decide +kernel
theorem dX3_commonDegree_5 : decode cX3_commonDegree 5 = .ok (.if_icmp .gt 65, 3) := by decide +kernel
theorem dX3_commonDegree_8 : decode cX3_commonDegree 8 = .ok (.iconst 1, 1) := by decide +kernel
theorem dX3_commonDegree_9 : decode cX3_commonDegree 9 = .ok (.istore_n 2, 1) := by decide +kernel
theorem dX3_commonDegree_10 : decode cX3_commonDegree 10 = .ok (.iconst 0, 1) := by decide +kernel
theorem dX3_commonDegree_11 : decode cX3_commonDegree 11 = .ok (.istore_n 3, 1) := by decide +kernel
theorem dX3_commonDegree_12 : decode cX3_commonDegree 12 = .ok (.iload_n 3, 1) := by decide +kernel
theorem dX3_commonDegree_13 : decode cX3_commonDegree 13 = .ok (.aload_n 0, 1) := by decide +kernel
theorem dX3_commonDegree_14 : decode cX3_commonDegree 14 = .ok (.getfield 21, 3) := by decide +kernel
theorem dX3_commonDegree_17 : decode cX3_commonDegree 17 = .ok (.if_icmp .ge 41, 3) := by decide +kernel
theorem dX3_commonDegree_20 : decode cX3_commonDegree 20 = .ok (.aload_n 0, 1) := by decide +kernel
theorem dX3_commonDegree_21 : decode cX3_commonDegree 21 = .ok (.iload_n 3, 1) := by decide +kernel
theorem dX3_commonDegree_22 : decode cX3_commonDegree 22 = .ok (.invokevirtual 43, 3) := by decide +kernel
theorem dX3_commonDegree_25 : decode cX3_commonDegree 25 = .ok (.invokevirtual 47, 3) := by decide +kernel
theorem dX3_commonDegree_28 : decode cX3_commonDegree 28 = .ok (.istore 4, 2) := by decide +kernel
theorem dX3_commonDegree_30 : decode cX3_commonDegree 30 = .ok (.iload_n 2, 1) := by decide +kernel
theorem dX3_commonDegree_31 : decode cX3_commonDegree 31 = .ok (.ifCond .eq 19, 3) := by decide +kernel
theorem dX3_commonDegree_34 : decode cX3_commonDegree 34 = .ok (.iload 4, 2) := by decide +kernel
theorem dX3_commonDegree_36 : decode cX3_commonDegree 36 = .ok (.ifCond .le 14, 3) := by decide +kernel
theorem dX3_commonDegree_39 : decode cX3_commonDegree 39 = .ok (.iload_n 1, 1) := by decide +kernel
theorem dX3_commonDegree_40 : decode cX3_commonDegree 40 = .ok (.iload 4, 2) := by decide +kernel
theorem dX3_commonDegree_42 : decode cX3_commonDegree 42 = .ok (.irem, 1) := by decide +kernel
theorem dX3_commonDegree_43 : decode cX3_commonDegree 43 = .ok (.ifCond .ne 7, 3) := by decide +kernel
theorem dX3_commonDegree_46 : decode cX3_commonDegree 46 = .ok (.iconst 1, 1) := by decide +kernel
theorem dX3_commonDegree_47 : decode cX3_commonDegree 47 = .ok (.goto 4, 3) := by decide +kernel
theorem dX3_commonDegree_50 : decode cX3_commonDegree 50 = .ok (.iconst 0, 1) := by decide +kernel
theorem dX3_commonDegree_51 : decode cX3_commonDegree 51 = .ok (.istore_n 2, 1) := by decide +kernel
theorem dX3_commonDegree_52 : decode cX3_commonDegree 52 = .ok (.iinc 3 1, 3) := by decide +kernel
theorem dX3_commonDegree_55 : decode cX3_commonDegree 55 = .ok (.goto (-43), 3) := by decide +kernel
theorem dX3_commonDegree_58 : decode cX3_commonDegree 58 = .ok (.iload_n 2, 1) := by decide +kernel
theorem dX3_commonDegree_59 : decode cX3_commonDegree 59 = .ok (.ifCond .eq 5, 3) := by decide +kernel
theorem dX3_commonDegree_62 : decode cX3_commonDegree 62 = .ok (.iload_n 1, 1) := by decide +kernel
theorem dX3_commonDegree_63 : decode cX3_commonDegree 63 = .ok (.ireturn, 1) := by decide +kernel
theorem dX3_commonDegree_64 : decode cX3_commonDegree 64 = .ok (.iinc 1 1, 3) := by decide +kernel
theorem dX3_commonDegree_67 : decode cX3_commonDegree 67 = .ok (.goto (-65), 3) := by decide +kernel
theorem dX3_commonDegree_70 : decode cX3_commonDegree 70 = .ok (.iconst 0, 1) := by decide +kernel
theorem dX3_commonDegree_71 : decode cX3_commonDegree 71 = .ok (.ireturn, 1) := by decide +kernel
set_option maxRecDepth 20000 in
theorem ggX3_find_X1_findSquares : GoodIn wsX3_find wsX1_findSquares := goodIn_r _ [10, 11, 12, 13, 14, 15, 16, 17, 18, 19, 20, 21, 22, 23, 24, 25, 26, 27, 28, 29, 30, 31, 32, 33, 34, 35, 36, 37, 38, 39, 40, 41, 42, 9, 43, 44, 45, 46, 47, 48, 49, 50, 51, 52, 53, 54, 55, 56, 57, 58, 59, 60, 61, 62, 63, 64, 65, 66, 67, 68, 149, 150, 151, 152, 153, 154, 155, 156, 157, 158, 159, 160, 161, 162, 163, 164, 165, 166, 167, 168] (by decide +kernel) (by decide +kernel)
set_option maxRecDepth 20000 in
theorem gX3_find_X1_findSquares : GoodIn wsX3_find (wsV RX3 51 RX1 yX1_findSquares wsX1_findSquares) := goodIn_app (goodIn_of _ (by decide +kernel)) ggX3_find_X1_findSquares
set_option maxRecDepth 20000 in
theorem ggX3_find_X3_keepRoot : GoodIn wsX3_find wsX3_keepRoot := goodIn_r _ [73, 5, 3, 74, 47, 48, 16, 49, 18, 50, 24, 25, 26, 75, 61, 62, 9, 63, 64, 12, 19, 20, 21, 22, 13, 14, 15, 17, 23, 36, 37, 38, 39, 27, 28, 29, 30, 31, 32, 33, 34, 35, 65, 66, 67, 68, 76, 52, 53, 54, 55, 56, 57, 58, 59, 141, 142, 143, 144, 145, 146, 147, 148, 149, 150, 151, 152, 153, 154, 155, 156, 157, 158, 159, 160, 161, 162, 163, 164, 165, 166, 167, 168] (by decide +kernel) (by decide +kernel)
set_option maxRecDepth 20000 in
theorem gX3_find_X3_keepRoot : GoodIn wsX3_find (wsV RX3 57 RX3 yX3_keepRoot wsX3_keepRoot) := goodIn_app (goodIn_of _ (by decide +kernel)) ggX3_find_X3_keepRoot
set_option maxRecDepth 20000 in
theorem ggX3_find_X2_copy : GoodIn wsX3_find wsX2_copy := goodIn_r _ [49, 18, 50, 24, 25, 16, 26, 160] (by decide +kernel) (by decide +kernel)
set_option maxRecDepth 20000 in
theorem gX3_find_X2_copy : GoodIn wsX3_find (wsV RX3 61 RX2 yX2_copy wsX2_copy) := goodIn_app (goodIn_of _ (by decide +kernel)) ggX3_find_X2_copy
set_option maxRecDepth 20000 in
theorem ggX3_find_X2_degree : GoodIn wsX3_find wsX2_degree := goodIn_r _ [22, 18, 160] (by decide +kernel) (by decide +kernel)
set_option maxRecDepth 20000 in
theorem gX3_find_X2_degree : GoodIn wsX3_find (wsV RX3 47 RX2 yX2_degree wsX2_degree) := goodIn_app (goodIn_of _ (by decide +kernel)) ggX3_find_X2_degree
set_option maxRecDepth 20000 in
theorem ggX3_find_X3_collect : GoodIn wsX3_find wsX3_collect := goodIn_r _ [81, 4, 82, 3, 83, 84, 72, 85, 86, 87, 88, 9, 89, 90, 91, 92, 16, 93, 94, 14, 15, 17, 18, 95, 37, 38, 39, 96, 97, 98, 99, 100, 12, 19, 20, 21, 22, 13, 23, 24, 25, 26, 27, 28, 29, 30, 31, 32, 33, 34, 35, 101, 102, 103, 104, 36, 46, 47, 48, 49, 50, 105, 106, 107, 108, 60, 61, 62, 63, 64, 65, 66, 67, 68, 109, 110, 111, 112, 41, 42, 43, 44, 45, 51, 52, 53, 54, 55, 56, 57, 58, 59, 77, 113, 114, 115, 116, 2, 117, 74, 75, 141, 142, 143, 144, 145, 146, 147, 148, 149, 150, 151, 152, 153, 154, 155, 156, 157, 158, 159, 161, 162, 163, 164, 165, 166, 167, 168, 160] (by decide +kernel) (by decide +kernel)
set_option maxRecDepth 20000 in
theorem gX3_find_X3_collect : GoodIn wsX3_find (wsV RX3 65 RX3 yX3_collect wsX3_collect) := goodIn_app (goodIn_of _ (by decide +kernel)) ggX3_find_X3_collect
set_option maxRecDepth 20000 in
theorem ggX3_find_X3_separate : GoodIn wsX3_find wsX3_separate := goodIn_r _ [121, 122, 2, 82, 3, 83, 84, 72, 85, 123, 124, 125, 126, 117, 5, 77, 20, 21, 16, 22, 18, 86, 87, 88, 9, 89, 90, 91, 92, 93, 94, 14, 15, 17, 95, 37, 38, 39, 96, 97, 98, 99, 100, 12, 19, 13, 23, 24, 25, 26, 27, 28, 29, 30, 31, 32, 33, 34, 35, 101, 102, 103, 104, 36, 46, 47, 48, 49, 50, 105, 106, 107, 108, 60, 61, 62, 63, 64, 65, 66, 67, 68, 109, 110, 111, 112, 41, 42, 43, 44, 45, 51, 52, 53, 54, 55, 56, 57, 58, 59, 75, 74, 113, 114, 115, 116, 149, 150, 151, 152, 153, 154, 155, 156, 157, 158, 159, 161, 162, 163, 164, 165, 166, 167, 168, 141, 142, 143, 144, 145, 146, 147, 148, 160] (by decide +kernel) (by decide +kernel)
set_option maxRecDepth 20000 in
theorem gX3_find_X3_separate : GoodIn wsX3_find (wsV RX3 69 RX3 yX3_separate wsX3_separate) := goodIn_app (goodIn_of _ (by decide +kernel)) ggX3_find_X3_separate
set_option maxRecDepth 20000 in
theorem ggX3_find_X3_add : GoodIn wsX3_find wsX3_add := goodIn_r _ [116, 2, 117, 74, 47, 48, 16, 49, 18, 50, 24, 25, 26, 141, 142, 143, 144, 145, 146, 147, 148, 160] (by decide +kernel) (by decide +kernel)
set_option maxRecDepth 20000 in
theorem gX3_find_X3_add : GoodIn wsX3_find (wsV RX3 73 RX3 yX3_add wsX3_add) := goodIn_app (goodIn_of _ (by decide +kernel)) ggX3_find_X3_add
set_option maxRecDepth 20000 in
theorem ggX3_find_X3_sort : GoodIn wsX3_find wsX3_sort := goodIn_r _ [130, 2, 117, 131, 132, 133, 16, 134, 135, 20, 21, 22, 18, 50, 24, 25, 26, 141, 142, 143, 144, 145, 146, 147, 148, 160] (by decide +kernel) (by decide +kernel)
set_option maxRecDepth 20000 in
theorem gX3_find_X3_sort : GoodIn wsX3_find (wsV RX3 76 RX3 yX3_sort wsX3_sort) := goodIn_app (goodIn_of _ (by decide +kernel)) ggX3_find_X3_sort
set_option maxRecDepth 20000 in
theorem ggX3_find_X3_countTimes : GoodIn wsX3_find wsX3_countTimes := goodIn_r _ [139, 2, 140, 4, 74, 47, 48, 16, 49, 18, 50, 24, 25, 26, 123, 124, 125, 72, 126, 117, 5, 75, 61, 62, 9, 63, 64, 12, 19, 20, 21, 22, 13, 14, 15, 17, 23, 36, 37, 38, 39, 27, 28, 29, 30, 31, 32, 33, 34, 35, 65, 66, 67, 68, 77, 141, 142, 143, 144, 145, 146, 147, 148, 149, 150, 151, 152, 153, 154, 155, 156, 157, 158, 159, 160, 161, 162, 163, 164, 165, 166, 167, 168] (by decide +kernel) (by decide +kernel)
set_option maxRecDepth 20000 in
theorem gX3_find_X3_countTimes : GoodIn wsX3_find (wsV RX3 79 RX3 yX3_countTimes wsX3_countTimes) := goodIn_app (goodIn_of _ (by decide +kernel)) ggX3_find_X3_countTimes
theorem dX3_find_0 : decode cX3_find 0 = .ok (.aload_n 0, 1) := by decide +kernel
theorem dX3_find_1 : decode cX3_find 1 = .ok (.getfield 25, 3) := by decide +kernel
theorem dX3_find_4 : decode cX3_find 4 = .ok (.ifCond .eq 4, 3) := by decide +kernel
theorem dX3_find_7 : decode cX3_find 7 = .ok (.return_, 1) := by decide +kernel
theorem dX3_find_8 : decode cX3_find 8 = .ok (.aload_n 0, 1) := by decide +kernel
theorem dX3_find_9 : decode cX3_find 9 = .ok (.iconst 0, 1) := by decide +kernel
theorem dX3_find_10 : decode cX3_find 10 = .ok (.putfield 21, 3) := by decide +kernel
theorem dX3_find_13 : decode cX3_find 13 = .ok (.aload_n 1, 1) := by decide +kernel
theorem dX3_find_14 : decode cX3_find 14 = .ok (.aload_n 2, 1) := by decide +kernel
theorem dX3_find_15 : decode cX3_find 15 = .ok (.aload_n 0, 1) := by decide +kernel
theorem dX3_find_16 : decode cX3_find 16 = .ok (.getfield 40, 3) := by decide +kernel
theorem dX3_find_19 : decode cX3_find 19 = .ok (.invokevirtual 51, 3) := by decide +kernel
theorem dX3_find_22 : decode cX3_find 22 = .ok (.aload_n 0, 1) := by decide +kernel
theorem dX3_find_23 : decode cX3_find 23 = .ok (.aload_n 1, 1) := by decide +kernel
theorem dX3_find_24 : decode cX3_find 24 = .ok (.aload_n 2, 1) := by decide +kernel
theorem dX3_find_25 : decode cX3_find 25 = .ok (.invokevirtual 57, 3) := by decide +kernel
theorem dX3_find_28 : decode cX3_find 28 = .ok (.aload_n 0, 1) := by decide +kernel
theorem dX3_find_29 : decode cX3_find 29 = .ok (.getfield 34, 3) := by decide +kernel
theorem dX3_find_32 : decode cX3_find 32 = .ok (.aload_n 0, 1) := by decide +kernel
theorem dX3_find_33 : decode cX3_find 33 = .ok (.getfield 30, 3) := by decide +kernel
theorem dX3_find_36 : decode cX3_find 36 = .ok (.invokevirtual 61, 3) := by decide +kernel
theorem dX3_find_39 : decode cX3_find 39 = .ok (.iconst 1, 1) := by decide +kernel
theorem dX3_find_40 : decode cX3_find 40 = .ok (.istore_n 3, 1) := by decide +kernel
theorem dX3_find_41 : decode cX3_find 41 = .ok (.iload_n 3, 1) := by decide +kernel
theorem dX3_find_42 : decode cX3_find 42 = .ok (.iconst 5, 1) := by decide +kernel
theorem dX3_find_43 : decode cX3_find 43 = .ok (.if_icmp .gt 42, 3) := by decide +kernel
theorem dX3_find_46 : decode cX3_find 46 = .ok (.aload_n 0, 1) := by decide +kernel
theorem dX3_find_47 : decode cX3_find 47 = .ok (.getfield 34, 3) := by decide +kernel
theorem dX3_find_50 : decode cX3_find 50 = .ok (.invokevirtual 47, 3) := by decide +kernel
theorem dX3_find_53 : decode cX3_find 53 = .ok (.iconst 2, 1) := by decide +kernel
theorem dX3_find_54 : decode cX3_find 54 = .ok (.iload_n 3, 1) := by decide +kernel
theorem dX3_find_55 : decode cX3_find 55 = .ok (.imul, 1) := by decide +kernel
theorem dX3_find_56 : decode cX3_find 56 = .ok (.if_icmp .lt 29, 3) := by decide +kernel
theorem dX3_find_59 : decode cX3_find 59 = .ok (.aload_n 0, 1) := by decide +kernel
theorem dX3_find_60 : decode cX3_find 60 = .ok (.getfield 21, 3) := by decide +kernel
theorem dX3_find_63 : decode cX3_find 63 = .ok (.istore 4, 2) := by decide +kernel
theorem dX3_find_65 : decode cX3_find 65 = .ok (.aload_n 0, 1) := by decide +kernel
theorem dX3_find_66 : decode cX3_find 66 = .ok (.aload_n 1, 1) := by decide +kernel
theorem dX3_find_67 : decode cX3_find 67 = .ok (.iload_n 3, 1) := by decide +kernel
theorem dX3_find_68 : decode cX3_find 68 = .ok (.invokevirtual 65, 3) := by decide +kernel
theorem dX3_find_71 : decode cX3_find 71 = .ok (.aload_n 0, 1) := by decide +kernel
theorem dX3_find_72 : decode cX3_find 72 = .ok (.aload_n 1, 1) := by decide +kernel
theorem dX3_find_73 : decode cX3_find 73 = .ok (.iload 4, 2) := by decide +kernel
theorem dX3_find_75 : decode cX3_find 75 = .ok (.iload_n 3, 1) := by decide +kernel
theorem dX3_find_76 : decode cX3_find 76 = .ok (.invokevirtual 69, 3) := by decide +kernel
theorem dX3_find_79 : decode cX3_find 79 = .ok (.iinc 3 1, 3) := by decide +kernel
theorem dX3_find_82 : decode cX3_find 82 = .ok (.goto (-41), 3) := by decide +kernel
theorem dX3_find_85 : decode cX3_find 85 = .ok (.aload_n 0, 1) := by decide +kernel
theorem dX3_find_86 : decode cX3_find 86 = .ok (.getfield 34, 3) := by decide +kernel
theorem dX3_find_89 : decode cX3_find 89 = .ok (.invokevirtual 47, 3) := by decide +kernel
theorem dX3_find_92 : decode cX3_find 92 = .ok (.ifCond .le 11, 3) := by decide +kernel
theorem dX3_find_95 : decode cX3_find 95 = .ok (.aload_n 0, 1) := by decide +kernel
theorem dX3_find_96 : decode cX3_find 96 = .ok (.aload_n 0, 1) := by decide +kernel
theorem dX3_find_97 : decode cX3_find 97 = .ok (.getfield 34, 3) := by decide +kernel
theorem dX3_find_100 : decode cX3_find 100 = .ok (.invokevirtual 73, 3) := by decide +kernel
theorem dX3_find_103 : decode cX3_find 103 = .ok (.aload_n 0, 1) := by decide +kernel
theorem dX3_find_104 : decode cX3_find 104 = .ok (.invokevirtual 76, 3) := by decide +kernel
theorem dX3_find_107 : decode cX3_find 107 = .ok (.aload_n 0, 1) := by decide +kernel
theorem dX3_find_108 : decode cX3_find 108 = .ok (.aload_n 1, 1) := by decide +kernel
theorem dX3_find_109 : decode cX3_find 109 = .ok (.aload_n 2, 1) := by decide +kernel
theorem dX3_find_110 : decode cX3_find 110 = .ok (.invokevirtual 79, 3) := by decide +kernel
theorem dX3_find_113 : decode cX3_find 113 = .ok (.aload_n 0, 1) := by decide +kernel
theorem dX3_find_114 : decode cX3_find 114 = .ok (.iconst 1, 1) := by decide +kernel
theorem dX3_find_115 : decode cX3_find 115 = .ok (.putfield 25, 3) := by decide +kernel
theorem dX3_find_118 : decode cX3_find 118 = .ok (.return_, 1) := by decide +kernel
set_option maxRecDepth 20000 in
theorem ggX3_keepRoot_X2_copy : GoodIn wsX3_keepRoot wsX2_copy := goodIn_r _ [7, 8, 9, 10, 11, 6, 12, 74] (by decide +kernel) (by decide +kernel)
set_option maxRecDepth 20000 in
theorem gX3_keepRoot_X2_copy : GoodIn wsX3_keepRoot (wsV RX3 61 RX2 yX2_copy wsX2_copy) := goodIn_app (goodIn_of _ (by decide +kernel)) ggX3_keepRoot_X2_copy
set_option maxRecDepth 20000 in
theorem ggX3_keepRoot_X1_divide : GoodIn wsX3_keepRoot wsX1_divide := goodIn_r _ [17, 18, 19, 20, 21, 22, 6, 23, 8, 24, 25, 26, 27, 28, 10, 11, 12, 29, 30, 31, 32, 33, 34, 35, 36, 37, 38, 39, 40, 41, 42, 43, 44, 45, 63, 64, 65, 66, 67, 68, 69, 70, 71, 72, 73, 74, 75, 76, 77, 78, 79, 80, 81, 82] (by decide +kernel) (by decide +kernel)
set_option maxRecDepth 20000 in
theorem gX3_keepRoot_X1_divide : GoodIn wsX3_keepRoot (wsV RX3 82 RX1 yX1_divide wsX1_divide) := goodIn_app (goodIn_of _ (by decide +kernel)) ggX3_keepRoot_X1_divide
set_option maxRecDepth 20000 in
theorem ggX3_keepRoot_X1_makeMonic : GoodIn wsX3_keepRoot wsX1_makeMonic := goodIn_r _ [49, 19, 20, 21, 22, 6, 23, 8, 28, 10, 11, 12, 50, 51, 52, 36, 53, 54, 34, 35, 37, 38, 39, 40, 41, 33, 29, 30, 31, 32, 63, 64, 65, 66, 67, 68, 69, 70, 71, 72, 73, 75, 76, 77, 78, 79, 80, 81, 82, 74] (by decide +kernel) (by decide +kernel)
set_option maxRecDepth 20000 in
theorem gX3_keepRoot_X1_makeMonic : GoodIn wsX3_keepRoot (wsV RX3 88 RX1 yX1_makeMonic wsX1_makeMonic) := goodIn_app (goodIn_of _ (by decide +kernel)) ggX3_keepRoot_X1_makeMonic
theorem dX3_keepRoot_0 : decode cX3_keepRoot 0 = .ok (.aload_n 0, 1) := by decide +kernel
theorem dX3_keepRoot_1 : decode cX3_keepRoot 1 = .ok (.getfield 30, 3) := by decide +kernel
theorem dX3_keepRoot_4 : decode cX3_keepRoot 4 = .ok (.aload_n 2, 1) := by decide +kernel
theorem dX3_keepRoot_5 : decode cX3_keepRoot 5 = .ok (.invokevirtual 61, 3) := by decide +kernel
theorem dX3_keepRoot_8 : decode cX3_keepRoot 8 = .ok (.aload_n 1, 1) := by decide +kernel
theorem dX3_keepRoot_9 : decode cX3_keepRoot 9 = .ok (.aload_n 0, 1) := by decide +kernel
theorem dX3_keepRoot_10 : decode cX3_keepRoot 10 = .ok (.getfield 30, 3) := by decide +kernel
theorem dX3_keepRoot_13 : decode cX3_keepRoot 13 = .ok (.aload_n 0, 1) := by decide +kernel
theorem dX3_keepRoot_14 : decode cX3_keepRoot 14 = .ok (.getfield 40, 3) := by decide +kernel
theorem dX3_keepRoot_17 : decode cX3_keepRoot 17 = .ok (.invokevirtual 82, 3) := by decide +kernel
theorem dX3_keepRoot_20 : decode cX3_keepRoot 20 = .ok (.aload_n 0, 1) := by decide +kernel
theorem dX3_keepRoot_21 : decode cX3_keepRoot 21 = .ok (.getfield 30, 3) := by decide +kernel
theorem dX3_keepRoot_24 : decode cX3_keepRoot 24 = .ok (.aload_n 1, 1) := by decide +kernel
theorem dX3_keepRoot_25 : decode cX3_keepRoot 25 = .ok (.getfield 85, 3) := by decide +kernel
theorem dX3_keepRoot_28 : decode cX3_keepRoot 28 = .ok (.invokevirtual 61, 3) := by decide +kernel
theorem dX3_keepRoot_31 : decode cX3_keepRoot 31 = .ok (.aload_n 1, 1) := by decide +kernel
theorem dX3_keepRoot_32 : decode cX3_keepRoot 32 = .ok (.aload_n 0, 1) := by decide +kernel
theorem dX3_keepRoot_33 : decode cX3_keepRoot 33 = .ok (.getfield 30, 3) := by decide +kernel
theorem dX3_keepRoot_36 : decode cX3_keepRoot 36 = .ok (.invokevirtual 88, 3) := by decide +kernel
theorem dX3_keepRoot_39 : decode cX3_keepRoot 39 = .ok (.return_, 1) := by decide +kernel
set_option maxRecDepth 20000 in
theorem ggX3_add_X2_copy : GoodIn wsX3_add wsX2_copy := goodIn_r _ [7, 8, 9, 10, 11, 6, 12, 21] (by decide +kernel) (by decide +kernel)
set_option maxRecDepth 20000 in
theorem gX3_add_X2_copy : GoodIn wsX3_add (wsV RX3 61 RX2 yX2_copy wsX2_copy) := goodIn_app (goodIn_of _ (by decide +kernel)) ggX3_add_X2_copy
theorem dX3_add_0 : decode cX3_add 0 = .ok (.aload_n 0, 1) := by decide +kernel
theorem dX3_add_1 : decode cX3_add 1 = .ok (.getfield 21, 3) := by decide +kernel
theorem dX3_add_4 : decode cX3_add 4 = .ok (.aload_n 0, 1) := by decide +kernel
theorem dX3_add_5 : decode cX3_add 5 = .ok (.getfield 11, 3) := by decide +kernel
theorem dX3_add_8 : decode cX3_add 8 = .ok (.arraylength, 1) := by decide +kernel
theorem dX3_add_9 : decode cX3_add 9 = .ok (.if_icmp .ge 26, 3) := by decide +kernel
theorem dX3_add_12 : decode cX3_add 12 = .ok (.aload_n 0, 1) := by decide +kernel
theorem dX3_add_13 : decode cX3_add 13 = .ok (.getfield 11, 3) := by decide +kernel
theorem dX3_add_16 : decode cX3_add 16 = .ok (.aload_n 0, 1) := by decide +kernel
theorem dX3_add_17 : decode cX3_add 17 = .ok (.getfield 21, 3) := by decide +kernel
theorem dX3_add_20 : decode cX3_add 20 = .ok (.aaload, 1) := by decide +kernel
theorem dX3_add_21 : decode cX3_add 21 = .ok (.aload_n 1, 1) := by decide +kernel
theorem dX3_add_22 : decode cX3_add 22 = .ok (.invokevirtual 61, 3) := by decide +kernel
theorem dX3_add_25 : decode cX3_add 25 = .ok (.aload_n 0, 1) := by decide +kernel
theorem dX3_add_26 : decode cX3_add 26 = .ok (.dup, 1) := by decide +kernel
theorem dX3_add_27 : decode cX3_add 27 = .ok (.getfield 21, 3) := by decide +kernel
theorem dX3_add_30 : decode cX3_add 30 = .ok (.iconst 1, 1) := by decide +kernel
theorem dX3_add_31 : decode cX3_add 31 = .ok (.iadd, 1) := by decide +kernel
theorem dX3_add_32 : decode cX3_add 32 = .ok (.putfield 21, 3) := by decide +kernel
theorem dX3_add_35 : decode cX3_add 35 = .ok (.return_, 1) := by decide +kernel
theorem dX3_sizeToThe_0 : decode cX3_sizeToThe 0 = .ok (.aload_n 0, 1) := by decide +kernel
theorem dX3_sizeToThe_1 : decode cX3_sizeToThe 1 = .ok (.getfield 91, 3) := by decide +kernel
theorem dX3_sizeToThe_4 : decode cX3_sizeToThe 4 = .ok (.getfield 95, 3) := by decide +kernel
theorem dX3_sizeToThe_7 : decode cX3_sizeToThe 7 = .ok (.i2l, 1) := by decide +kernel
theorem dX3_sizeToThe_8 : decode cX3_sizeToThe 8 = .ok (.lstore_n 2, 1) := by decide +kernel
theorem dX3_sizeToThe_9 : decode cX3_sizeToThe 9 = .ok (.iload_n 1, 1) := by decide +kernel
theorem dX3_sizeToThe_10 : decode cX3_sizeToThe 10 = .ok (.iconst 1, 1) := by decide +kernel
theorem dX3_sizeToThe_11 : decode cX3_sizeToThe 11 = .ok (.if_icmp .ne 7, 3) := by decide +kernel
theorem dX3_sizeToThe_14 : decode cX3_sizeToThe 14 = .ok (.lload_n 2, 1) := by decide +kernel
theorem dX3_sizeToThe_15 : decode cX3_sizeToThe 15 = .ok (.goto 6, 3) := by decide +kernel
theorem dX3_sizeToThe_18 : decode cX3_sizeToThe 18 = .ok (.lload_n 2, 1) := by decide +kernel
theorem dX3_sizeToThe_19 : decode cX3_sizeToThe 19 = .ok (.lload_n 2, 1) := by decide +kernel
theorem dX3_sizeToThe_20 : decode cX3_sizeToThe 20 = .ok (.lmul, 1) := by decide +kernel
theorem dX3_sizeToThe_21 : decode cX3_sizeToThe 21 = .ok (.lreturn, 1) := by decide +kernel
set_option maxRecDepth 20000 in
theorem ggX3_collect_X3_sizeToThe : GoodIn wsX3_collect wsX3_sizeToThe := goodIn_r _ [7, 109, 110, 111, 112, 113, 114, 115, 116, 117, 118, 119, 120, 121, 122, 123, 124, 125, 126, 127] (by decide +kernel) (by decide +kernel)
set_option maxRecDepth 20000 in
theorem gX3_collect_X3_sizeToThe : GoodIn wsX3_collect (va_wsS RX3 100 yX3_sizeToThe wsX3_sizeToThe) := goodIn_app (goodIn_of _ (by decide +kernel)) ggX3_collect_X3_sizeToThe
set_option maxRecDepth 20000 in
theorem ggX3_collect_X1_raiseLinear : GoodIn wsX3_collect wsX1_raiseLinear := goodIn_r _ [12, 13, 14, 15, 16, 17, 18, 19, 20, 21, 22, 23, 24, 25, 26, 27, 28, 29, 11, 30, 31, 32, 33, 34, 35, 36, 37, 38, 39, 40, 41, 42, 43, 44, 45, 46, 47, 48, 49, 50, 51, 52, 53, 54, 55, 56, 57, 58, 59, 60, 61, 62, 63, 64, 65, 66, 67, 68, 69, 70, 71, 72, 73, 128, 109, 110, 111, 112, 113, 114, 115, 116, 117, 118, 119, 120, 121, 122, 123, 124, 125, 126, 127] (by decide +kernel) (by decide +kernel)
set_option maxRecDepth 20000 in
theorem gX3_collect_X1_raiseLinear : GoodIn wsX3_collect (wsV RX3 104 RX1 yX1_raiseLinear wsX1_raiseLinear) := goodIn_app (goodIn_of _ (by decide +kernel)) ggX3_collect_X1_raiseLinear
set_option maxRecDepth 20000 in
theorem ggX3_collect_X2_get : GoodIn wsX3_collect wsX2_get := goodIn_r _ [41, 22, 128] (by decide +kernel) (by decide +kernel)
set_option maxRecDepth 20000 in
theorem gX3_collect_X2_get : GoodIn wsX3_collect (wsV RX3 108 RX2 yX2_get wsX2_get) := goodIn_app (goodIn_of _ (by decide +kernel)) ggX3_collect_X2_get
set_option maxRecDepth 20000 in
theorem ggX3_collect_X0_minus : GoodIn wsX3_collect wsX0_minus := goodIn_r _ [73] (by decide +kernel) (by decide +kernel)
set_option maxRecDepth 20000 in
theorem gX3_collect_X0_minus : GoodIn wsX3_collect (wsV RX3 112 RX0 yX0_minus wsX0_minus) := goodIn_app (goodIn_of _ (by decide +kernel)) ggX3_collect_X0_minus
set_option maxRecDepth 20000 in
theorem ggX3_collect_X2_set : GoodIn wsX3_collect wsX2_set := goodIn_r _ [26, 22, 128] (by decide +kernel) (by decide +kernel)
set_option maxRecDepth 20000 in
theorem gX3_collect_X2_set : GoodIn wsX3_collect (wsV RX3 116 RX2 yX2_set wsX2_set) := goodIn_app (goodIn_of _ (by decide +kernel)) ggX3_collect_X2_set
set_option maxRecDepth 20000 in
theorem ggX3_collect_X1_findCommon : GoodIn wsX3_collect wsX1_findCommon := goodIn_r _ [80, 81, 82, 56, 57, 58, 16, 59, 22, 60, 39, 40, 41, 33, 34, 35, 36, 83, 84, 85, 11, 86, 32, 38, 87, 88, 89, 45, 90, 91, 43, 44, 46, 47, 48, 49, 50, 42, 55, 24, 25, 26, 65, 66, 67, 68, 69, 37, 19, 20, 21, 70, 71, 72, 73, 109, 110, 111, 112, 113, 114, 115, 116, 117, 118, 119, 128, 120, 121, 122, 123, 124, 125, 126, 127] (by decide +kernel) (by decide +kernel)
set_option maxRecDepth 20000 in
theorem gX3_collect_X1_findCommon : GoodIn wsX3_collect (wsV RX3 120 RX1 yX1_findCommon wsX1_findCommon) := goodIn_app (goodIn_of _ (by decide +kernel)) ggX3_collect_X1_findCommon
set_option maxRecDepth 20000 in
theorem ggX3_collect_X2_degree : GoodIn wsX3_collect wsX2_degree := goodIn_r _ [36, 22, 128] (by decide +kernel) (by decide +kernel)
set_option maxRecDepth 20000 in
theorem gX3_collect_X2_degree : GoodIn wsX3_collect (wsV RX3 47 RX2 yX2_degree wsX2_degree) := goodIn_app (goodIn_of _ (by decide +kernel)) ggX3_collect_X2_degree
set_option maxRecDepth 20000 in
theorem ggX3_collect_X3_add : GoodIn wsX3_collect wsX3_add := goodIn_r _ [96, 97, 98, 99, 57, 58, 16, 59, 22, 60, 39, 40, 41, 101, 102, 103, 104, 105, 106, 107, 108, 128] (by decide +kernel) (by decide +kernel)
set_option maxRecDepth 20000 in
theorem gX3_collect_X3_add : GoodIn wsX3_collect (wsV RX3 73 RX3 yX3_add wsX3_add) := goodIn_app (goodIn_of _ (by decide +kernel)) ggX3_collect_X3_add
set_option maxRecDepth 20000 in
theorem ggX3_collect_X1_divide : GoodIn wsX3_collect wsX1_divide := goodIn_r _ [68, 69, 32, 33, 34, 35, 16, 36, 22, 37, 19, 20, 21, 38, 39, 40, 41, 55, 24, 25, 26, 42, 43, 44, 45, 46, 47, 48, 49, 50, 70, 71, 72, 73, 109, 110, 111, 112, 113, 114, 115, 116, 117, 118, 119, 128, 120, 121, 122, 123, 124, 125, 126, 127] (by decide +kernel) (by decide +kernel)
set_option maxRecDepth 20000 in
theorem gX3_collect_X1_divide : GoodIn wsX3_collect (wsV RX3 82 RX1 yX1_divide wsX1_divide) := goodIn_app (goodIn_of _ (by decide +kernel)) ggX3_collect_X1_divide
set_option maxRecDepth 20000 in
theorem ggX3_collect_X2_copy : GoodIn wsX3_collect wsX2_copy := goodIn_r _ [59, 22, 60, 39, 40, 16, 41, 128] (by decide +kernel) (by decide +kernel)
set_option maxRecDepth 20000 in
theorem gX3_collect_X2_copy : GoodIn wsX3_collect (wsV RX3 61 RX2 yX2_copy wsX2_copy) := goodIn_app (goodIn_of _ (by decide +kernel)) ggX3_collect_X2_copy
theorem dX3_collect_0 : decode cX3_collect 0 = .ok (.aload_n 1, 1) := by decide +kernel
theorem dX3_collect_1 : decode cX3_collect 1 = .ok (.iconst 0, 1) := by decide +kernel
theorem dX3_collect_2 : decode cX3_collect 2 = .ok (.aload_n 1, 1) := by decide +kernel
theorem dX3_collect_3 : decode cX3_collect 3 = .ok (.iload_n 2, 1) := by decide +kernel
theorem dX3_collect_4 : decode cX3_collect 4 = .ok (.invokestatic 100, 3) := by decide +kernel
theorem dX3_collect_7 : decode cX3_collect 7 = .ok (.aload_n 0, 1) := by decide +kernel
theorem dX3_collect_8 : decode cX3_collect 8 = .ok (.getfield 34, 3) := by decide +kernel
theorem dX3_collect_11 : decode cX3_collect 11 = .ok (.aload_n 0, 1) := by decide +kernel
theorem dX3_collect_12 : decode cX3_collect 12 = .ok (.getfield 37, 3) := by decide +kernel
theorem dX3_collect_15 : decode cX3_collect 15 = .ok (.invokevirtual 104, 3) := by decide +kernel
theorem dX3_collect_18 : decode cX3_collect 18 = .ok (.aload_n 0, 1) := by decide +kernel
theorem dX3_collect_19 : decode cX3_collect 19 = .ok (.getfield 37, 3) := by decide +kernel
theorem dX3_collect_22 : decode cX3_collect 22 = .ok (.iconst 1, 1) := by decide +kernel
theorem dX3_collect_23 : decode cX3_collect 23 = .ok (.aload_n 1, 1) := by decide +kernel
theorem dX3_collect_24 : decode cX3_collect 24 = .ok (.getfield 91, 3) := by decide +kernel
theorem dX3_collect_27 : decode cX3_collect 27 = .ok (.aload_n 0, 1) := by decide +kernel
theorem dX3_collect_28 : decode cX3_collect 28 = .ok (.getfield 37, 3) := by decide +kernel
theorem dX3_collect_31 : decode cX3_collect 31 = .ok (.iconst 1, 1) := by decide +kernel
theorem dX3_collect_32 : decode cX3_collect 32 = .ok (.invokevirtual 108, 3) := by decide +kernel
theorem dX3_collect_35 : decode cX3_collect 35 = .ok (.iconst 1, 1) := by decide +kernel
theorem dX3_collect_36 : decode cX3_collect 36 = .ok (.invokevirtual 112, 3) := by decide +kernel
theorem dX3_collect_39 : decode cX3_collect 39 = .ok (.invokevirtual 116, 3) := by decide +kernel
theorem dX3_collect_42 : decode cX3_collect 42 = .ok (.aload_n 1, 1) := by decide +kernel
theorem dX3_collect_43 : decode cX3_collect 43 = .ok (.aload_n 0, 1) := by decide +kernel
theorem dX3_collect_44 : decode cX3_collect 44 = .ok (.getfield 34, 3) := by decide +kernel
theorem dX3_collect_47 : decode cX3_collect 47 = .ok (.aload_n 0, 1) := by decide +kernel
theorem dX3_collect_48 : decode cX3_collect 48 = .ok (.getfield 37, 3) := by decide +kernel
theorem dX3_collect_51 : decode cX3_collect 51 = .ok (.aload_n 0, 1) := by decide +kernel
theorem dX3_collect_52 : decode cX3_collect 52 = .ok (.getfield 40, 3) := by decide +kernel
theorem dX3_collect_55 : decode cX3_collect 55 = .ok (.invokevirtual 120, 3) := by decide +kernel
theorem dX3_collect_58 : decode cX3_collect 58 = .ok (.aload_n 0, 1) := by decide +kernel
theorem dX3_collect_59 : decode cX3_collect 59 = .ok (.getfield 40, 3) := by decide +kernel
theorem dX3_collect_62 : decode cX3_collect 62 = .ok (.invokevirtual 47, 3) := by decide +kernel
theorem dX3_collect_65 : decode cX3_collect 65 = .ok (.ifCond .le 34, 3) := by decide +kernel
theorem dX3_collect_68 : decode cX3_collect 68 = .ok (.aload_n 0, 1) := by decide +kernel
theorem dX3_collect_69 : decode cX3_collect 69 = .ok (.aload_n 0, 1) := by decide +kernel
theorem dX3_collect_70 : decode cX3_collect 70 = .ok (.getfield 40, 3) := by decide +kernel
theorem dX3_collect_73 : decode cX3_collect 73 = .ok (.invokevirtual 73, 3) := by decide +kernel
theorem dX3_collect_76 : decode cX3_collect 76 = .ok (.aload_n 1, 1) := by decide +kernel
theorem dX3_collect_77 : decode cX3_collect 77 = .ok (.aload_n 0, 1) := by decide +kernel
theorem dX3_collect_78 : decode cX3_collect 78 = .ok (.getfield 34, 3) := by decide +kernel
theorem dX3_collect_81 : decode cX3_collect 81 = .ok (.aload_n 0, 1) := by decide +kernel
theorem dX3_collect_82 : decode cX3_collect 82 = .ok (.getfield 40, 3) := by decide +kernel
theorem dX3_collect_85 : decode cX3_collect 85 = .ok (.invokevirtual 82, 3) := by decide +kernel
theorem dX3_collect_88 : decode cX3_collect 88 = .ok (.aload_n 0, 1) := by decide +kernel
theorem dX3_collect_89 : decode cX3_collect 89 = .ok (.getfield 34, 3) := by decide +kernel
theorem dX3_collect_92 : decode cX3_collect 92 = .ok (.aload_n 1, 1) := by decide +kernel
theorem dX3_collect_93 : decode cX3_collect 93 = .ok (.getfield 85, 3) := by decide +kernel
theorem dX3_collect_96 : decode cX3_collect 96 = .ok (.invokevirtual 61, 3) := by decide +kernel
theorem dX3_collect_99 : decode cX3_collect 99 = .ok (.return_, 1) := by decide +kernel
set_option maxRecDepth 20000 in
theorem ggX3_separate_X3_sizeToThe : GoodIn wsX3_separate wsX3_sizeToThe := goodIn_r _ [8, 106, 107, 108, 109, 110, 111, 112, 113, 114, 115, 116, 117, 118, 119, 120, 121, 122, 123, 124] (by decide +kernel) (by decide +kernel)
set_option maxRecDepth 20000 in
theorem gX3_separate_X3_sizeToThe : GoodIn wsX3_separate (va_wsS RX3 100 yX3_sizeToThe wsX3_sizeToThe) := goodIn_app (goodIn_of _ (by decide +kernel)) ggX3_separate_X3_sizeToThe
set_option maxRecDepth 20000 in
theorem ggX3_separate_X3_part : GoodIn wsX3_separate wsX3_part := goodIn_r _ [12, 13, 14, 125, 126, 127, 128, 129, 130, 131, 132] (by decide +kernel) (by decide +kernel)
set_option maxRecDepth 20000 in
theorem gX3_separate_X3_part : GoodIn wsX3_separate (wsV RX3 43 RX3 yX3_part wsX3_part) := goodIn_app (goodIn_of _ (by decide +kernel)) ggX3_separate_X3_part
set_option maxRecDepth 20000 in
theorem ggX3_separate_X2_degree : GoodIn wsX3_separate wsX2_degree := goodIn_r _ [19, 20, 133] (by decide +kernel) (by decide +kernel)
set_option maxRecDepth 20000 in
theorem gX3_separate_X2_degree : GoodIn wsX3_separate (wsV RX3 47 RX2 yX2_degree wsX2_degree) := goodIn_app (goodIn_of _ (by decide +kernel)) ggX3_separate_X2_degree
set_option maxRecDepth 20000 in
theorem ggX3_separate_X1_raiseLinear : GoodIn wsX3_separate wsX1_raiseLinear := goodIn_r _ [25, 26, 27, 28, 18, 29, 30, 31, 32, 33, 20, 34, 35, 36, 37, 38, 39, 40, 24, 41, 42, 43, 44, 16, 17, 19, 45, 46, 47, 48, 49, 50, 51, 52, 53, 54, 55, 56, 57, 58, 59, 60, 61, 62, 63, 64, 65, 66, 67, 68, 69, 70, 71, 72, 73, 74, 75, 76, 77, 78, 79, 80, 81, 133, 106, 107, 108, 109, 110, 111, 112, 113, 114, 115, 116, 117, 118, 119, 120, 121, 122, 123, 124] (by decide +kernel) (by decide +kernel)
set_option maxRecDepth 20000 in
theorem gX3_separate_X1_raiseLinear : GoodIn wsX3_separate (wsV RX3 104 RX1 yX1_raiseLinear wsX1_raiseLinear) := goodIn_app (goodIn_of _ (by decide +kernel)) ggX3_separate_X1_raiseLinear
set_option maxRecDepth 20000 in
theorem ggX3_separate_X2_get : GoodIn wsX3_separate wsX2_get := goodIn_r _ [49, 20, 133] (by decide +kernel) (by decide +kernel)
set_option maxRecDepth 20000 in
theorem gX3_separate_X2_get : GoodIn wsX3_separate (wsV RX3 108 RX2 yX2_get wsX2_get) := goodIn_app (goodIn_of _ (by decide +kernel)) ggX3_separate_X2_get
set_option maxRecDepth 20000 in
theorem ggX3_separate_X0_minus : GoodIn wsX3_separate wsX0_minus := goodIn_r _ [81] (by decide +kernel) (by decide +kernel)
set_option maxRecDepth 20000 in
theorem gX3_separate_X0_minus : GoodIn wsX3_separate (wsV RX3 112 RX0 yX0_minus wsX0_minus) := goodIn_app (goodIn_of _ (by decide +kernel)) ggX3_separate_X0_minus
set_option maxRecDepth 20000 in
theorem ggX3_separate_X2_set : GoodIn wsX3_separate wsX2_set := goodIn_r _ [37, 20, 133] (by decide +kernel) (by decide +kernel)
set_option maxRecDepth 20000 in
theorem gX3_separate_X2_set : GoodIn wsX3_separate (wsV RX3 116 RX2 yX2_set wsX2_set) := goodIn_app (goodIn_of _ (by decide +kernel)) ggX3_separate_X2_set
set_option maxRecDepth 20000 in
theorem ggX3_separate_X1_findCommon : GoodIn wsX3_separate wsX1_findCommon := goodIn_r _ [88, 89, 90, 64, 65, 66, 18, 67, 20, 68, 47, 48, 49, 44, 16, 17, 19, 91, 92, 93, 24, 94, 43, 46, 95, 96, 97, 53, 98, 99, 51, 52, 54, 55, 56, 57, 58, 50, 63, 35, 36, 37, 73, 74, 75, 76, 77, 45, 31, 32, 33, 78, 79, 80, 81, 106, 107, 108, 109, 110, 111, 112, 113, 114, 115, 116, 133, 117, 118, 119, 120, 121, 122, 123, 124] (by decide +kernel) (by decide +kernel)
set_option maxRecDepth 20000 in
theorem gX3_separate_X1_findCommon : GoodIn wsX3_separate (wsV RX3 120 RX1 yX1_findCommon wsX1_findCommon) := goodIn_app (goodIn_of _ (by decide +kernel)) ggX3_separate_X1_findCommon
set_option maxRecDepth 20000 in
theorem ggX3_separate_X1_divide : GoodIn wsX3_separate wsX1_divide := goodIn_r _ [76, 77, 43, 44, 16, 17, 18, 19, 20, 45, 31, 32, 33, 46, 47, 48, 49, 63, 35, 36, 37, 50, 51, 52, 53, 54, 55, 56, 57, 58, 78, 79, 80, 81, 106, 107, 108, 109, 110, 111, 112, 113, 114, 115, 116, 133, 117, 118, 119, 120, 121, 122, 123, 124] (by decide +kernel) (by decide +kernel)
set_option maxRecDepth 20000 in
theorem gX3_separate_X1_divide : GoodIn wsX3_separate (wsV RX3 82 RX1 yX1_divide wsX1_divide) := goodIn_app (goodIn_of _ (by decide +kernel)) ggX3_separate_X1_divide
set_option maxRecDepth 20000 in
theorem ggX3_separate_X2_copy : GoodIn wsX3_separate wsX2_copy := goodIn_r _ [67, 20, 68, 47, 48, 18, 49, 133] (by decide +kernel) (by decide +kernel)
set_option maxRecDepth 20000 in
theorem gX3_separate_X2_copy : GoodIn wsX3_separate (wsV RX3 61 RX2 yX2_copy wsX2_copy) := goodIn_app (goodIn_of _ (by decide +kernel)) ggX3_separate_X2_copy
set_option maxRecDepth 20000 in
theorem ggX3_separate_X3_add : GoodIn wsX3_separate wsX3_add := goodIn_r _ [105, 2, 13, 101, 65, 66, 18, 67, 20, 68, 47, 48, 49, 125, 126, 127, 128, 129, 130, 131, 132, 133] (by decide +kernel) (by decide +kernel)
set_option maxRecDepth 20000 in
theorem gX3_separate_X3_add : GoodIn wsX3_separate (wsV RX3 73 RX3 yX3_add wsX3_add) := goodIn_app (goodIn_of _ (by decide +kernel)) ggX3_separate_X3_add
theorem dX3_separate_0 : decode cX3_separate 0 = .ok (.aload_n 1, 1) := by decide +kernel
theorem dX3_separate_1 : decode cX3_separate 1 = .ok (.getfield 91, 3) := by decide +kernel
theorem dX3_separate_4 : decode cX3_separate 4 = .ok (.getfield 95, 3) := by decide +kernel
theorem dX3_separate_7 : decode cX3_separate 7 = .ok (.istore 4, 2) := by decide +kernel
theorem dX3_separate_9 : decode cX3_separate 9 = .ok (.iload 4, 2) := by decide +kernel
theorem dX3_separate_11 : decode cX3_separate 11 = .ok (.sipush 382, 3) := by decide +kernel
theorem dX3_separate_14 : decode cX3_separate 14 = .ok (.imul, 1) := by decide +kernel
theorem dX3_separate_15 : decode cX3_separate 15 = .ok (.sipush 1000, 3) := by decide +kernel
theorem dX3_separate_18 : decode cX3_separate 18 = .ok (.idiv, 1) := by decide +kernel
theorem dX3_separate_19 : decode cX3_separate 19 = .ok (.istore 5, 2) := by decide +kernel
theorem dX3_separate_21 : decode cX3_separate 21 = .ok (.aload_n 1, 1) := by decide +kernel
theorem dX3_separate_22 : decode cX3_separate 22 = .ok (.iload_n 3, 1) := by decide +kernel
theorem dX3_separate_23 : decode cX3_separate 23 = .ok (.invokestatic 100, 3) := by decide +kernel
theorem dX3_separate_26 : decode cX3_separate 26 = .ok (.lconst 1, 1) := by decide +kernel
theorem dX3_separate_27 : decode cX3_separate 27 = .ok (.lsub, 1) := by decide +kernel
theorem dX3_separate_28 : decode cX3_separate 28 = .ok (.ldc2_w 124, 3) := by decide +kernel
theorem dX3_separate_31 : decode cX3_separate 31 = .ok (.ldiv, 1) := by decide +kernel
theorem dX3_separate_32 : decode cX3_separate 32 = .ok (.lstore 6, 2) := by decide +kernel
theorem dX3_separate_34 : decode cX3_separate 34 = .ok (.iload 5, 2) := by decide +kernel
theorem dX3_separate_36 : decode cX3_separate 36 = .ok (.istore 8, 2) := by decide +kernel
theorem dX3_separate_38 : decode cX3_separate 38 = .ok (.iconst 1, 1) := by decide +kernel
theorem dX3_separate_39 : decode cX3_separate 39 = .ok (.istore 9, 2) := by decide +kernel
theorem dX3_separate_41 : decode cX3_separate 41 = .ok (.iconst 0, 1) := by decide +kernel
theorem dX3_separate_42 : decode cX3_separate 42 = .ok (.istore 10, 2) := by decide +kernel
theorem dX3_separate_44 : decode cX3_separate 44 = .ok (.iload 10, 2) := by decide +kernel
theorem dX3_separate_46 : decode cX3_separate 46 = .ok (.iload 4, 2) := by decide +kernel
theorem dX3_separate_48 : decode cX3_separate 48 = .ok (.if_icmp .ge 205, 3) := by decide +kernel
theorem dX3_separate_51 : decode cX3_separate 51 = .ok (.iload 9, 2) := by decide +kernel
theorem dX3_separate_53 : decode cX3_separate 53 = .ok (.ifCond .eq 200, 3) := by decide +kernel
theorem dX3_separate_56 : decode cX3_separate 56 = .ok (.iconst 0, 1) := by decide +kernel
theorem dX3_separate_57 : decode cX3_separate 57 = .ok (.istore 9, 2) := by decide +kernel
theorem dX3_separate_59 : decode cX3_separate 59 = .ok (.aload_n 0, 1) := by decide +kernel
theorem dX3_separate_60 : decode cX3_separate 60 = .ok (.getfield 21, 3) := by decide +kernel
theorem dX3_separate_63 : decode cX3_separate 63 = .ok (.istore 11, 2) := by decide +kernel
theorem dX3_separate_65 : decode cX3_separate 65 = .ok (.iload_n 2, 1) := by decide +kernel
theorem dX3_separate_66 : decode cX3_separate 66 = .ok (.istore 12, 2) := by decide +kernel
theorem dX3_separate_68 : decode cX3_separate 68 = .ok (.iload 12, 2) := by decide +kernel
theorem dX3_separate_70 : decode cX3_separate 70 = .ok (.iload 11, 2) := by decide +kernel
theorem dX3_separate_72 : decode cX3_separate 72 = .ok (.if_icmp .ge 149, 3) := by decide +kernel
theorem dX3_separate_75 : decode cX3_separate 75 = .ok (.aload_n 0, 1) := by decide +kernel
theorem dX3_separate_76 : decode cX3_separate 76 = .ok (.iload 12, 2) := by decide +kernel
theorem dX3_separate_78 : decode cX3_separate 78 = .ok (.invokevirtual 43, 3) := by decide +kernel
theorem dX3_separate_81 : decode cX3_separate 81 = .ok (.invokevirtual 47, 3) := by decide +kernel
theorem dX3_separate_84 : decode cX3_separate 84 = .ok (.iload_n 3, 1) := by decide +kernel
theorem dX3_separate_85 : decode cX3_separate 85 = .ok (.if_icmp .le 130, 3) := by decide +kernel
theorem dX3_separate_88 : decode cX3_separate 88 = .ok (.iconst 1, 1) := by decide +kernel
theorem dX3_separate_89 : decode cX3_separate 89 = .ok (.istore 9, 2) := by decide +kernel
theorem dX3_separate_91 : decode cX3_separate 91 = .ok (.aload_n 1, 1) := by decide +kernel
theorem dX3_separate_92 : decode cX3_separate 92 = .ok (.iload 8, 2) := by decide +kernel
theorem dX3_separate_94 : decode cX3_separate 94 = .ok (.lload 6, 2) := by decide +kernel
theorem dX3_separate_96 : decode cX3_separate 96 = .ok (.aload_n 0, 1) := by decide +kernel
theorem dX3_separate_97 : decode cX3_separate 97 = .ok (.iload 12, 2) := by decide +kernel
theorem dX3_separate_99 : decode cX3_separate 99 = .ok (.invokevirtual 43, 3) := by decide +kernel
theorem dX3_separate_102 : decode cX3_separate 102 = .ok (.aload_n 0, 1) := by decide +kernel
theorem dX3_separate_103 : decode cX3_separate 103 = .ok (.getfield 37, 3) := by decide +kernel
theorem dX3_separate_106 : decode cX3_separate 106 = .ok (.invokevirtual 104, 3) := by decide +kernel
theorem dX3_separate_109 : decode cX3_separate 109 = .ok (.aload_n 0, 1) := by decide +kernel
theorem dX3_separate_110 : decode cX3_separate 110 = .ok (.getfield 37, 3) := by decide +kernel
theorem dX3_separate_113 : decode cX3_separate 113 = .ok (.iconst 0, 1) := by decide +kernel
theorem dX3_separate_114 : decode cX3_separate 114 = .ok (.aload_n 1, 1) := by decide +kernel
theorem dX3_separate_115 : decode cX3_separate 115 = .ok (.getfield 91, 3) := by decide +kernel
theorem dX3_separate_118 : decode cX3_separate 118 = .ok (.aload_n 0, 1) := by decide +kernel
theorem dX3_separate_119 : decode cX3_separate 119 = .ok (.getfield 37, 3) := by decide +kernel
theorem dX3_separate_122 : decode cX3_separate 122 = .ok (.iconst 0, 1) := by decide +kernel
theorem dX3_separate_123 : decode cX3_separate 123 = .ok (.invokevirtual 108, 3) := by decide +kernel
theorem dX3_separate_126 : decode cX3_separate 126 = .ok (.iconst 1, 1) := by decide +kernel
theorem dX3_separate_127 : decode cX3_separate 127 = .ok (.invokevirtual 112, 3) := by decide +kernel
theorem dX3_separate_130 : decode cX3_separate 130 = .ok (.invokevirtual 116, 3) := by decide +kernel
theorem dX3_separate_133 : decode cX3_separate 133 = .ok (.aload_n 1, 1) := by decide +kernel
theorem dX3_separate_134 : decode cX3_separate 134 = .ok (.aload_n 0, 1) := by decide +kernel
theorem dX3_separate_135 : decode cX3_separate 135 = .ok (.iload 12, 2) := by decide +kernel
theorem dX3_separate_137 : decode cX3_separate 137 = .ok (.invokevirtual 43, 3) := by decide +kernel
theorem dX3_separate_140 : decode cX3_separate 140 = .ok (.aload_n 0, 1) := by decide +kernel
theorem dX3_separate_141 : decode cX3_separate 141 = .ok (.getfield 37, 3) := by decide +kernel
theorem dX3_separate_144 : decode cX3_separate 144 = .ok (.aload_n 0, 1) := by decide +kernel
theorem dX3_separate_145 : decode cX3_separate 145 = .ok (.getfield 40, 3) := by decide +kernel
theorem dX3_separate_148 : decode cX3_separate 148 = .ok (.invokevirtual 120, 3) := by decide +kernel
theorem dX3_separate_151 : decode cX3_separate 151 = .ok (.aload_n 0, 1) := by decide +kernel
theorem dX3_separate_152 : decode cX3_separate 152 = .ok (.getfield 40, 3) := by decide +kernel
theorem dX3_separate_155 : decode cX3_separate 155 = .ok (.invokevirtual 47, 3) := by decide +kernel
theorem dX3_separate_158 : decode cX3_separate 158 = .ok (.ifCond .le 57, 3) := by decide +kernel
theorem dX3_separate_161 : decode cX3_separate 161 = .ok (.aload_n 0, 1) := by decide +kernel
theorem dX3_separate_162 : decode cX3_separate 162 = .ok (.getfield 40, 3) := by decide +kernel
theorem dX3_separate_165 : decode cX3_separate 165 = .ok (.invokevirtual 47, 3) := by decide +kernel
theorem dX3_separate_168 : decode cX3_separate 168 = .ok (.aload_n 0, 1) := by decide +kernel
theorem dX3_separate_169 : decode cX3_separate 169 = .ok (.iload 12, 2) := by decide +kernel
theorem dX3_separate_171 : decode cX3_separate 171 = .ok (.invokevirtual 43, 3) := by decide +kernel
theorem dX3_separate_174 : decode cX3_separate 174 = .ok (.invokevirtual 47, 3) := by decide +kernel
theorem dX3_separate_177 : decode cX3_separate 177 = .ok (.if_icmp .ge 38, 3) := by decide +kernel
theorem dX3_separate_180 : decode cX3_separate 180 = .ok (.aload_n 1, 1) := by decide +kernel
theorem dX3_separate_181 : decode cX3_separate 181 = .ok (.aload_n 0, 1) := by decide +kernel
theorem dX3_separate_182 : decode cX3_separate 182 = .ok (.iload 12, 2) := by decide +kernel
theorem dX3_separate_184 : decode cX3_separate 184 = .ok (.invokevirtual 43, 3) := by decide +kernel
theorem dX3_separate_187 : decode cX3_separate 187 = .ok (.aload_n 0, 1) := by decide +kernel
theorem dX3_separate_188 : decode cX3_separate 188 = .ok (.getfield 40, 3) := by decide +kernel
theorem dX3_separate_191 : decode cX3_separate 191 = .ok (.invokevirtual 82, 3) := by decide +kernel
theorem dX3_separate_194 : decode cX3_separate 194 = .ok (.aload_n 0, 1) := by decide +kernel
theorem dX3_separate_195 : decode cX3_separate 195 = .ok (.iload 12, 2) := by decide +kernel
theorem dX3_separate_197 : decode cX3_separate 197 = .ok (.invokevirtual 43, 3) := by decide +kernel
theorem dX3_separate_200 : decode cX3_separate 200 = .ok (.aload_n 1, 1) := by decide +kernel
theorem dX3_separate_201 : decode cX3_separate 201 = .ok (.getfield 85, 3) := by decide +kernel
theorem dX3_separate_204 : decode cX3_separate 204 = .ok (.invokevirtual 61, 3) := by decide +kernel
theorem dX3_separate_207 : decode cX3_separate 207 = .ok (.aload_n 0, 1) := by decide +kernel
theorem dX3_separate_208 : decode cX3_separate 208 = .ok (.aload_n 0, 1) := by decide +kernel
theorem dX3_separate_209 : decode cX3_separate 209 = .ok (.getfield 40, 3) := by decide +kernel
theorem dX3_separate_212 : decode cX3_separate 212 = .ok (.invokevirtual 73, 3) := by decide +kernel
theorem dX3_separate_215 : decode cX3_separate 215 = .ok (.iinc 12 1, 3) := by decide +kernel
theorem dX3_separate_218 : decode cX3_separate 218 = .ok (.goto (-150), 3) := by decide +kernel
theorem dX3_separate_221 : decode cX3_separate 221 = .ok (.iload 8, 2) := by decide +kernel
theorem dX3_separate_223 : decode cX3_separate 223 = .ok (.iload 5, 2) := by decide +kernel
theorem dX3_separate_225 : decode cX3_separate 225 = .ok (.iadd, 1) := by decide +kernel
theorem dX3_separate_226 : decode cX3_separate 226 = .ok (.istore 8, 2) := by decide +kernel
theorem dX3_separate_228 : decode cX3_separate 228 = .ok (.iload 8, 2) := by decide +kernel
theorem dX3_separate_230 : decode cX3_separate 230 = .ok (.iload 4, 2) := by decide +kernel
theorem dX3_separate_232 : decode cX3_separate 232 = .ok (.if_icmp .lt 11, 3) := by decide +kernel
theorem dX3_separate_235 : decode cX3_separate 235 = .ok (.iload 8, 2) := by decide +kernel
theorem dX3_separate_237 : decode cX3_separate 237 = .ok (.iload 4, 2) := by decide +kernel
theorem dX3_separate_239 : decode cX3_separate 239 = .ok (.isub, 1) := by decide +kernel
theorem dX3_separate_240 : decode cX3_separate 240 = .ok (.goto 5, 3) := by decide +kernel
theorem dX3_separate_243 : decode cX3_separate 243 = .ok (.iload 8, 2) := by decide +kernel
theorem dX3_separate_245 : decode cX3_separate 245 = .ok (.istore 8, 2) := by decide +kernel
theorem dX3_separate_247 : decode cX3_separate 247 = .ok (.iinc 10 1, 3) := by decide +kernel
theorem dX3_separate_250 : decode cX3_separate 250 = .ok (.goto (-206), 3) := by decide +kernel
theorem dX3_separate_253 : decode cX3_separate 253 = .ok (.return_, 1) := by decide +kernel
set_option maxRecDepth 20000 in
theorem ggX3_sort_X2_isBefore : GoodIn wsX3_sort wsX2_isBefore := goodIn_r _ [7, 8, 9, 10, 6, 11, 12, 13, 14, 15, 16, 25] (by decide +kernel) (by decide +kernel)
set_option maxRecDepth 20000 in
theorem gX3_sort_X2_isBefore : GoodIn wsX3_sort (wsV RX3 126 RX2 yX2_isBefore wsX2_isBefore) := goodIn_app (goodIn_of _ (by decide +kernel)) ggX3_sort_X2_isBefore
theorem dX3_sort_0 : decode cX3_sort 0 = .ok (.iconst 1, 1) := by decide +kernel
theorem dX3_sort_1 : decode cX3_sort 1 = .ok (.istore_n 1, 1) := by decide +kernel
theorem dX3_sort_2 : decode cX3_sort 2 = .ok (.iload_n 1, 1) := by decide +kernel
theorem dX3_sort_3 : decode cX3_sort 3 = .ok (.aload_n 0, 1) := by decide +kernel
theorem dX3_sort_4 : decode cX3_sort 4 = .ok (.getfield 21, 3) := by decide +kernel
theorem dX3_sort_7 : decode cX3_sort 7 = .ok (.if_icmp .ge 73, 3) := by decide +kernel
theorem dX3_sort_10 : decode cX3_sort 10 = .ok (.iload_n 1, 1) := by decide +kernel
theorem dX3_sort_11 : decode cX3_sort 11 = .ok (.aload_n 0, 1) := by decide +kernel
theorem dX3_sort_12 : decode cX3_sort 12 = .ok (.getfield 11, 3) := by decide +kernel
theorem dX3_sort_15 : decode cX3_sort 15 = .ok (.arraylength, 1) := by decide +kernel
theorem dX3_sort_16 : decode cX3_sort 16 = .ok (.if_icmp .ge 64, 3) := by decide +kernel
theorem dX3_sort_19 : decode cX3_sort 19 = .ok (.aload_n 0, 1) := by decide +kernel
theorem dX3_sort_20 : decode cX3_sort 20 = .ok (.getfield 11, 3) := by decide +kernel
theorem dX3_sort_23 : decode cX3_sort 23 = .ok (.iload_n 1, 1) := by decide +kernel
theorem dX3_sort_24 : decode cX3_sort 24 = .ok (.aaload, 1) := by decide +kernel
theorem dX3_sort_25 : decode cX3_sort 25 = .ok (.astore_n 2, 1) := by decide +kernel
theorem dX3_sort_26 : decode cX3_sort 26 = .ok (.iload_n 1, 1) := by decide +kernel
theorem dX3_sort_27 : decode cX3_sort 27 = .ok (.istore_n 3, 1) := by decide +kernel
theorem dX3_sort_28 : decode cX3_sort 28 = .ok (.iload_n 3, 1) := by decide +kernel
theorem dX3_sort_29 : decode cX3_sort 29 = .ok (.ifCond .le 38, 3) := by decide +kernel
theorem dX3_sort_32 : decode cX3_sort 32 = .ok (.aload_n 2, 1) := by decide +kernel
theorem dX3_sort_33 : decode cX3_sort 33 = .ok (.aload_n 0, 1) := by decide +kernel
theorem dX3_sort_34 : decode cX3_sort 34 = .ok (.getfield 11, 3) := by decide +kernel
theorem dX3_sort_37 : decode cX3_sort 37 = .ok (.iload_n 3, 1) := by decide +kernel
theorem dX3_sort_38 : decode cX3_sort 38 = .ok (.iconst 1, 1) := by decide +kernel
theorem dX3_sort_39 : decode cX3_sort 39 = .ok (.isub, 1) := by decide +kernel
theorem dX3_sort_40 : decode cX3_sort 40 = .ok (.aaload, 1) := by decide +kernel
theorem dX3_sort_41 : decode cX3_sort 41 = .ok (.invokevirtual 126, 3) := by decide +kernel
theorem dX3_sort_44 : decode cX3_sort 44 = .ok (.ifCond .eq 23, 3) := by decide +kernel
theorem dX3_sort_47 : decode cX3_sort 47 = .ok (.aload_n 0, 1) := by decide +kernel
theorem dX3_sort_48 : decode cX3_sort 48 = .ok (.getfield 11, 3) := by decide +kernel
theorem dX3_sort_51 : decode cX3_sort 51 = .ok (.iload_n 3, 1) := by decide +kernel
theorem dX3_sort_52 : decode cX3_sort 52 = .ok (.aload_n 0, 1) := by decide +kernel
theorem dX3_sort_53 : decode cX3_sort 53 = .ok (.getfield 11, 3) := by decide +kernel
theorem dX3_sort_56 : decode cX3_sort 56 = .ok (.iload_n 3, 1) := by decide +kernel
theorem dX3_sort_57 : decode cX3_sort 57 = .ok (.iconst 1, 1) := by decide +kernel
theorem dX3_sort_58 : decode cX3_sort 58 = .ok (.isub, 1) := by decide +kernel
theorem dX3_sort_59 : decode cX3_sort 59 = .ok (.aaload, 1) := by decide +kernel
theorem dX3_sort_60 : decode cX3_sort 60 = .ok (.aastore, 1) := by decide +kernel
theorem dX3_sort_61 : decode cX3_sort 61 = .ok (.iinc 3 (-1), 3) := by decide +kernel
theorem dX3_sort_64 : decode cX3_sort 64 = .ok (.goto (-36), 3) := by decide +kernel
theorem dX3_sort_67 : decode cX3_sort 67 = .ok (.aload_n 0, 1) := by decide +kernel
theorem dX3_sort_68 : decode cX3_sort 68 = .ok (.getfield 11, 3) := by decide +kernel
theorem dX3_sort_71 : decode cX3_sort 71 = .ok (.iload_n 3, 1) := by decide +kernel
theorem dX3_sort_72 : decode cX3_sort 72 = .ok (.aload_n 2, 1) := by decide +kernel
theorem dX3_sort_73 : decode cX3_sort 73 = .ok (.aastore, 1) := by decide +kernel
theorem dX3_sort_74 : decode cX3_sort 74 = .ok (.iinc 1 1, 3) := by decide +kernel
theorem dX3_sort_77 : decode cX3_sort 77 = .ok (.goto (-75), 3) := by decide +kernel
theorem dX3_sort_80 : decode cX3_sort 80 = .ok (.return_, 1) := by decide +kernel
set_option maxRecDepth 20000 in
theorem ggX3_countTimes_X2_copy : GoodIn wsX3_countTimes wsX2_copy := goodIn_r _ [8, 9, 10, 11, 12, 7, 13, 74] (by decide +kernel) (by decide +kernel)
set_option maxRecDepth 20000 in
theorem gX3_countTimes_X2_copy : GoodIn wsX3_countTimes (wsV RX3 61 RX2 yX2_copy wsX2_copy) := goodIn_app (goodIn_of _ (by decide +kernel)) ggX3_countTimes_X2_copy
set_option maxRecDepth 20000 in
theorem ggX3_countTimes_X3_part : GoodIn wsX3_countTimes wsX3_part := goodIn_r _ [18, 19, 20, 55, 56, 57, 58, 59, 60, 61, 62] (by decide +kernel) (by decide +kernel)
set_option maxRecDepth 20000 in
theorem gX3_countTimes_X3_part : GoodIn wsX3_countTimes (wsV RX3 43 RX3 yX3_part wsX3_part) := goodIn_app (goodIn_of _ (by decide +kernel)) ggX3_countTimes_X3_part
set_option maxRecDepth 20000 in
theorem ggX3_countTimes_X1_divide : GoodIn wsX3_countTimes wsX1_divide := goodIn_r _ [25, 26, 27, 28, 29, 30, 7, 31, 9, 32, 33, 34, 35, 36, 11, 12, 13, 37, 38, 39, 40, 41, 42, 43, 44, 45, 46, 47, 48, 49, 50, 51, 52, 53, 63, 64, 65, 66, 67, 68, 69, 70, 71, 72, 73, 74, 75, 76, 77, 78, 79, 80, 81, 82] (by decide +kernel) (by decide +kernel)
set_option maxRecDepth 20000 in
theorem gX3_countTimes_X1_divide : GoodIn wsX3_countTimes (wsV RX3 82 RX1 yX1_divide wsX1_divide) := goodIn_app (goodIn_of _ (by decide +kernel)) ggX3_countTimes_X1_divide
set_option maxRecDepth 20000 in
theorem ggX3_countTimes_X2_degree : GoodIn wsX3_countTimes wsX2_degree := goodIn_r _ [31, 9, 74] (by decide +kernel) (by decide +kernel)
set_option maxRecDepth 20000 in
theorem gX3_countTimes_X2_degree : GoodIn wsX3_countTimes (wsV RX3 47 RX2 yX2_degree wsX2_degree) := goodIn_app (goodIn_of _ (by decide +kernel)) ggX3_countTimes_X2_degree
theorem dX3_countTimes_0 : decode cX3_countTimes 0 = .ok (.iconst 0, 1) := by decide +kernel
theorem dX3_countTimes_1 : decode cX3_countTimes 1 = .ok (.istore_n 3, 1) := by decide +kernel
theorem dX3_countTimes_2 : decode cX3_countTimes 2 = .ok (.iload_n 3, 1) := by decide +kernel
theorem dX3_countTimes_3 : decode cX3_countTimes 3 = .ok (.aload_n 0, 1) := by decide +kernel
theorem dX3_countTimes_4 : decode cX3_countTimes 4 = .ok (.getfield 21, 3) := by decide +kernel
theorem dX3_countTimes_7 : decode cX3_countTimes 7 = .ok (.if_icmp .ge 95, 3) := by decide +kernel
theorem dX3_countTimes_10 : decode cX3_countTimes 10 = .ok (.iload_n 3, 1) := by decide +kernel
theorem dX3_countTimes_11 : decode cX3_countTimes 11 = .ok (.aload_n 0, 1) := by decide +kernel
theorem dX3_countTimes_12 : decode cX3_countTimes 12 = .ok (.getfield 17, 3) := by decide +kernel
theorem dX3_countTimes_15 : decode cX3_countTimes 15 = .ok (.arraylength, 1) := by decide +kernel
theorem dX3_countTimes_16 : decode cX3_countTimes 16 = .ok (.if_icmp .ge 86, 3) := by decide +kernel
theorem dX3_countTimes_19 : decode cX3_countTimes 19 = .ok (.aload_n 0, 1) := by decide +kernel
theorem dX3_countTimes_20 : decode cX3_countTimes 20 = .ok (.getfield 17, 3) := by decide +kernel
theorem dX3_countTimes_23 : decode cX3_countTimes 23 = .ok (.iload_n 3, 1) := by decide +kernel
theorem dX3_countTimes_24 : decode cX3_countTimes 24 = .ok (.iconst 0, 1) := by decide +kernel
theorem dX3_countTimes_25 : decode cX3_countTimes 25 = .ok (.iastore, 1) := by decide +kernel
theorem dX3_countTimes_26 : decode cX3_countTimes 26 = .ok (.aload_n 0, 1) := by decide +kernel
theorem dX3_countTimes_27 : decode cX3_countTimes 27 = .ok (.getfield 34, 3) := by decide +kernel
theorem dX3_countTimes_30 : decode cX3_countTimes 30 = .ok (.aload_n 2, 1) := by decide +kernel
theorem dX3_countTimes_31 : decode cX3_countTimes 31 = .ok (.invokevirtual 61, 3) := by decide +kernel
theorem dX3_countTimes_34 : decode cX3_countTimes 34 = .ok (.iconst 0, 1) := by decide +kernel
theorem dX3_countTimes_35 : decode cX3_countTimes 35 = .ok (.istore 4, 2) := by decide +kernel
theorem dX3_countTimes_37 : decode cX3_countTimes 37 = .ok (.iload 4, 2) := by decide +kernel
theorem dX3_countTimes_39 : decode cX3_countTimes 39 = .ok (.iconst 5, 1) := by decide +kernel
theorem dX3_countTimes_40 : decode cX3_countTimes 40 = .ok (.if_icmp .gt 56, 3) := by decide +kernel
theorem dX3_countTimes_43 : decode cX3_countTimes 43 = .ok (.aload_n 1, 1) := by decide +kernel
theorem dX3_countTimes_44 : decode cX3_countTimes 44 = .ok (.aload_n 0, 1) := by decide +kernel
theorem dX3_countTimes_45 : decode cX3_countTimes 45 = .ok (.getfield 34, 3) := by decide +kernel
theorem dX3_countTimes_48 : decode cX3_countTimes 48 = .ok (.aload_n 0, 1) := by decide +kernel
theorem dX3_countTimes_49 : decode cX3_countTimes 49 = .ok (.iload_n 3, 1) := by decide +kernel
theorem dX3_countTimes_50 : decode cX3_countTimes 50 = .ok (.invokevirtual 43, 3) := by decide +kernel
theorem dX3_countTimes_53 : decode cX3_countTimes 53 = .ok (.invokevirtual 82, 3) := by decide +kernel
theorem dX3_countTimes_56 : decode cX3_countTimes 56 = .ok (.aload_n 0, 1) := by decide +kernel
theorem dX3_countTimes_57 : decode cX3_countTimes 57 = .ok (.getfield 34, 3) := by decide +kernel
theorem dX3_countTimes_60 : decode cX3_countTimes 60 = .ok (.invokevirtual 47, 3) := by decide +kernel
theorem dX3_countTimes_63 : decode cX3_countTimes 63 = .ok (.ifCond .lt 6, 3) := by decide +kernel
theorem dX3_countTimes_66 : decode cX3_countTimes 66 = .ok (.goto 30, 3) := by decide +kernel
theorem dX3_countTimes_69 : decode cX3_countTimes 69 = .ok (.aload_n 0, 1) := by decide +kernel
theorem dX3_countTimes_70 : decode cX3_countTimes 70 = .ok (.getfield 17, 3) := by decide +kernel
theorem dX3_countTimes_73 : decode cX3_countTimes 73 = .ok (.iload_n 3, 1) := by decide +kernel
theorem dX3_countTimes_74 : decode cX3_countTimes 74 = .ok (.dup2, 1) := by decide +kernel
theorem dX3_countTimes_75 : decode cX3_countTimes 75 = .ok (.iaload, 1) := by decide +kernel
theorem dX3_countTimes_76 : decode cX3_countTimes 76 = .ok (.iconst 1, 1) := by decide +kernel
theorem dX3_countTimes_77 : decode cX3_countTimes 77 = .ok (.iadd, 1) := by decide +kernel
theorem dX3_countTimes_78 : decode cX3_countTimes 78 = .ok (.iastore, 1) := by decide +kernel
theorem dX3_countTimes_79 : decode cX3_countTimes 79 = .ok (.aload_n 0, 1) := by decide +kernel
theorem dX3_countTimes_80 : decode cX3_countTimes 80 = .ok (.getfield 34, 3) := by decide +kernel
theorem dX3_countTimes_83 : decode cX3_countTimes 83 = .ok (.aload_n 1, 1) := by decide +kernel
theorem dX3_countTimes_84 : decode cX3_countTimes 84 = .ok (.getfield 85, 3) := by decide +kernel
theorem dX3_countTimes_87 : decode cX3_countTimes 87 = .ok (.invokevirtual 61, 3) := by decide +kernel
theorem dX3_countTimes_90 : decode cX3_countTimes 90 = .ok (.iinc 4 1, 3) := by decide +kernel
theorem dX3_countTimes_93 : decode cX3_countTimes 93 = .ok (.goto (-56), 3) := by decide +kernel
theorem dX3_countTimes_96 : decode cX3_countTimes 96 = .ok (.iinc 3 1, 3) := by decide +kernel
theorem dX3_countTimes_99 : decode cX3_countTimes 99 = .ok (.goto (-97), 3) := by decide +kernel
theorem dX3_countTimes_102 : decode cX3_countTimes 102 = .ok (.return_, 1) := by decide +kernel
end
section
/-! A world of n cells at the addresses ad 0 .. ad (n - 1), with the contents c. -/
def ww (n : Nat) (ad : Nat → Nat) (c : Nat → va_E) : va_W := (List.range n).map (fun k => (ad k, c k))
theorem ww_get {n : Nat} {ad : Nat → Nat} {c : Nat → va_E} {k : Nat} (hk : k < n) : (ww n ad c)[k]? = some (ad k, c k) := by
  simp [ww, List.getElem?_map, List.getElem?_range hk]
theorem ww_len {n : Nat} {ad : Nat → Nat} {c : Nat → va_E} : (ww n ad c).length = n := by simp [ww]
theorem ww_of {n : Nat} {ad : Nat → Nat} {c : Nat → va_E} {k : Nat} {q : Nat × va_E} (h : (ww n ad c)[k]? = some q) : k < n ∧ q = (ad k, c k) := by
  have hl : k < n := by
    have h1 := (List.getElem?_eq_some_iff.mp h).1
    rw [ww_len] at h1
    exact h1
  rw [ww_get hl] at h
  exact ⟨hl, (Option.some.inj h).symm⟩
theorem ww_set {n : Nat} {ad : Nat → Nat} {c c' : Nat → va_E} {k : Nat} {e : va_E} (h1 : c' k = e) (h2 : ∀ j, j ≠ k → c' j = c j) : (ww n ad c).set k (ad k, e) = ww n ad c' := by
  apply List.ext_getElem?
  intro i
  by_cases hi : i < n
  · by_cases hk : i = k
    · subst hk
      rw [ww_get hi, List.getElem?_set]
      simp [ww_len, hi, h1]
    · rw [ww_get (c := c') hi, List.getElem?_set, if_neg (fun h => hk h.symm), ww_get hi, h2 i hk]
  · rw [List.getElem?_eq_none (by rw [List.length_set, ww_len]; omega), List.getElem?_eq_none (by rw [ww_len]; omega)]
/-- the addresses of the world -/
def ww_A (n : Nat) (ad : Nat → Nat) : Nat → Prop := fun q => ∃ k, k < n ∧ q = ad k
def ww_inj (n : Nat) (ad : Nat → Nat) : Prop := ∀ i j, i < n → j < n → ad i = ad j → i = j
theorem ww_D {n : Nat} {ad : Nat → Nat} {c : Nat → va_E} (h : ww_inj n ad) : va_D (ww_A n ad) (ww n ad c) := by
  refine ⟨fun i j p q hp hq e => ?_, fun k q hk => ?_⟩
  · obtain ⟨h1, rfl⟩ := ww_of hp
    obtain ⟨h2, rfl⟩ := ww_of hq
    exact h i j h1 h2 e
  · obtain ⟨h1, rfl⟩ := ww_of hk
    exact ⟨k, h1, rfl⟩
/-- the words on nest mates, as the state at a method's start has them -/
def nw_ok (nw : List Cond) (U : State) : Prop := ∀ w ∈ nw, va_Nw w U
def nw_kind (w : Cond) : Bool := match w with
  | .fieldLinkNest .. => true
  | .methodLinkNest .. => true
  | _ => false
theorem nw_moved {nw : List Cond} (hk : nw.all nw_kind = true) {s U : State} (hW : s.WarmedH U.vm) (h : nw_ok nw s) : nw_ok nw U := by
  intro w hw
  have h1 := List.all_eq_true.mp hk w hw
  have h2 := h w hw
  cases w <;> simp [nw_kind] at h1
  · exact va_Nw.warmM hW h2
  · exact va_Nw.warmF hW h2
/-- what a state holds at a method's start: the world, the tables' words on its classes, the words on nest mates -/
def ws_B (D : va_G) (tys : List (ClassId × FieldType)) (nw : List Cond) (w : va_W) (U : State) : Prop := va_P D vwCl w U.heap ∧ va_K D vwCl tys U ∧ nw_ok nw U
/-- a method's end: it returns v, the world is w', nothing else has changed -/
def ct_Q (D : va_G) (w' : va_W) (A : Nat → Prop) (v : Option Value) : Array Value → State → Outcome → State → Prop := fun _ st o t => o = .returned v ∧ va_P D vwCl w' t.heap ∧ va_F A st t
theorem ct_pre {D : va_G} {tys : List (ClassId × FieldType)} {nw : List Cond} {w : va_W} {H : Heap} {s : State} (hn : nw.all nw_kind = true) (hP : va_P D vwCl w H) (hK : va_K D vwCl tys s) (hN : nw_ok nw s) {av : List Value} :
    FrameBlind (va_Pc av (ws_B D tys nw w)) ∧ ∀ U : State, U.heap = H → s.WarmedH U.vm → va_Pc av (ws_B D tys nw w) av.toArray U := by
  refine ⟨fun a U g mk q => ?_, fun U hU hW => ⟨rfl, by rw [hU]; exact hP, va_K.moved hW.alike hK, nw_moved hn hW hN⟩⟩
  obtain ⟨q0, qP, qK, qN⟩ := q
  exact ⟨q0, qP, va_K.moved (u := U) (U := U.calling g mk a) (Vm.Alike.refl U.vm) qK, fun w hw => va_Nw.same (u := U) (U := U.calling g mk a) (by
    have h1 := List.all_eq_true.mp hn w hw
    cases w <;> simp [nw_kind] at h1 <;> rfl) rfl (qN w hw)⟩
theorem ct_preV {D : va_G} {tys : List (ClassId × FieldType)} {nw : List Cond} {n : Nat} {ad : Nat → Nat} {c : Nat → va_E} {H : Heap} {s : State} {As : List Value} {ci k : Nat} {q : vw_C} {fs : List Value} (hn : nw.all nw_kind = true) (hP : va_P D vwCl (ww n ad c) H) (hK : va_K D vwCl tys s) (hN : nw_ok nw s) (hc : vwCl[ci]? = some q) (hk : k < n) (he : c k = .inr (ci, fs)) :
    PreV s H q.1 (ad k) (va_Pc (.ref (ad k) :: As) (ws_B D tys nw (ww n ad c))) As := by
  obtain ⟨h1, h2⟩ := ct_pre (av := .ref (ad k) :: As) hn hP hK hN
  exact ⟨h1, va_recv hK hP hc (q0 := k) (fs := fs) (by rw [ww_get hk, he]), h2⟩
theorem ct_preS {D : va_G} {tys : List (ClassId × FieldType)} {nw : List Cond} {w : va_W} {H : Heap} {s : State} {As : List Value} (hn : nw.all nw_kind = true) (hP : va_P D vwCl w H) (hK : va_K D vwCl tys s) (hN : nw_ok nw s) :
    PreS s H (va_Pc As (ws_B D tys nw w)) As := ct_pre hn hP hK hN
/-- Java's remainders; a named value -/
def jrem (x y : Int32) : Int32 := x - x / y * y
def jreml (x y : Int64) : Int64 := x - x / y * y
def nm {α β : Type} (x : α) (k : α → Option β) : Option β := k x
theorem nm_elim {α β : Type} {x : α} {k : α → Option β} {r : β} (h : nm x k = some r) : ∃ v, x = v ∧ k v = some r := ⟨x, rfl, h⟩
section CT
variable {p : Program} {l : Launch} {e : Env} {R : Room} {s : State} {m : MethodId} {args : Array Value} {below : List Frame} {meth : Method} {c : Code} {H : Heap} {locs : List Loc} {Q : State → Prop}
variable {pc : Nat} {ls : Array Slot} {rest st0 : List Value} {a : Array Value} {A : Nat → Prop} {H0 : Heap}
theorem tp_I {x y : Int32} {cells slots : Nat} (h : x = y) (k : W p l e R s m args below meth c H locs cells slots Q (F0 m pc ls (.int y :: rest))) : W p l e R s m args below meth c H locs cells slots Q (F0 m pc ls (.int x :: rest)) := h ▸ k
theorem tp_J {x y : Int64} {cells slots : Nat} (h : x = y) (k : W p l e R s m args below meth c H locs cells slots Q (F0 m pc ls (.long y :: rest))) : W p l e R s m args below meth c H locs cells slots Q (F0 m pc ls (.long x :: rest)) := h ▸ k
theorem jv_irem {cc : ByteArray} {cells slots : Nat} (hexec : p.tables.exec = Jvm.exec) (hb : c.code = cc) {x y : Int32} (hdg : decode cc pc = .ok (.irem, 1)) (hne : ¬ y = 0) (k : W p l e R s m args below meth c H locs cells slots Q (F0 m (pc + 1) ls (.int (jrem x y) :: rest))) : W p l e R s m args below meth c H locs cells slots Q (F0 m pc ls (.int y :: .int x :: rest)) := lv_irem hexec hb hdg hne k
theorem jv_lrem {cc : ByteArray} {cells slots : Nat} (hexec : p.tables.exec = Jvm.exec) (hb : c.code = cc) {x y : Int64} (hdg : decode cc pc = .ok (.lrem, 1)) (hne : ¬ y = 0) (k : W p l e R s m args below meth c H locs cells slots Q (F0 m (pc + 1) ls (.long (jreml x y) :: rest))) : W p l e R s m args below meth c H locs cells slots Q (F0 m pc ls (.long y :: .long x :: rest)) := lv_lrem hexec hb hdg hne k
/-- behind a call of a method whose end is ct_Q -/
theorem ct_call {D : va_G} {w' : va_W} {v : Option Value} (hr : va_Run p l e R s m args below meth c H locs 0 0 0 0 (F0 m pc ls st0) rest (ct_Q D w' A v a) A) (hS : va_S A H0 H locs)
    (kk : ∀ (H1 : Heap) (locs1 : List Loc), va_P D vwCl w' H1 → va_S A H0 H1 locs1 → W p l e R s m args below meth c H1 locs1 0 0 Q (F0 m (pc + 3) ls (v.toList ++ rest))) : W p l e R s m args below meth c H locs 0 0 Q (F0 m pc ls st0) := by
  intro T hT X
  obtain ⟨v1, st₀, t, T', L, h0, X', hL, e1, e2, ⟨hv, hp, hz, hk⟩, st⟩ := hr T hT X
  cases hv
  rw [h0] at hz hk
  obtain ⟨t2, a1, b1⟩ := kk T'.heap (locs ++ L) (by rw [e1]; exact hp)
    ⟨Nat.le_trans hS.1 (by rw [e1]; exact hz), fun q h1 h2 => by rw [e1, hk q (Nat.lt_of_lt_of_le h1 hS.1) h2]; exact hS.2.1 q h1 h2, fun q hq => by
      rcases List.mem_append.mp hq with h | h
      · exact hS.2.2 q h
      · exact hL q h⟩ T' rfl X'
  exact ⟨t2, st t2 a1, b1⟩
/-- behind a call of a method that changes nothing -/
theorem rd_call {v : Option Value} {A1 : Nat → Prop} (hr : va_Run p l e R s m args below meth c H locs 0 0 0 0 (F0 m pc ls st0) rest (fun st o t => o = .returned v ∧ t.heap = st.heap) A1) (hf : ∀ q, ¬ A1 q)
    (kk : W p l e R s m args below meth c H locs 0 0 Q (F0 m (pc + 3) ls (v.toList ++ rest))) : W p l e R s m args below meth c H locs 0 0 Q (F0 m pc ls st0) := by
  intro T hT X
  obtain ⟨v1, st₀, t, T', L, h0, X', hL, e1, e2, ⟨hv, hh⟩, st⟩ := hr T hT X
  cases hv
  obtain ⟨t2, a1, b1⟩ := kk T' (by rw [e1, hh, h0]) (Stand.forget X' (fun q h => (hf _ (hL q h)).elim))
  exact ⟨t2, st t2 a1, b1⟩
end CT
end
section
/-! The world of the class: 46 cells. Rows 0 .. 19: their arrays at places 0 .. 19, the objects at 20 .. 39. 0 f; 1 .. 10 the ring's (wide, quotient, older, newer, derived, mates, product, moved, least, common); 11 .. 14 the splitter's (root, rest, power, shared); 15 .. 19 the parts. 40 Extension, 41 Ring, 42 Splitter, 43 parts, 44 counts, 45 the object itself. M: what the rows hold; E: the extension's fields; P: which row a part is; C: counts; N 0, N 1: count, found. -/
abbrev ra (ad : Nat → Nat) (i : Fin 20) : Nat := ad (20 + i.val)
abbrev aa (ad : Nat → Nat) (i : Fin 20) : Nat := ad i.val
def fup {β : Type} (f : Fin 20 → β) (i : Fin 20) (v : β) : Fin 20 → β := fun j => if j = i then v else f j
def cellC (cI cR : ClassId) (ad : Nat → Nat) (M : Fin 20 → Nat → Int32) (E : Nat → Int32) (P : Nat → Fin 20) (C N : Nat → Int32) : Nat → va_E := fun k =>
  if h : k < 20 then .inl (cI, 16, .inl (M ⟨k, h⟩))
  else if k < 40 then .inr (2, [.ref (ad (k - 20))])
  else if k = 40 then .inr (0, [.int (E 0), .int (E 1), .int (E 2), .int (E 3), .int (E 4), .int (E 5), .int (E 6), .int (E 7)])
  else if k = 41 then .inr (1, [.ref (ad 40), .ref (ra ad 1), .ref (ra ad 2), .ref (ra ad 3), .ref (ra ad 4), .ref (ra ad 5), .ref (ra ad 6), .ref (ra ad 7), .ref (ra ad 8), .ref (ra ad 9), .ref (ra ad 10)])
  else if k = 42 then .inr (3, [.ref (ad 43), .ref (ad 44), .int (N 0), .int (N 1), .ref (ra ad 11), .ref (ra ad 12), .ref (ra ad 13), .ref (ra ad 14)])
  else if k = 43 then .inl (cR, 5, .inr (.inr (.inr (.inr (fun i => some (ra ad (P i)))))))
  else if k = 44 then .inl (cI, 5, .inl C)
  else .inr (4, [.ref (ra ad 0), .ref (ad 41), .ref (ad 42)])
section WC
variable {D : va_G} {H : Heap} {cI cR : ClassId} {ad : Nat → Nat} {M : Fin 20 → Nat → Int32} {E : Nat → Int32} {P : Nat → Fin 20} {C N : Nat → Int32}
theorem ra_lt (i : Fin 20) : 20 + i.val < 46 := by omega
theorem cl_arr (i : Fin 20) : cellC cI cR ad M E P C N i.val = .inl (cI, 16, .inl (M i)) := by simp [cellC, i.isLt]
theorem cl_row (i : Fin 20) : cellC cI cR ad M E P C N (20 + i.val) = .inr (2, [.ref (aa ad i)]) := by
  have h1 : ¬ 20 + i.val < 20 := by omega
  have h2 : 20 + i.val < 40 := by omega
  simp [cellC, h2]
theorem cc_arr (i : Fin 20) : (ww 46 ad (cellC cI cR ad M E P C N))[i.val]? = some (aa ad i, .inl (cI, 16, .inl (M i))) := by rw [ww_get (by omega), cl_arr]
theorem cc_row (i : Fin 20) : (ww 46 ad (cellC cI cR ad M E P C N))[20 + i.val]? = some (ra ad i, .inr (2, [.ref (aa ad i)])) := by rw [ww_get (by omega), cl_row]
theorem cc_ext : (ww 46 ad (cellC cI cR ad M E P C N))[40]? = some (ad 40, .inr (0, [.int (E 0), .int (E 1), .int (E 2), .int (E 3), .int (E 4), .int (E 5), .int (E 6), .int (E 7)])) := ww_get (by decide)
theorem cc_ring : (ww 46 ad (cellC cI cR ad M E P C N))[41]? = some (ad 41, .inr (1, [.ref (ad 40), .ref (ra ad 1), .ref (ra ad 2), .ref (ra ad 3), .ref (ra ad 4), .ref (ra ad 5), .ref (ra ad 6), .ref (ra ad 7), .ref (ra ad 8), .ref (ra ad 9), .ref (ra ad 10)])) := ww_get (by decide)
theorem cc_spl : (ww 46 ad (cellC cI cR ad M E P C N))[42]? = some (ad 42, .inr (3, [.ref (ad 43), .ref (ad 44), .int (N 0), .int (N 1), .ref (ra ad 11), .ref (ra ad 12), .ref (ra ad 13), .ref (ra ad 14)])) := ww_get (by decide)
theorem cc_parts : (ww 46 ad (cellC cI cR ad M E P C N))[43]? = some (ad 43, .inl (cR, 5, .inr (.inr (.inr (.inr (fun i => some (ra ad (P i)))))))) := ww_get (by decide)
theorem cc_counts : (ww 46 ad (cellC cI cR ad M E P C N))[44]? = some (ad 44, .inl (cI, 5, .inl C)) := ww_get (by decide)
theorem cc_main : (ww 46 ad (cellC cI cR ad M E P C N))[45]? = some (ad 45, .inr (4, [.ref (ra ad 0), .ref (ad 41), .ref (ad 42)])) := ww_get (by decide)
theorem cs_M (i : Fin 20) {v : Nat → Int32} (h : va_P D vwCl ((ww 46 ad (cellC cI cR ad M E P C N)).set i.val (aa ad i, .inl (cI, 16, .inl v))) H) : va_P D vwCl (ww 46 ad (cellC cI cR ad (fup M i v) E P C N)) H := by
  rw [ww_set (c' := cellC cI cR ad (fup M i v) E P C N)] at h
  · exact h
  · rw [cl_arr]; simp [fup]
  · intro j hj
    by_cases h2 : j < 20
    · have h3 : (⟨j, h2⟩ : Fin 20) ≠ i := fun e => hj (by rw [← e])
      simp [cellC, h2, fup, h3]
    · simp [cellC, h2]
theorem cs_of {c' : Nat → va_E} {k : Nat} {e : va_E} (h : va_P D vwCl ((ww 46 ad (cellC cI cR ad M E P C N)).set k (ad k, e)) H) (h1 : c' k = e) (h2 : ∀ j, j ≠ k → c' j = cellC cI cR ad M E P C N j) : va_P D vwCl (ww 46 ad c') H := by
  rw [ww_set h1 h2] at h
  exact h
theorem ce_off {E' : Nat → Int32} : ∀ j, j ≠ 40 → cellC cI cR ad M E' P C N j = cellC cI cR ad M E P C N j := by
  intro j hj
  simp [cellC, hj]
theorem cn_off {N' : Nat → Int32} : ∀ j, j ≠ 42 → cellC cI cR ad M E P C N' j = cellC cI cR ad M E P C N j := by
  intro j hj
  simp [cellC, hj]
theorem cs_C {v : Nat → Int32} (h : va_P D vwCl ((ww 46 ad (cellC cI cR ad M E P C N)).set 44 (ad 44, .inl (cI, 5, .inl v))) H) : va_P D vwCl (ww 46 ad (cellC cI cR ad M E P v N)) H := cs_of h rfl (fun j hj => by simp [cellC, hj])
theorem cs_P {j : Nat} {r : Fin 20} (h : va_P D vwCl ((ww 46 ad (cellC cI cR ad M E P C N)).set 43 (ad 43, .inl (cR, 5, .inr (.inr (.inr (.inr (va_up (fun i => some (ra ad (P i))) j (some (ra ad r))))))))) H) : va_P D vwCl (ww 46 ad (cellC cI cR ad M E (va_up P j r) C N)) H := by
  refine cs_of h ?_ (fun k hk => by simp [cellC, hk])
  have e : va_up (fun i => some (ra ad (P i))) j (some (ra ad r)) = fun i => some (ra ad (va_up P j r i)) := by
    funext i
    by_cases hi : i = j <;> simp [va_up, hi]
  rw [e]
  rfl
theorem cs_E0 {v : Int32} (h : va_P D vwCl ((ww 46 ad (cellC cI cR ad M E P C N)).set 40 (ad 40, .inr (0, [.int (E 0), .int (E 1), .int (E 2), .int (E 3), .int (E 4), .int (E 5), .int (E 6), .int (E 7)].set 0 (.int v)))) H) : va_P D vwCl (ww 46 ad (cellC cI cR ad M (va_up E 0 v) P C N)) H := cs_of h rfl ce_off
theorem cs_E1 {v : Int32} (h : va_P D vwCl ((ww 46 ad (cellC cI cR ad M E P C N)).set 40 (ad 40, .inr (0, [.int (E 0), .int (E 1), .int (E 2), .int (E 3), .int (E 4), .int (E 5), .int (E 6), .int (E 7)].set 1 (.int v)))) H) : va_P D vwCl (ww 46 ad (cellC cI cR ad M (va_up E 1 v) P C N)) H := cs_of h rfl ce_off
theorem cs_E2 {v : Int32} (h : va_P D vwCl ((ww 46 ad (cellC cI cR ad M E P C N)).set 40 (ad 40, .inr (0, [.int (E 0), .int (E 1), .int (E 2), .int (E 3), .int (E 4), .int (E 5), .int (E 6), .int (E 7)].set 2 (.int v)))) H) : va_P D vwCl (ww 46 ad (cellC cI cR ad M (va_up E 2 v) P C N)) H := cs_of h rfl ce_off
theorem cs_E3 {v : Int32} (h : va_P D vwCl ((ww 46 ad (cellC cI cR ad M E P C N)).set 40 (ad 40, .inr (0, [.int (E 0), .int (E 1), .int (E 2), .int (E 3), .int (E 4), .int (E 5), .int (E 6), .int (E 7)].set 3 (.int v)))) H) : va_P D vwCl (ww 46 ad (cellC cI cR ad M (va_up E 3 v) P C N)) H := cs_of h rfl ce_off
theorem cs_E4 {v : Int32} (h : va_P D vwCl ((ww 46 ad (cellC cI cR ad M E P C N)).set 40 (ad 40, .inr (0, [.int (E 0), .int (E 1), .int (E 2), .int (E 3), .int (E 4), .int (E 5), .int (E 6), .int (E 7)].set 4 (.int v)))) H) : va_P D vwCl (ww 46 ad (cellC cI cR ad M (va_up E 4 v) P C N)) H := cs_of h rfl ce_off
theorem cs_E5 {v : Int32} (h : va_P D vwCl ((ww 46 ad (cellC cI cR ad M E P C N)).set 40 (ad 40, .inr (0, [.int (E 0), .int (E 1), .int (E 2), .int (E 3), .int (E 4), .int (E 5), .int (E 6), .int (E 7)].set 5 (.int v)))) H) : va_P D vwCl (ww 46 ad (cellC cI cR ad M (va_up E 5 v) P C N)) H := cs_of h rfl ce_off
theorem cs_E6 {v : Int32} (h : va_P D vwCl ((ww 46 ad (cellC cI cR ad M E P C N)).set 40 (ad 40, .inr (0, [.int (E 0), .int (E 1), .int (E 2), .int (E 3), .int (E 4), .int (E 5), .int (E 6), .int (E 7)].set 6 (.int v)))) H) : va_P D vwCl (ww 46 ad (cellC cI cR ad M (va_up E 6 v) P C N)) H := cs_of h rfl ce_off
theorem cs_E7 {v : Int32} (h : va_P D vwCl ((ww 46 ad (cellC cI cR ad M E P C N)).set 40 (ad 40, .inr (0, [.int (E 0), .int (E 1), .int (E 2), .int (E 3), .int (E 4), .int (E 5), .int (E 6), .int (E 7)].set 7 (.int v)))) H) : va_P D vwCl (ww 46 ad (cellC cI cR ad M (va_up E 7 v) P C N)) H := cs_of h rfl ce_off
theorem cs_N0 {v : Int32} (h : va_P D vwCl ((ww 46 ad (cellC cI cR ad M E P C N)).set 42 (ad 42, .inr (3, [.ref (ad 43), .ref (ad 44), .int (N 0), .int (N 1), .ref (ra ad 11), .ref (ra ad 12), .ref (ra ad 13), .ref (ra ad 14)].set 2 (.int v)))) H) : va_P D vwCl (ww 46 ad (cellC cI cR ad M E P C (va_up N 0 v))) H := cs_of h rfl cn_off
theorem cs_N1 {v : Int32} (h : va_P D vwCl ((ww 46 ad (cellC cI cR ad M E P C N)).set 42 (ad 42, .inr (3, [.ref (ad 43), .ref (ad 44), .int (N 0), .int (N 1), .ref (ra ad 11), .ref (ra ad 12), .ref (ra ad 13), .ref (ra ad 14)].set 3 (.int v)))) H) : va_P D vwCl (ww 46 ad (cellC cI cR ad M E P C (va_up N 1 v))) H := cs_of h rfl cn_off
end WC
/-- the words on nest mates' fields -/
def nw0 : List Cond := [.fieldLinkNest RX1 109 "NumberFieldFactors$Extension" "degree" "I" "NumberFieldFactors", .fieldLinkNest RX4 97 "NumberFieldFactors$Extension" "size" "I" "NumberFieldFactors", .fieldLinkNest RX1 81 "NumberFieldFactors$Extension" "size" "I" "NumberFieldFactors", .fieldLinkNest RX3 95 "NumberFieldFactors$Extension" "size" "I" "NumberFieldFactors", .fieldLinkNest RX1 117 "NumberFieldFactors$Extension" "t" "I" "NumberFieldFactors", .fieldLinkNest RX4 37 "NumberFieldFactors$Ring" "extension" "LNumberFieldFactors$Extension;" "NumberFieldFactors", .fieldLinkNest RX3 91 "NumberFieldFactors$Ring" "extension" "LNumberFieldFactors$Extension;" "NumberFieldFactors", .fieldLinkNest RX3 85 "NumberFieldFactors$Ring" "quotient" "LNumberFieldFactors$Row;" "NumberFieldFactors", .fieldLinkNest RX4 150 "NumberFieldFactors$Splitter" "count" "I" "NumberFieldFactors", .fieldLinkNest RX4 143 "NumberFieldFactors$Splitter" "root" "LNumberFieldFactors$Row;" "NumberFieldFactors"]
end
section
def f_X2_get (M : Fin 20 → Nat → Int32) (r0 : Fin 20) (p0 : Int32) : Option (Int32) :=
  if p0 < 0 then
    some 0
  else
    if 16 ≤ p0 then
      some 0
    else
      if p0 < 0 ∨ 16 ≤ (p0).toNatClampNeg then none else
      some (M r0 (p0).toNatClampNeg)
set_option maxHeartbeats 4000000 in
set_option maxRecDepth 100000 in
theorem C_X2_get (l : Launch) (D : va_G) (tys : List (ClassId × FieldType)) (nw : List Cond) (hn : nw.all nw_kind = true) (hnw : ∀ w ∈ nw0, w ∈ nw) {ad : Nat → Nat} (hj : ww_inj 46 ad) {cI : ClassId} {cR : ClassId} (htI : tys[0]? = some (cI, .int)) (htR : tys[1]? = some (cR, .object RX2)) {M : Fin 20 → Nat → Int32} {E : Nat → Int32} {P : Nat → Fin 20} {C : Nat → Int32} {N : Nat → Int32} {r0 : Fin 20} {p0 : Int32} {res : Int32} (hf : f_X2_get M r0 p0 = some res) :
    Met l yX2_get wsX2_get ({ frames := 0, cells := 0, slots := 0, locals := 0 }) (va_Pc [.ref (ra ad r0), .int p0] (ws_B D tys nw (ww 46 ad (cellC cI cR ad M E P C N)))) (ct_Q D (ww 46 ad (cellC cI cR ad M E P C N)) (ww_A 46 ad) (some (.int res))) 0 0 (ww_A 46 ad) := by
  refine Met.ofW (cc := cX2_get) (maxL := 2) (ret := (some .int)) (by decide) rfl ?_
  intro p e s m args below meth c s₁ B hml hv
  obtain ⟨rfl, hP, hK, hN⟩ := hv
  have hx := B.exec
  have hb := B.bytes
  have hr := B.returns
  have hts := atoms_spec (ws := wsX2_get) B.pre
  have hown : s.vm.findClass RX2 = some m.cls := findClass_of_methodNamed B.named
  have hlocks := B.notSynchronized
  have hS : va_S (ww_A 46 ad) s.heap s.heap [] := va_S.rf
  have hl := lv_entry ([.ref (ra ad r0), .int p0]) (n := 2) (Nat.le_of_ble_eq_true rfl)
  rw [lg_entry_eq]
  generalize (lg_sl ([.ref (ra ad r0), .int p0]) ++ List.replicate (2 - (lg_sl ([.ref (ra ad r0), .int p0])).length) Slot.unset).toArray = ls at hl ⊢
  have hl : lv_has ls 2 [(0, .ref (ra ad r0)), (1, .int p0)] := hl
  unfold f_X2_get at hf
  refine lv_iload_n hx hb dX2_get_0 rfl (lv_at hl 1 rfl) ?_
  refine lv_if_lt (tgt := 22) hx hb dX2_get_1 (by decide) (fun c1 => ?_) (fun c1 => ?_)
  · rw [if_pos c1] at hf
    refine lv_iconst (v := 0) hx hb dX2_get_22 (by decide) ?_
    obtain rfl := Option.some.inj hf
    exact W.iret (v := 0) hx hb hr (fun t ht hW => ⟨rfl, by rw [ht]; exact hP, hS.F ht⟩) hS.2.2 dX2_get_23
  · rw [if_neg c1] at hf
    refine lv_iload_n hx hb dX2_get_4 rfl (lv_at hl 1 rfl) ?_
    refine lv_aload_n hx hb dX2_get_5 rfl (lv_at hl 0 rfl) ?_
    refine va_get (ci := 2) (v := .ref (aa ad r0)) (C := RX2) (T := TX2) (N := 1) hx hb hts (by decide +kernel) hown hK hP (20 + (r0).val) (cc_row r0) rfl 0 (by decide) (hts (.fieldLink RX2 9 "NumberFieldFactors$Row" "elements" "[I") (by decide +kernel)) (fun _ h9 => h9) rfl dX2_get_6 ?_
    refine va_alen (v := 16) hx hb hK hP (r0).val 0 (cc_arr r0) htI rfl dX2_get_9 ?_
    refine lv_icmp_ge (tgt := 22) hx hb dX2_get_10 (by decide) (fun c2 => ?_) (fun c2 => ?_)
    · rw [if_pos c2] at hf
      refine lv_iconst (v := 0) hx hb dX2_get_22 (by decide) ?_
      obtain rfl := Option.some.inj hf
      exact W.iret (v := 0) hx hb hr (fun t ht hW => ⟨rfl, by rw [ht]; exact hP, hS.F ht⟩) hS.2.2 dX2_get_23
    · rw [if_neg c2] at hf
      refine lv_aload_n hx hb dX2_get_13 rfl (lv_at hl 0 rfl) ?_
      refine va_get (ci := 2) (v := .ref (aa ad r0)) (C := RX2) (T := TX2) (N := 1) hx hb hts (by decide +kernel) hown hK hP (20 + (r0).val) (cc_row r0) rfl 0 (by decide) (hts (.fieldLink RX2 9 "NumberFieldFactors$Row" "elements" "[I") (by decide +kernel)) (fun _ h9 => h9) rfl dX2_get_14 ?_
      refine lv_iload_n hx hb dX2_get_17 rfl (lv_at hl 1 rfl) ?_
      by_cases b3 : p0 < 0 ∨ 16 ≤ (p0).toNatClampNeg
      · rw [if_pos b3] at hf; cases hf
      rw [if_neg b3] at hf
      refine va_iald hx hb hK hP (r0).val 0 (cc_arr r0) htI b3 dX2_get_18 ?_
      refine lv_goto (tgt := 23) hx hb dX2_get_19 (by decide) ?_
      obtain rfl := Option.some.inj hf
      exact W.iret (v := M r0 (p0).toNatClampNeg) hx hb hr (fun t ht hW => ⟨rfl, by rw [ht]; exact hP, hS.F ht⟩) hS.2.2 dX2_get_23
def f_X2_set (M : Fin 20 → Nat → Int32) (r0 : Fin 20) (p0 : Int32) (p1 : Int32) : Option ((Fin 20 → Nat → Int32)) :=
  if p0 < 0 then
    some M
  else
    if 16 ≤ p0 then
      some M
    else
      if p0 < 0 ∨ 16 ≤ (p0).toNatClampNeg then none else
      some (fup M r0 (upd (M r0) (p0).toNatClampNeg p1))
set_option maxHeartbeats 4000000 in
set_option maxRecDepth 100000 in
theorem C_X2_set (l : Launch) (D : va_G) (tys : List (ClassId × FieldType)) (nw : List Cond) (hn : nw.all nw_kind = true) (hnw : ∀ w ∈ nw0, w ∈ nw) {ad : Nat → Nat} (hj : ww_inj 46 ad) {cI : ClassId} {cR : ClassId} (htI : tys[0]? = some (cI, .int)) (htR : tys[1]? = some (cR, .object RX2)) {M : Fin 20 → Nat → Int32} {E : Nat → Int32} {P : Nat → Fin 20} {C : Nat → Int32} {N : Nat → Int32} {r0 : Fin 20} {p0 : Int32} {p1 : Int32} {res : (Fin 20 → Nat → Int32)} (hf : f_X2_set M r0 p0 p1 = some res) :
    Met l yX2_set wsX2_set ({ frames := 0, cells := 0, slots := 0, locals := 0 }) (va_Pc [.ref (ra ad r0), .int p0, .int p1] (ws_B D tys nw (ww 46 ad (cellC cI cR ad M E P C N)))) (ct_Q D (ww 46 ad (cellC cI cR ad res E P C N)) (ww_A 46 ad) (none)) 0 0 (ww_A 46 ad) := by
  refine Met.ofW (cc := cX2_set) (maxL := 3) (ret := none) (by decide) rfl ?_
  intro p e s m args below meth c s₁ B hml hv
  obtain ⟨rfl, hP, hK, hN⟩ := hv
  have hx := B.exec
  have hb := B.bytes
  have hr := B.returns
  have hts := atoms_spec (ws := wsX2_set) B.pre
  have hown : s.vm.findClass RX2 = some m.cls := findClass_of_methodNamed B.named
  have hlocks := B.notSynchronized
  have hS : va_S (ww_A 46 ad) s.heap s.heap [] := va_S.rf
  have hl := lv_entry ([.ref (ra ad r0), .int p0, .int p1]) (n := 3) (Nat.le_of_ble_eq_true rfl)
  rw [lg_entry_eq]
  generalize (lg_sl ([.ref (ra ad r0), .int p0, .int p1]) ++ List.replicate (3 - (lg_sl ([.ref (ra ad r0), .int p0, .int p1])).length) Slot.unset).toArray = ls at hl ⊢
  have hl : lv_has ls 3 [(0, .ref (ra ad r0)), (1, .int p0), (2, .int p1)] := hl
  unfold f_X2_set at hf
  refine lv_iload_n hx hb dX2_set_0 rfl (lv_at hl 1 rfl) ?_
  refine lv_if_lt (tgt := 20) hx hb dX2_set_1 (by decide) (fun c1 => ?_) (fun c1 => ?_)
  · rw [if_pos c1] at hf
    obtain rfl := Option.some.inj hf
    exact W.vret hx hb hr (fun t ht hW => ⟨rfl, by rw [ht]; exact hP, hS.F ht⟩) hS.2.2 dX2_set_20
  · rw [if_neg c1] at hf
    refine lv_iload_n hx hb dX2_set_4 rfl (lv_at hl 1 rfl) ?_
    refine lv_aload_n hx hb dX2_set_5 rfl (lv_at hl 0 rfl) ?_
    refine va_get (ci := 2) (v := .ref (aa ad r0)) (C := RX2) (T := TX2) (N := 1) hx hb hts (by decide +kernel) hown hK hP (20 + (r0).val) (cc_row r0) rfl 0 (by decide) (hts (.fieldLink RX2 9 "NumberFieldFactors$Row" "elements" "[I") (by decide +kernel)) (fun _ h9 => h9) rfl dX2_set_6 ?_
    refine va_alen (v := 16) hx hb hK hP (r0).val 0 (cc_arr r0) htI rfl dX2_set_9 ?_
    refine lv_icmp_ge (tgt := 20) hx hb dX2_set_10 (by decide) (fun c2 => ?_) (fun c2 => ?_)
    · rw [if_pos c2] at hf
      obtain rfl := Option.some.inj hf
      exact W.vret hx hb hr (fun t ht hW => ⟨rfl, by rw [ht]; exact hP, hS.F ht⟩) hS.2.2 dX2_set_20
    · rw [if_neg c2] at hf
      refine lv_aload_n hx hb dX2_set_13 rfl (lv_at hl 0 rfl) ?_
      refine va_get (ci := 2) (v := .ref (aa ad r0)) (C := RX2) (T := TX2) (N := 1) hx hb hts (by decide +kernel) hown hK hP (20 + (r0).val) (cc_row r0) rfl 0 (by decide) (hts (.fieldLink RX2 9 "NumberFieldFactors$Row" "elements" "[I") (by decide +kernel)) (fun _ h9 => h9) rfl dX2_set_14 ?_
      refine lv_iload_n hx hb dX2_set_17 rfl (lv_at hl 1 rfl) ?_
      refine lv_iload_n hx hb dX2_set_18 rfl (lv_at hl 2 rfl) ?_
      by_cases b3 : p0 < 0 ∨ 16 ≤ (p0).toNatClampNeg
      · rw [if_pos b3] at hf; cases hf
      rw [if_neg b3] at hf
      refine va_iast hx hb hK hP (ww_D hj) hS (r0).val 0 (cc_arr r0) htI b3 dX2_set_19 (fun H locs hP hD hS => ?_)
      have hP := cs_M r0 hP
      obtain rfl := Option.some.inj hf
      exact W.vret hx hb hr (fun t ht hW => ⟨rfl, by rw [ht]; exact hP, hS.F ht⟩) hS.2.2 dX2_set_20
def f_X2_degree_l8 (k8 : Int32 → Option (Int32)) (fu : Nat) (M : Fin 20 → Nat → Int32) (x0 : Fin 20) : Nat → Int32 → Option (Int32)
  | 0, _ => none
  | n + 1, x1 =>
    if x1 < 0 then
      k8 x1
    else
      if x1 < 0 ∨ 16 ≤ (x1).toNatClampNeg then none else
      if (M x0 (x1).toNatClampNeg) = 0 then
        f_X2_degree_l8 k8 fu M x0 n (x1 + (-1))
      else
        k8 x1
def f_X2_degree (fu : Nat) (M : Fin 20 → Nat → Int32) (r0 : Fin 20) : Option (Int32) :=
  nm (16 - 1) (fun v1 =>
  f_X2_degree_l8 (fun y5 =>
    some y5) fu M r0 fu v1)
set_option maxHeartbeats 4000000 in
set_option maxRecDepth 100000 in
theorem C_X2_degree (l : Launch) (D : va_G) (tys : List (ClassId × FieldType)) (nw : List Cond) (hn : nw.all nw_kind = true) (hnw : ∀ w ∈ nw0, w ∈ nw) {ad : Nat → Nat} (hj : ww_inj 46 ad) {cI : ClassId} {cR : ClassId} (htI : tys[0]? = some (cI, .int)) (htR : tys[1]? = some (cR, .object RX2)) {fu : Nat} {M : Fin 20 → Nat → Int32} {E : Nat → Int32} {P : Nat → Fin 20} {C : Nat → Int32} {N : Nat → Int32} {r0 : Fin 20} {res : Int32} (hf : f_X2_degree fu M r0 = some res) :
    Met l yX2_degree wsX2_degree ({ frames := 0, cells := 0, slots := 0, locals := 0 }) (va_Pc [.ref (ra ad r0)] (ws_B D tys nw (ww 46 ad (cellC cI cR ad M E P C N)))) (ct_Q D (ww 46 ad (cellC cI cR ad M E P C N)) (ww_A 46 ad) (some (.int res))) 0 0 (ww_A 46 ad) := by
  refine Met.ofW (cc := cX2_degree) (maxL := 2) (ret := (some .int)) (by decide) rfl ?_
  intro p e s m args below meth c s₁ B hml hv
  obtain ⟨rfl, hP, hK, hN⟩ := hv
  have hx := B.exec
  have hb := B.bytes
  have hr := B.returns
  have hts := atoms_spec (ws := wsX2_degree) B.pre
  have hown : s.vm.findClass RX2 = some m.cls := findClass_of_methodNamed B.named
  have hlocks := B.notSynchronized
  have hS : va_S (ww_A 46 ad) s.heap s.heap [] := va_S.rf
  have hl := lv_entry ([.ref (ra ad r0)]) (n := 2) (Nat.le_of_ble_eq_true rfl)
  rw [lg_entry_eq]
  generalize (lg_sl ([.ref (ra ad r0)]) ++ List.replicate (2 - (lg_sl ([.ref (ra ad r0)])).length) Slot.unset).toArray = ls at hl ⊢
  have hl : lv_has ls 2 [(0, .ref (ra ad r0))] := hl
  have L8 : ∀ (x0 : Fin 20) (k8 : Int32 → Option (Int32)), (∀ (x1 : Int32) (H : Heap) (locs : List Loc) (ls : Array Slot), va_P D vwCl (ww 46 ad (cellC cI cR ad M E P C N)) H → va_S (ww_A 46 ad) s.heap H locs → lv_has ls 2 [(0, .ref (ra ad x0)), (1, .int x1)] →  k8 x1 = some res → W p l e (headSpec wsX2_degree { frames := 0, cells := 0, slots := 0, locals := 0 }).room s m [.ref (ra ad r0)].toArray below meth c H locs 0 0 (MQ below (ct_Q D (ww 46 ad (cellC cI cR ad M E P C N)) (ww_A 46 ad) (some (.int res))) [.ref (ra ad r0)].toArray s 0 0 (ww_A 46 ad)) (F0 m 27 ls [])) → ∀ (n : Nat) (x1 : Int32) (H : Heap) (locs : List Loc) (ls : Array Slot), va_P D vwCl (ww 46 ad (cellC cI cR ad M E P C N)) H → va_S (ww_A 46 ad) s.heap H locs → lv_has ls 2 [(0, .ref (ra ad x0)), (1, .int x1)] →  f_X2_degree_l8 k8 fu M x0 n x1 = some res → W p l e (headSpec wsX2_degree { frames := 0, cells := 0, slots := 0, locals := 0 }).room s m [.ref (ra ad r0)].toArray below meth c H locs 0 0 (MQ below (ct_Q D (ww 46 ad (cellC cI cR ad M E P C N)) (ww_A 46 ad) (some (.int res))) [.ref (ra ad r0)].toArray s 0 0 (ww_A 46 ad)) (F0 m 8 ls []) := by
    intro x0 k8 hk_8 n
    induction n with
    | zero => intro x1 H locs ls hP hS hl hf; rw [f_X2_degree_l8] at hf; cases hf
    | succ n ih =>
      intro x1 H locs ls hP hS hl hf
      rw [f_X2_degree_l8] at hf
      refine lv_iload_n hx hb dX2_degree_8 rfl (lv_at hl 1 rfl) ?_
      refine lv_if_lt (tgt := 27) hx hb dX2_degree_9 (by decide) (fun c2 => ?_) (fun c2 => ?_)
      · rw [if_pos c2] at hf
        exact hk_8 x1 _ _ _ hP hS (lv_sub hl [0, 1] rfl) hf
      · rw [if_neg c2] at hf
        refine lv_aload_n hx hb dX2_degree_12 rfl (lv_at hl 0 rfl) ?_
        refine va_get (ci := 2) (v := .ref (aa ad x0)) (C := RX2) (T := TX2) (N := 1) hx hb hts (by decide +kernel) hown hK hP (20 + (x0).val) (cc_row x0) rfl 0 (by decide) (hts (.fieldLink RX2 9 "NumberFieldFactors$Row" "elements" "[I") (by decide +kernel)) (fun _ h9 => h9) rfl dX2_degree_13 ?_
        refine lv_iload_n hx hb dX2_degree_16 rfl (lv_at hl 1 rfl) ?_
        by_cases b3 : x1 < 0 ∨ 16 ≤ (x1).toNatClampNeg
        · rw [if_pos b3] at hf; cases hf
        rw [if_neg b3] at hf
        refine va_iald hx hb hK hP (x0).val 0 (cc_arr x0) htI b3 dX2_degree_17 ?_
        refine lv_if_ne (tgt := 27) hx hb dX2_degree_18 (by decide) (fun c4 => ?_) (fun c4 => ?_)
        · rw [if_neg c4] at hf
          exact hk_8 x1 _ _ _ hP hS (lv_sub hl [0, 1] rfl) hf
        · rw [if_pos c4] at hf
          refine lv_iinc (v := x1 + (-1)) (lv' := [(1, .int (x1 + (-1))), (0, .ref (ra ad x0))]) hx hb dX2_degree_21 hl (k := 1) rfl rfl (by decide) rfl (fun ls hl => ?_)
          refine lv_goto (tgt := 8) hx hb dX2_degree_24 (by decide) ?_
          exact ih (x1 + (-1)) _ _ _ hP hS (lv_sub hl [1, 0] rfl) hf
  unfold f_X2_degree at hf
  refine lv_aload_n hx hb dX2_degree_0 rfl (lv_at hl 0 rfl) ?_
  refine va_get (ci := 2) (v := .ref (aa ad r0)) (C := RX2) (T := TX2) (N := 1) hx hb hts (by decide +kernel) hown hK hP (20 + (r0).val) (cc_row r0) rfl 0 (by decide) (hts (.fieldLink RX2 9 "NumberFieldFactors$Row" "elements" "[I") (by decide +kernel)) (fun _ h9 => h9) rfl dX2_degree_1 ?_
  refine va_alen (v := 16) hx hb hK hP (r0).val 0 (cc_arr r0) htI rfl dX2_degree_4 ?_
  refine lv_iconst (v := 1) hx hb dX2_degree_5 (by decide) ?_
  refine lv_isub hx hb dX2_degree_6 ?_
  obtain ⟨v1, ev1, hf⟩ := nm_elim hf
  try dsimp only at hf
  refine tp_I ev1 ?_
  refine lv_istore_n (lv' := [(1, .int v1), (0, .ref (ra ad r0))]) hx hb dX2_degree_7 rfl hl (by decide) rfl (fun ls hl => ?_)
  refine L8 r0 _ (fun y5 H locs ls hP hS hl hf => ?_) fu v1 _ _ _ hP hS (lv_sub hl [1, 0] rfl) hf
  try dsimp only at hf
  refine lv_iload_n hx hb dX2_degree_27 rfl (lv_at hl 1 rfl) ?_
  obtain rfl := Option.some.inj hf
  exact W.iret (v := y5) hx hb hr (fun t ht hW => ⟨rfl, by rw [ht]; exact hP, hS.F ht⟩) hS.2.2 dX2_degree_28
def f_X2_clear_l2 (k2 : Int32 → (Fin 20 → Nat → Int32) → Option ((Fin 20 → Nat → Int32))) (fu : Nat) (x0 : Fin 20) : Nat → Int32 → (Fin 20 → Nat → Int32) → Option ((Fin 20 → Nat → Int32))
  | 0, _, _ => none
  | n + 1, x1, M =>
    if 16 ≤ x1 then
      k2 x1 M
    else
      if x1 < 0 ∨ 16 ≤ (x1).toNatClampNeg then none else
      f_X2_clear_l2 k2 fu x0 n (x1 + 1) (fup M x0 (upd (M x0) (x1).toNatClampNeg 0))
def f_X2_clear (fu : Nat) (M : Fin 20 → Nat → Int32) (r0 : Fin 20) : Option ((Fin 20 → Nat → Int32)) :=
  f_X2_clear_l2 (fun y3 M4 =>
    some M4) fu r0 fu 0 M
set_option maxHeartbeats 4000000 in
set_option maxRecDepth 100000 in
theorem C_X2_clear (l : Launch) (D : va_G) (tys : List (ClassId × FieldType)) (nw : List Cond) (hn : nw.all nw_kind = true) (hnw : ∀ w ∈ nw0, w ∈ nw) {ad : Nat → Nat} (hj : ww_inj 46 ad) {cI : ClassId} {cR : ClassId} (htI : tys[0]? = some (cI, .int)) (htR : tys[1]? = some (cR, .object RX2)) {fu : Nat} {M : Fin 20 → Nat → Int32} {E : Nat → Int32} {P : Nat → Fin 20} {C : Nat → Int32} {N : Nat → Int32} {r0 : Fin 20} {res : (Fin 20 → Nat → Int32)} (hf : f_X2_clear fu M r0 = some res) :
    Met l yX2_clear wsX2_clear ({ frames := 0, cells := 0, slots := 0, locals := 0 }) (va_Pc [.ref (ra ad r0)] (ws_B D tys nw (ww 46 ad (cellC cI cR ad M E P C N)))) (ct_Q D (ww 46 ad (cellC cI cR ad res E P C N)) (ww_A 46 ad) (none)) 0 0 (ww_A 46 ad) := by
  refine Met.ofW (cc := cX2_clear) (maxL := 2) (ret := none) (by decide) rfl ?_
  intro p e s m args below meth c s₁ B hml hv
  obtain ⟨rfl, hP, hK, hN⟩ := hv
  have hx := B.exec
  have hb := B.bytes
  have hr := B.returns
  have hts := atoms_spec (ws := wsX2_clear) B.pre
  have hown : s.vm.findClass RX2 = some m.cls := findClass_of_methodNamed B.named
  have hlocks := B.notSynchronized
  have hS : va_S (ww_A 46 ad) s.heap s.heap [] := va_S.rf
  have hl := lv_entry ([.ref (ra ad r0)]) (n := 2) (Nat.le_of_ble_eq_true rfl)
  rw [lg_entry_eq]
  generalize (lg_sl ([.ref (ra ad r0)]) ++ List.replicate (2 - (lg_sl ([.ref (ra ad r0)])).length) Slot.unset).toArray = ls at hl ⊢
  have hl : lv_has ls 2 [(0, .ref (ra ad r0))] := hl
  have L2 : ∀ (x0 : Fin 20) (k2 : Int32 → (Fin 20 → Nat → Int32) → Option ((Fin 20 → Nat → Int32))), (∀ (x1 : Int32) (M : Fin 20 → Nat → Int32) (H : Heap) (locs : List Loc) (ls : Array Slot), va_P D vwCl (ww 46 ad (cellC cI cR ad M E P C N)) H → va_S (ww_A 46 ad) s.heap H locs → lv_has ls 2 [(0, .ref (ra ad x0)), (1, .int x1)] →  k2 x1 M = some res → W p l e (headSpec wsX2_clear { frames := 0, cells := 0, slots := 0, locals := 0 }).room s m [.ref (ra ad r0)].toArray below meth c H locs 0 0 (MQ below (ct_Q D (ww 46 ad (cellC cI cR ad res E P C N)) (ww_A 46 ad) (none)) [.ref (ra ad r0)].toArray s 0 0 (ww_A 46 ad)) (F0 m 24 ls [])) → ∀ (n : Nat) (x1 : Int32) (M : Fin 20 → Nat → Int32) (H : Heap) (locs : List Loc) (ls : Array Slot), va_P D vwCl (ww 46 ad (cellC cI cR ad M E P C N)) H → va_S (ww_A 46 ad) s.heap H locs → lv_has ls 2 [(0, .ref (ra ad x0)), (1, .int x1)] →  f_X2_clear_l2 k2 fu x0 n x1 M = some res → W p l e (headSpec wsX2_clear { frames := 0, cells := 0, slots := 0, locals := 0 }).room s m [.ref (ra ad r0)].toArray below meth c H locs 0 0 (MQ below (ct_Q D (ww 46 ad (cellC cI cR ad res E P C N)) (ww_A 46 ad) (none)) [.ref (ra ad r0)].toArray s 0 0 (ww_A 46 ad)) (F0 m 2 ls []) := by
    intro x0 k2 hk_2 n
    induction n with
    | zero => intro x1 M H locs ls hP hS hl hf; rw [f_X2_clear_l2] at hf; cases hf
    | succ n ih =>
      intro x1 M H locs ls hP hS hl hf
      rw [f_X2_clear_l2] at hf
      refine lv_iload_n hx hb dX2_clear_2 rfl (lv_at hl 1 rfl) ?_
      refine lv_aload_n hx hb dX2_clear_3 rfl (lv_at hl 0 rfl) ?_
      refine va_get (ci := 2) (v := .ref (aa ad x0)) (C := RX2) (T := TX2) (N := 1) hx hb hts (by decide +kernel) hown hK hP (20 + (x0).val) (cc_row x0) rfl 0 (by decide) (hts (.fieldLink RX2 9 "NumberFieldFactors$Row" "elements" "[I") (by decide +kernel)) (fun _ h9 => h9) rfl dX2_clear_4 ?_
      refine va_alen (v := 16) hx hb hK hP (x0).val 0 (cc_arr x0) htI rfl dX2_clear_7 ?_
      refine lv_icmp_ge (tgt := 24) hx hb dX2_clear_8 (by decide) (fun c1 => ?_) (fun c1 => ?_)
      · rw [if_pos c1] at hf
        exact hk_2 x1 M _ _ _ hP hS (lv_sub hl [0, 1] rfl) hf
      · rw [if_neg c1] at hf
        refine lv_aload_n hx hb dX2_clear_11 rfl (lv_at hl 0 rfl) ?_
        refine va_get (ci := 2) (v := .ref (aa ad x0)) (C := RX2) (T := TX2) (N := 1) hx hb hts (by decide +kernel) hown hK hP (20 + (x0).val) (cc_row x0) rfl 0 (by decide) (hts (.fieldLink RX2 9 "NumberFieldFactors$Row" "elements" "[I") (by decide +kernel)) (fun _ h9 => h9) rfl dX2_clear_12 ?_
        refine lv_iload_n hx hb dX2_clear_15 rfl (lv_at hl 1 rfl) ?_
        refine lv_iconst (v := 0) hx hb dX2_clear_16 (by decide) ?_
        by_cases b2 : x1 < 0 ∨ 16 ≤ (x1).toNatClampNeg
        · rw [if_pos b2] at hf; cases hf
        rw [if_neg b2] at hf
        refine va_iast hx hb hK hP (ww_D hj) hS (x0).val 0 (cc_arr x0) htI b2 dX2_clear_17 (fun H locs hP hD hS => ?_)
        have hP := cs_M x0 hP
        refine lv_iinc (v := x1 + 1) (lv' := [(1, .int (x1 + 1)), (0, .ref (ra ad x0))]) hx hb dX2_clear_18 hl (k := 1) rfl rfl (by decide) rfl (fun ls hl => ?_)
        refine lv_goto (tgt := 2) hx hb dX2_clear_21 (by decide) ?_
        exact ih (x1 + 1) (fup M x0 (upd (M x0) (x1).toNatClampNeg 0)) _ _ _ hP hS (lv_sub hl [1, 0] rfl) hf
  unfold f_X2_clear at hf
  refine lv_iconst (v := 0) hx hb dX2_clear_0 (by decide) ?_
  refine lv_istore_n (lv' := [(1, .int 0), (0, .ref (ra ad r0))]) hx hb dX2_clear_1 rfl hl (by decide) rfl (fun ls hl => ?_)
  refine L2 r0 _ (fun y3 M4 H locs ls hP hS hl hf => ?_) fu 0 M _ _ _ hP hS (lv_sub hl [1, 0] rfl) hf
  try dsimp only at hf
  obtain rfl := Option.some.inj hf
  exact W.vret hx hb hr (fun t ht hW => ⟨rfl, by rw [ht]; exact hP, hS.F ht⟩) hS.2.2 dX2_clear_24
def f_X2_copy_l2 (k2 : Int32 → (Fin 20 → Nat → Int32) → Option ((Fin 20 → Nat → Int32))) (fu : Nat) (x0 : Fin 20) (x1 : Fin 20) : Nat → Int32 → (Fin 20 → Nat → Int32) → Option ((Fin 20 → Nat → Int32))
  | 0, _, _ => none
  | n + 1, x2, M =>
    if 16 ≤ x2 then
      k2 x2 M
    else
      (f_X2_get M x1 x2).bind (fun u2 =>
      if x2 < 0 ∨ 16 ≤ (x2).toNatClampNeg then none else
      f_X2_copy_l2 k2 fu x0 x1 n (x2 + 1) (fup M x0 (upd (M x0) (x2).toNatClampNeg u2)))
def f_X2_copy (fu : Nat) (M : Fin 20 → Nat → Int32) (r0 : Fin 20) (p0 : Fin 20) : Option ((Fin 20 → Nat → Int32)) :=
  f_X2_copy_l2 (fun y5 M6 =>
    some M6) fu r0 p0 fu 0 M
set_option maxHeartbeats 4000000 in
set_option maxRecDepth 100000 in
theorem C_X2_copy (l : Launch) (D : va_G) (tys : List (ClassId × FieldType)) (nw : List Cond) (hn : nw.all nw_kind = true) (hnw : ∀ w ∈ nw0, w ∈ nw) {ad : Nat → Nat} (hj : ww_inj 46 ad) {cI : ClassId} {cR : ClassId} (htI : tys[0]? = some (cI, .int)) (htR : tys[1]? = some (cR, .object RX2)) {fu : Nat} {M : Fin 20 → Nat → Int32} {E : Nat → Int32} {P : Nat → Fin 20} {C : Nat → Int32} {N : Nat → Int32} {r0 : Fin 20} {p0 : Fin 20} {res : (Fin 20 → Nat → Int32)} (hf : f_X2_copy fu M r0 p0 = some res) :
    Met l yX2_copy wsX2_copy ({ frames := 1, cells := 0, slots := 0, locals := 21 }) (va_Pc [.ref (ra ad r0), .ref (ra ad p0)] (ws_B D tys nw (ww 46 ad (cellC cI cR ad M E P C N)))) (ct_Q D (ww 46 ad (cellC cI cR ad res E P C N)) (ww_A 46 ad) (none)) 0 0 (ww_A 46 ad) := by
  refine Met.ofW (cc := cX2_copy) (maxL := 3) (ret := none) (by decide) rfl ?_
  intro p e s m args below meth c s₁ B hml hv
  obtain ⟨rfl, hP, hK, hN⟩ := hv
  have hx := B.exec
  have hb := B.bytes
  have hr := B.returns
  have hts := atoms_spec (ws := wsX2_copy) B.pre
  have hown : s.vm.findClass RX2 = some m.cls := findClass_of_methodNamed B.named
  have hlocks := B.notSynchronized
  have hS : va_S (ww_A 46 ad) s.heap s.heap [] := va_S.rf
  have hl := lv_entry ([.ref (ra ad r0), .ref (ra ad p0)]) (n := 3) (Nat.le_of_ble_eq_true rfl)
  rw [lg_entry_eq]
  generalize (lg_sl ([.ref (ra ad r0), .ref (ra ad p0)]) ++ List.replicate (3 - (lg_sl ([.ref (ra ad r0), .ref (ra ad p0)])).length) Slot.unset).toArray = ls at hl ⊢
  have hl : lv_has ls 3 [(0, .ref (ra ad r0)), (1, .ref (ra ad p0))] := hl
  have L2 : ∀ (x0 : Fin 20) (x1 : Fin 20) (k2 : Int32 → (Fin 20 → Nat → Int32) → Option ((Fin 20 → Nat → Int32))), (∀ (x2 : Int32) (M : Fin 20 → Nat → Int32) (H : Heap) (locs : List Loc) (ls : Array Slot), va_P D vwCl (ww 46 ad (cellC cI cR ad M E P C N)) H → va_S (ww_A 46 ad) s.heap H locs → lv_has ls 3 [(0, .ref (ra ad x0)), (1, .ref (ra ad x1)), (2, .int x2)] →  k2 x2 M = some res → W p l e (headSpec wsX2_copy { frames := 1, cells := 0, slots := 0, locals := 21 }).room s m [.ref (ra ad r0), .ref (ra ad p0)].toArray below meth c H locs 0 0 (MQ below (ct_Q D (ww 46 ad (cellC cI cR ad res E P C N)) (ww_A 46 ad) (none)) [.ref (ra ad r0), .ref (ra ad p0)].toArray s 0 0 (ww_A 46 ad)) (F0 m 28 ls [])) → ∀ (n : Nat) (x2 : Int32) (M : Fin 20 → Nat → Int32) (H : Heap) (locs : List Loc) (ls : Array Slot), va_P D vwCl (ww 46 ad (cellC cI cR ad M E P C N)) H → va_S (ww_A 46 ad) s.heap H locs → lv_has ls 3 [(0, .ref (ra ad x0)), (1, .ref (ra ad x1)), (2, .int x2)] →  f_X2_copy_l2 k2 fu x0 x1 n x2 M = some res → W p l e (headSpec wsX2_copy { frames := 1, cells := 0, slots := 0, locals := 21 }).room s m [.ref (ra ad r0), .ref (ra ad p0)].toArray below meth c H locs 0 0 (MQ below (ct_Q D (ww 46 ad (cellC cI cR ad res E P C N)) (ww_A 46 ad) (none)) [.ref (ra ad r0), .ref (ra ad p0)].toArray s 0 0 (ww_A 46 ad)) (F0 m 2 ls []) := by
    intro x0 x1 k2 hk_2 n
    induction n with
    | zero => intro x2 M H locs ls hP hS hl hf; rw [f_X2_copy_l2] at hf; cases hf
    | succ n ih =>
      intro x2 M H locs ls hP hS hl hf
      rw [f_X2_copy_l2] at hf
      refine lv_iload_n hx hb dX2_copy_2 rfl (lv_at hl 2 rfl) ?_
      refine lv_aload_n hx hb dX2_copy_3 rfl (lv_at hl 0 rfl) ?_
      refine va_get (ci := 2) (v := .ref (aa ad x0)) (C := RX2) (T := TX2) (N := 1) hx hb hts (by decide +kernel) hown hK hP (20 + (x0).val) (cc_row x0) rfl 0 (by decide) (hts (.fieldLink RX2 9 "NumberFieldFactors$Row" "elements" "[I") (by decide +kernel)) (fun _ h9 => h9) rfl dX2_copy_4 ?_
      refine va_alen (v := 16) hx hb hK hP (x0).val 0 (cc_arr x0) htI rfl dX2_copy_7 ?_
      refine lv_icmp_ge (tgt := 28) hx hb dX2_copy_8 (by decide) (fun c1 => ?_) (fun c1 => ?_)
      · rw [if_pos c1] at hf
        exact hk_2 x2 M _ _ _ hP hS (lv_sub hl [0, 1, 2] rfl) hf
      · rw [if_neg c1] at hf
        refine lv_aload_n hx hb dX2_copy_11 rfl (lv_at hl 0 rfl) ?_
        refine va_get (ci := 2) (v := .ref (aa ad x0)) (C := RX2) (T := TX2) (N := 1) hx hb hts (by decide +kernel) hown hK hP (20 + (x0).val) (cc_row x0) rfl 0 (by decide) (hts (.fieldLink RX2 9 "NumberFieldFactors$Row" "elements" "[I") (by decide +kernel)) (fun _ h9 => h9) rfl dX2_copy_12 ?_
        refine lv_iload_n hx hb dX2_copy_15 rfl (lv_at hl 2 rfl) ?_
        refine lv_aload_n hx hb dX2_copy_16 rfl (lv_at hl 1 rfl) ?_
        refine lv_iload_n hx hb dX2_copy_17 rfl (lv_at hl 2 rfl) ?_
        obtain ⟨u2, g3, hf⟩ := Option.bind_eq_some_iff.mp hf
        try dsimp only at hf
        refine ct_call (va_runV (As := [.int x2]) (rest := [.int x2, .ref (aa ad x0)]) ⟨hx, hb, hml, hown, hts⟩ (C_X2_get l D tys nw hn hnw hj htI htR (res := u2) g3) (cwV 1 hts gX2_copy_X2_get rfl rfl rfl (by decide +kernel) ⟨Nat.le_of_ble_eq_true rfl, Nat.le_of_ble_eq_true rfl⟩) (ct_preV hn hP hK hN (ci := 2) (k := (20 + (x1).val)) rfl (ra_lt x1) (cl_row x1)) rfl rfl hl.1 rfl (lv_room (Nat.le_of_ble_eq_true rfl)) dX2_copy_18 ⟨Nat.zero_le _, Nat.zero_le _⟩) hS (fun H locs hP hS => ?_)
        by_cases b4 : x2 < 0 ∨ 16 ≤ (x2).toNatClampNeg
        · rw [if_pos b4] at hf; cases hf
        rw [if_neg b4] at hf
        refine va_iast hx hb hK hP (ww_D hj) hS (x0).val 0 (cc_arr x0) htI b4 dX2_copy_21 (fun H locs hP hD hS => ?_)
        have hP := cs_M x0 hP
        refine lv_iinc (v := x2 + 1) (lv' := [(2, .int (x2 + 1)), (0, .ref (ra ad x0)), (1, .ref (ra ad x1))]) hx hb dX2_copy_22 hl (k := 2) rfl rfl (by decide) rfl (fun ls hl => ?_)
        refine lv_goto (tgt := 2) hx hb dX2_copy_25 (by decide) ?_
        exact ih (x2 + 1) (fup M x0 (upd (M x0) (x2).toNatClampNeg u2)) _ _ _ hP hS (lv_sub hl [1, 2, 0] rfl) hf
  unfold f_X2_copy at hf
  refine lv_iconst (v := 0) hx hb dX2_copy_0 (by decide) ?_
  refine lv_istore_n (lv' := [(2, .int 0), (0, .ref (ra ad r0)), (1, .ref (ra ad p0))]) hx hb dX2_copy_1 rfl hl (by decide) rfl (fun ls hl => ?_)
  refine L2 r0 p0 _ (fun y5 M6 H locs ls hP hS hl hf => ?_) fu 0 M _ _ _ hP hS (lv_sub hl [1, 2, 0] rfl) hf
  try dsimp only at hf
  obtain rfl := Option.some.inj hf
  exact W.vret hx hb hr (fun t ht hW => ⟨rfl, by rw [ht]; exact hP, hS.F ht⟩) hS.2.2 dX2_copy_28
def f_X2_becomeOne (fu : Nat) (M : Fin 20 → Nat → Int32) (r0 : Fin 20) : Option ((Fin 20 → Nat → Int32)) :=
  (f_X2_clear fu M r0).bind (fun u1 =>
  (f_X2_set u1 r0 0 1).bind (fun u3 =>
  some u3))
set_option maxHeartbeats 4000000 in
set_option maxRecDepth 100000 in
theorem C_X2_becomeOne (l : Launch) (D : va_G) (tys : List (ClassId × FieldType)) (nw : List Cond) (hn : nw.all nw_kind = true) (hnw : ∀ w ∈ nw0, w ∈ nw) {ad : Nat → Nat} (hj : ww_inj 46 ad) {cI : ClassId} {cR : ClassId} (htI : tys[0]? = some (cI, .int)) (htR : tys[1]? = some (cR, .object RX2)) {fu : Nat} {M : Fin 20 → Nat → Int32} {E : Nat → Int32} {P : Nat → Fin 20} {C : Nat → Int32} {N : Nat → Int32} {r0 : Fin 20} {res : (Fin 20 → Nat → Int32)} (hf : f_X2_becomeOne fu M r0 = some res) :
    Met l yX2_becomeOne wsX2_becomeOne ({ frames := 1, cells := 0, slots := 0, locals := 22 }) (va_Pc [.ref (ra ad r0)] (ws_B D tys nw (ww 46 ad (cellC cI cR ad M E P C N)))) (ct_Q D (ww 46 ad (cellC cI cR ad res E P C N)) (ww_A 46 ad) (none)) 0 0 (ww_A 46 ad) := by
  refine Met.ofW (cc := cX2_becomeOne) (maxL := 1) (ret := none) (by decide) rfl ?_
  intro p e s m args below meth c s₁ B hml hv
  obtain ⟨rfl, hP, hK, hN⟩ := hv
  have hx := B.exec
  have hb := B.bytes
  have hr := B.returns
  have hts := atoms_spec (ws := wsX2_becomeOne) B.pre
  have hown : s.vm.findClass RX2 = some m.cls := findClass_of_methodNamed B.named
  have hlocks := B.notSynchronized
  have hS : va_S (ww_A 46 ad) s.heap s.heap [] := va_S.rf
  have hl := lv_entry ([.ref (ra ad r0)]) (n := 1) (Nat.le_of_ble_eq_true rfl)
  rw [lg_entry_eq]
  generalize (lg_sl ([.ref (ra ad r0)]) ++ List.replicate (1 - (lg_sl ([.ref (ra ad r0)])).length) Slot.unset).toArray = ls at hl ⊢
  have hl : lv_has ls 1 [(0, .ref (ra ad r0))] := hl
  unfold f_X2_becomeOne at hf
  refine lv_aload_n hx hb dX2_becomeOne_0 rfl (lv_at hl 0 rfl) ?_
  obtain ⟨u1, g2, hf⟩ := Option.bind_eq_some_iff.mp hf
  try dsimp only at hf
  refine ct_call (va_runV (As := []) (rest := []) ⟨hx, hb, hml, hown, hts⟩ (C_X2_clear l D tys nw hn hnw hj htI htR (res := u1) g2) (cwV 0 hts gX2_becomeOne_X2_clear rfl rfl rfl (by decide +kernel) ⟨Nat.le_of_ble_eq_true rfl, Nat.le_of_ble_eq_true rfl⟩) (ct_preV hn hP hK hN (ci := 2) (k := (20 + (r0).val)) rfl (ra_lt r0) (cl_row r0)) rfl rfl hl.1 rfl (lv_room (Nat.le_of_ble_eq_true rfl)) dX2_becomeOne_1 ⟨Nat.zero_le _, Nat.zero_le _⟩) hS (fun H locs hP hS => ?_)
  refine lv_aload_n hx hb dX2_becomeOne_4 rfl (lv_at hl 0 rfl) ?_
  refine lv_iconst (v := 0) hx hb dX2_becomeOne_5 (by decide) ?_
  refine lv_iconst (v := 1) hx hb dX2_becomeOne_6 (by decide) ?_
  obtain ⟨u3, g4, hf⟩ := Option.bind_eq_some_iff.mp hf
  try dsimp only at hf
  refine ct_call (va_runV (As := [.int 0, .int 1]) (rest := []) ⟨hx, hb, hml, hown, hts⟩ (C_X2_set l D tys nw hn hnw hj htI htR (res := u3) g4) (cwV 2 hts gX2_becomeOne_X2_set rfl rfl rfl (by decide +kernel) ⟨Nat.le_of_ble_eq_true rfl, Nat.le_of_ble_eq_true rfl⟩) (ct_preV hn hP hK hN (ci := 2) (k := (20 + (r0).val)) rfl (ra_lt r0) (cl_row r0)) rfl rfl hl.1 rfl (lv_room (Nat.le_of_ble_eq_true rfl)) dX2_becomeOne_7 ⟨Nat.zero_le _, Nat.zero_le _⟩) hS (fun H locs hP hS => ?_)
  obtain rfl := Option.some.inj hf
  exact W.vret hx hb hr (fun t ht hW => ⟨rfl, by rw [ht]; exact hP, hS.F ht⟩) hS.2.2 dX2_becomeOne_10
def f_X2_isBefore_l29 (k29 : Int32 → Option (Int32)) (fu : Nat) (M : Fin 20 → Nat → Int32) (x0 : Fin 20) (x1 : Fin 20) (x2 : Int32) (x3 : Int32) : Nat → Int32 → Option (Int32)
  | 0, _ => none
  | n + 1, x4 =>
    if x4 < 0 then
      k29 x4
    else
      (f_X2_get M x0 x4).bind (fun u7 =>
      (f_X2_get M x1 x4).bind (fun u9 =>
      if u7 = u9 then
        f_X2_isBefore_l29 k29 fu M x0 x1 x2 x3 n (x4 + (-1))
      else
        (f_X2_get M x0 x4).bind (fun u12 =>
        (f_X2_get M x1 x4).bind (fun u14 =>
        if u14 ≤ u12 then
          some 0
        else
          some 1))))
def f_X2_isBefore (fu : Nat) (M : Fin 20 → Nat → Int32) (r0 : Fin 20) (p0 : Fin 20) : Option (Int32) :=
  (f_X2_degree fu M r0).bind (fun u1 =>
  (f_X2_degree fu M p0).bind (fun u3 =>
  if u1 = u3 then
    f_X2_isBefore_l29 (fun y17 =>
      some 0) fu M r0 p0 u1 u3 fu u1
  else
    if u3 ≤ u1 then
      some 0
    else
      some 1))
set_option maxHeartbeats 4000000 in
set_option maxRecDepth 100000 in
theorem C_X2_isBefore (l : Launch) (D : va_G) (tys : List (ClassId × FieldType)) (nw : List Cond) (hn : nw.all nw_kind = true) (hnw : ∀ w ∈ nw0, w ∈ nw) {ad : Nat → Nat} (hj : ww_inj 46 ad) {cI : ClassId} {cR : ClassId} (htI : tys[0]? = some (cI, .int)) (htR : tys[1]? = some (cR, .object RX2)) {fu : Nat} {M : Fin 20 → Nat → Int32} {E : Nat → Int32} {P : Nat → Fin 20} {C : Nat → Int32} {N : Nat → Int32} {r0 : Fin 20} {p0 : Fin 20} {res : Int32} (hf : f_X2_isBefore fu M r0 p0 = some res) :
    Met l yX2_isBefore wsX2_isBefore ({ frames := 1, cells := 0, slots := 0, locals := 21 }) (va_Pc [.ref (ra ad r0), .ref (ra ad p0)] (ws_B D tys nw (ww 46 ad (cellC cI cR ad M E P C N)))) (ct_Q D (ww 46 ad (cellC cI cR ad M E P C N)) (ww_A 46 ad) (some (.int res))) 0 0 (ww_A 46 ad) := by
  refine Met.ofW (cc := cX2_isBefore) (maxL := 5) (ret := (some .boolean)) (by decide) rfl ?_
  intro p e s m args below meth c s₁ B hml hv
  obtain ⟨rfl, hP, hK, hN⟩ := hv
  have hx := B.exec
  have hb := B.bytes
  have hr := B.returns
  have hts := atoms_spec (ws := wsX2_isBefore) B.pre
  have hown : s.vm.findClass RX2 = some m.cls := findClass_of_methodNamed B.named
  have hlocks := B.notSynchronized
  have hS : va_S (ww_A 46 ad) s.heap s.heap [] := va_S.rf
  have hl := lv_entry ([.ref (ra ad r0), .ref (ra ad p0)]) (n := 5) (Nat.le_of_ble_eq_true rfl)
  rw [lg_entry_eq]
  generalize (lg_sl ([.ref (ra ad r0), .ref (ra ad p0)]) ++ List.replicate (5 - (lg_sl ([.ref (ra ad r0), .ref (ra ad p0)])).length) Slot.unset).toArray = ls at hl ⊢
  have hl : lv_has ls 5 [(0, .ref (ra ad r0)), (1, .ref (ra ad p0))] := hl
  have L29 : ∀ (x0 : Fin 20) (x1 : Fin 20) (x2 : Int32) (x3 : Int32) (k29 : Int32 → Option (Int32)), (∀ (x4 : Int32) (H : Heap) (locs : List Loc) (ls : Array Slot), va_P D vwCl (ww 46 ad (cellC cI cR ad M E P C N)) H → va_S (ww_A 46 ad) s.heap H locs → lv_has ls 5 [(0, .ref (ra ad x0)), (1, .ref (ra ad x1)), (2, .int x2), (3, .int x3), (4, .int x4)] →  k29 x4 = some res → W p l e (headSpec wsX2_isBefore { frames := 1, cells := 0, slots := 0, locals := 21 }).room s m [.ref (ra ad r0), .ref (ra ad p0)].toArray below meth c H locs 0 0 (MQ below (ct_Q D (ww 46 ad (cellC cI cR ad M E P C N)) (ww_A 46 ad) (some (.int res))) [.ref (ra ad r0), .ref (ra ad p0)].toArray s 0 0 (ww_A 46 ad)) (F0 m 76 ls [])) → ∀ (n : Nat) (x4 : Int32) (H : Heap) (locs : List Loc) (ls : Array Slot), va_P D vwCl (ww 46 ad (cellC cI cR ad M E P C N)) H → va_S (ww_A 46 ad) s.heap H locs → lv_has ls 5 [(0, .ref (ra ad x0)), (1, .ref (ra ad x1)), (2, .int x2), (3, .int x3), (4, .int x4)] →  f_X2_isBefore_l29 k29 fu M x0 x1 x2 x3 n x4 = some res → W p l e (headSpec wsX2_isBefore { frames := 1, cells := 0, slots := 0, locals := 21 }).room s m [.ref (ra ad r0), .ref (ra ad p0)].toArray below meth c H locs 0 0 (MQ below (ct_Q D (ww 46 ad (cellC cI cR ad M E P C N)) (ww_A 46 ad) (some (.int res))) [.ref (ra ad r0), .ref (ra ad p0)].toArray s 0 0 (ww_A 46 ad)) (F0 m 29 ls []) := by
    intro x0 x1 x2 x3 k29 hk_29 n
    induction n with
    | zero => intro x4 H locs ls hP hS hl hf; rw [f_X2_isBefore_l29] at hf; cases hf
    | succ n ih =>
      intro x4 H locs ls hP hS hl hf
      rw [f_X2_isBefore_l29] at hf
      refine lv_iload hx hb dX2_isBefore_29 (lv_at hl 4 rfl) ?_
      refine lv_if_lt (tgt := 76) hx hb dX2_isBefore_31 (by decide) (fun c6 => ?_) (fun c6 => ?_)
      · rw [if_pos c6] at hf
        exact hk_29 x4 _ _ _ hP hS (lv_sub hl [0, 1, 2, 3, 4] rfl) hf
      · rw [if_neg c6] at hf
        refine lv_aload_n hx hb dX2_isBefore_34 rfl (lv_at hl 0 rfl) ?_
        refine lv_iload hx hb dX2_isBefore_35 (lv_at hl 4 rfl) ?_
        obtain ⟨u7, g8, hf⟩ := Option.bind_eq_some_iff.mp hf
        try dsimp only at hf
        refine ct_call (va_runV (As := [.int x4]) (rest := []) ⟨hx, hb, hml, hown, hts⟩ (C_X2_get l D tys nw hn hnw hj htI htR (res := u7) g8) (cwV 1 hts gX2_isBefore_X2_get rfl rfl rfl (by decide +kernel) ⟨Nat.le_of_ble_eq_true rfl, Nat.le_of_ble_eq_true rfl⟩) (ct_preV hn hP hK hN (ci := 2) (k := (20 + (x0).val)) rfl (ra_lt x0) (cl_row x0)) rfl rfl hl.1 rfl (lv_room (Nat.le_of_ble_eq_true rfl)) dX2_isBefore_37 ⟨Nat.zero_le _, Nat.zero_le _⟩) hS (fun H locs hP hS => ?_)
        refine lv_aload_n hx hb dX2_isBefore_40 rfl (lv_at hl 1 rfl) ?_
        refine lv_iload hx hb dX2_isBefore_41 (lv_at hl 4 rfl) ?_
        obtain ⟨u9, g10, hf⟩ := Option.bind_eq_some_iff.mp hf
        try dsimp only at hf
        refine ct_call (va_runV (As := [.int x4]) (rest := [.int u7]) ⟨hx, hb, hml, hown, hts⟩ (C_X2_get l D tys nw hn hnw hj htI htR (res := u9) g10) (cwV 1 hts gX2_isBefore_X2_get rfl rfl rfl (by decide +kernel) ⟨Nat.le_of_ble_eq_true rfl, Nat.le_of_ble_eq_true rfl⟩) (ct_preV hn hP hK hN (ci := 2) (k := (20 + (x1).val)) rfl (ra_lt x1) (cl_row x1)) rfl rfl hl.1 rfl (lv_room (Nat.le_of_ble_eq_true rfl)) dX2_isBefore_43 ⟨Nat.zero_le _, Nat.zero_le _⟩) hS (fun H locs hP hS => ?_)
        refine lv_icmp_eq (tgt := 70) hx hb dX2_isBefore_46 (by decide) (fun c11 => ?_) (fun c11 => ?_)
        · rw [if_pos c11] at hf
          refine lv_iinc (v := x4 + (-1)) (lv' := [(4, .int (x4 + (-1))), (0, .ref (ra ad x0)), (1, .ref (ra ad x1)), (2, .int x2), (3, .int x3)]) hx hb dX2_isBefore_70 hl (k := 4) rfl rfl (by decide) rfl (fun ls hl => ?_)
          refine lv_goto (tgt := 29) hx hb dX2_isBefore_73 (by decide) ?_
          exact ih (x4 + (-1)) _ _ _ hP hS (lv_sub hl [1, 2, 3, 4, 0] rfl) hf
        · rw [if_neg c11] at hf
          refine lv_aload_n hx hb dX2_isBefore_49 rfl (lv_at hl 0 rfl) ?_
          refine lv_iload hx hb dX2_isBefore_50 (lv_at hl 4 rfl) ?_
          obtain ⟨u12, g13, hf⟩ := Option.bind_eq_some_iff.mp hf
          try dsimp only at hf
          refine ct_call (va_runV (As := [.int x4]) (rest := []) ⟨hx, hb, hml, hown, hts⟩ (C_X2_get l D tys nw hn hnw hj htI htR (res := u12) g13) (cwV 1 hts gX2_isBefore_X2_get rfl rfl rfl (by decide +kernel) ⟨Nat.le_of_ble_eq_true rfl, Nat.le_of_ble_eq_true rfl⟩) (ct_preV hn hP hK hN (ci := 2) (k := (20 + (x0).val)) rfl (ra_lt x0) (cl_row x0)) rfl rfl hl.1 rfl (lv_room (Nat.le_of_ble_eq_true rfl)) dX2_isBefore_52 ⟨Nat.zero_le _, Nat.zero_le _⟩) hS (fun H locs hP hS => ?_)
          refine lv_aload_n hx hb dX2_isBefore_55 rfl (lv_at hl 1 rfl) ?_
          refine lv_iload hx hb dX2_isBefore_56 (lv_at hl 4 rfl) ?_
          obtain ⟨u14, g15, hf⟩ := Option.bind_eq_some_iff.mp hf
          try dsimp only at hf
          refine ct_call (va_runV (As := [.int x4]) (rest := [.int u12]) ⟨hx, hb, hml, hown, hts⟩ (C_X2_get l D tys nw hn hnw hj htI htR (res := u14) g15) (cwV 1 hts gX2_isBefore_X2_get rfl rfl rfl (by decide +kernel) ⟨Nat.le_of_ble_eq_true rfl, Nat.le_of_ble_eq_true rfl⟩) (ct_preV hn hP hK hN (ci := 2) (k := (20 + (x1).val)) rfl (ra_lt x1) (cl_row x1)) rfl rfl hl.1 rfl (lv_room (Nat.le_of_ble_eq_true rfl)) dX2_isBefore_58 ⟨Nat.zero_le _, Nat.zero_le _⟩) hS (fun H locs hP hS => ?_)
          refine lv_icmp_ge (tgt := 68) hx hb dX2_isBefore_61 (by decide) (fun c16 => ?_) (fun c16 => ?_)
          · rw [if_pos c16] at hf
            refine lv_iconst (v := 0) hx hb dX2_isBefore_68 (by decide) ?_
            obtain rfl := Option.some.inj hf
            exact W.zret (v := 0) (ty := .boolean) hx hb hr (by decide) (fun t ht hW => ⟨rfl, by rw [ht]; exact hP, hS.F ht⟩) hS.2.2 dX2_isBefore_69
          · rw [if_neg c16] at hf
            refine lv_iconst (v := 1) hx hb dX2_isBefore_64 (by decide) ?_
            refine lv_goto (tgt := 69) hx hb dX2_isBefore_65 (by decide) ?_
            obtain rfl := Option.some.inj hf
            exact W.zret (v := 1) (ty := .boolean) hx hb hr (by decide) (fun t ht hW => ⟨rfl, by rw [ht]; exact hP, hS.F ht⟩) hS.2.2 dX2_isBefore_69
  unfold f_X2_isBefore at hf
  refine lv_aload_n hx hb dX2_isBefore_0 rfl (lv_at hl 0 rfl) ?_
  obtain ⟨u1, g2, hf⟩ := Option.bind_eq_some_iff.mp hf
  try dsimp only at hf
  refine ct_call (va_runV (As := []) (rest := []) ⟨hx, hb, hml, hown, hts⟩ (C_X2_degree l D tys nw hn hnw hj htI htR (res := u1) g2) (cwV 0 hts gX2_isBefore_X2_degree rfl rfl rfl (by decide +kernel) ⟨Nat.le_of_ble_eq_true rfl, Nat.le_of_ble_eq_true rfl⟩) (ct_preV hn hP hK hN (ci := 2) (k := (20 + (r0).val)) rfl (ra_lt r0) (cl_row r0)) rfl rfl hl.1 rfl (lv_room (Nat.le_of_ble_eq_true rfl)) dX2_isBefore_1 ⟨Nat.zero_le _, Nat.zero_le _⟩) hS (fun H locs hP hS => ?_)
  refine lv_istore_n (lv' := [(2, .int u1), (0, .ref (ra ad r0)), (1, .ref (ra ad p0))]) hx hb dX2_isBefore_4 rfl hl (by decide) rfl (fun ls hl => ?_)
  refine lv_aload_n hx hb dX2_isBefore_5 rfl (lv_at hl 2 rfl) ?_
  obtain ⟨u3, g4, hf⟩ := Option.bind_eq_some_iff.mp hf
  try dsimp only at hf
  refine ct_call (va_runV (As := []) (rest := []) ⟨hx, hb, hml, hown, hts⟩ (C_X2_degree l D tys nw hn hnw hj htI htR (res := u3) g4) (cwV 0 hts gX2_isBefore_X2_degree rfl rfl rfl (by decide +kernel) ⟨Nat.le_of_ble_eq_true rfl, Nat.le_of_ble_eq_true rfl⟩) (ct_preV hn hP hK hN (ci := 2) (k := (20 + (p0).val)) rfl (ra_lt p0) (cl_row p0)) rfl rfl hl.1 rfl (lv_room (Nat.le_of_ble_eq_true rfl)) dX2_isBefore_6 ⟨Nat.zero_le _, Nat.zero_le _⟩) hS (fun H locs hP hS => ?_)
  refine lv_istore_n (lv' := [(3, .int u3), (2, .int u1), (0, .ref (ra ad r0)), (1, .ref (ra ad p0))]) hx hb dX2_isBefore_9 rfl hl (by decide) rfl (fun ls hl => ?_)
  refine lv_iload_n hx hb dX2_isBefore_10 rfl (lv_at hl 1 rfl) ?_
  refine lv_iload_n hx hb dX2_isBefore_11 rfl (lv_at hl 0 rfl) ?_
  refine lv_icmp_eq (tgt := 26) hx hb dX2_isBefore_12 (by decide) (fun c5 => ?_) (fun c5 => ?_)
  · rw [if_pos c5] at hf
    refine lv_iload_n hx hb dX2_isBefore_26 rfl (lv_at hl 1 rfl) ?_
    refine lv_istore (lv' := [(4, .int u1), (3, .int u3), (2, .int u1), (0, .ref (ra ad r0)), (1, .ref (ra ad p0))]) hx hb dX2_isBefore_27 hl (by decide) rfl (fun ls hl => ?_)
    refine L29 r0 p0 u1 u3 _ (fun y17 H locs ls hP hS hl hf => ?_) fu u1 _ _ _ hP hS (lv_sub hl [3, 4, 2, 1, 0] rfl) hf
    try dsimp only at hf
    refine lv_iconst (v := 0) hx hb dX2_isBefore_76 (by decide) ?_
    obtain rfl := Option.some.inj hf
    exact W.zret (v := 0) (ty := .boolean) hx hb hr (by decide) (fun t ht hW => ⟨rfl, by rw [ht]; exact hP, hS.F ht⟩) hS.2.2 dX2_isBefore_77
  · rw [if_neg c5] at hf
    refine lv_iload_n hx hb dX2_isBefore_15 rfl (lv_at hl 1 rfl) ?_
    refine lv_iload_n hx hb dX2_isBefore_16 rfl (lv_at hl 0 rfl) ?_
    refine lv_icmp_ge (tgt := 24) hx hb dX2_isBefore_17 (by decide) (fun c18 => ?_) (fun c18 => ?_)
    · rw [if_pos c18] at hf
      refine lv_iconst (v := 0) hx hb dX2_isBefore_24 (by decide) ?_
      obtain rfl := Option.some.inj hf
      exact W.zret (v := 0) (ty := .boolean) hx hb hr (by decide) (fun t ht hW => ⟨rfl, by rw [ht]; exact hP, hS.F ht⟩) hS.2.2 dX2_isBefore_25
    · rw [if_neg c18] at hf
      refine lv_iconst (v := 1) hx hb dX2_isBefore_20 (by decide) ?_
      refine lv_goto (tgt := 25) hx hb dX2_isBefore_21 (by decide) ?_
      obtain rfl := Option.some.inj hf
      exact W.zret (v := 1) (ty := .boolean) hx hb hr (by decide) (fun t ht hW => ⟨rfl, by rw [ht]; exact hP, hS.F ht⟩) hS.2.2 dX2_isBefore_25
end
section
def f_X0_hasRoot_l3 (k3 : Int32 → Option (Int32)) (fu : Nat) (x0 : Int32) (x1 : Int32) (x2 : Int32) (x3 : Int32) : Nat → Int32 → Option (Int32)
  | 0, _ => none
  | n + 1, x4 =>
    if 101 ≤ x4 then
      k3 x4
    else
      ((
        if x0 = 2 then
          some 1
        else
          some (jrem (x4 + x3) 101) : Option (Int32))).bind (fun w2 =>
      if (jrem (((jrem ((w2 * x4) + x2) 101) * x4) + x1) 101) = 0 then
        some 1
      else
        f_X0_hasRoot_l3 k3 fu x0 x1 x2 x3 n (x4 + 1))
def f_X0_hasRoot (fu : Nat) (p0 : Int32) (p1 : Int32) (p2 : Int32) (p3 : Int32) : Option (Int32) :=
  f_X0_hasRoot_l3 (fun y5 =>
    some 0) fu p0 p1 p2 p3 fu 0
set_option maxHeartbeats 4000000 in
set_option maxRecDepth 100000 in
theorem C_X0_hasRoot (l : Launch) (D : va_G) (tys : List (ClassId × FieldType)) (nw : List Cond) (hn : nw.all nw_kind = true) (hnw : ∀ w ∈ nw0, w ∈ nw) {ad : Nat → Nat} (hj : ww_inj 46 ad) {cI : ClassId} {cR : ClassId} (htI : tys[0]? = some (cI, .int)) (htR : tys[1]? = some (cR, .object RX2)) {fu : Nat} {M : Fin 20 → Nat → Int32} {E : Nat → Int32} {P : Nat → Fin 20} {C : Nat → Int32} {N : Nat → Int32} {p0 : Int32} {p1 : Int32} {p2 : Int32} {p3 : Int32} {res : Int32} (hf : f_X0_hasRoot fu p0 p1 p2 p3 = some res) :
    Met l yX0_hasRoot wsX0_hasRoot ({ frames := 0, cells := 0, slots := 0, locals := 0 }) (va_Pc [.int p0, .int p1, .int p2, .int p3] (ws_B D tys nw (ww 46 ad (cellC cI cR ad M E P C N)))) (ct_Q D (ww 46 ad (cellC cI cR ad M E P C N)) (ww_A 46 ad) (some (.int res))) 0 0 (ww_A 46 ad) := by
  refine Met.ofW (cc := cX0_hasRoot) (maxL := 6) (ret := (some .boolean)) (by decide) rfl ?_
  intro p e s m args below meth c s₁ B hml hv
  obtain ⟨rfl, hP, hK, hN⟩ := hv
  have hx := B.exec
  have hb := B.bytes
  have hr := B.returns
  have hts := atoms_spec (ws := wsX0_hasRoot) B.pre
  have hown : s.vm.findClass RX0 = some m.cls := findClass_of_methodNamed B.named
  have hlocks := B.notSynchronized
  have hS : va_S (ww_A 46 ad) s.heap s.heap [] := va_S.rf
  have hl := lv_entry ([.int p0, .int p1, .int p2, .int p3]) (n := 6) (Nat.le_of_ble_eq_true rfl)
  rw [lg_entry_eq]
  generalize (lg_sl ([.int p0, .int p1, .int p2, .int p3]) ++ List.replicate (6 - (lg_sl ([.int p0, .int p1, .int p2, .int p3])).length) Slot.unset).toArray = ls at hl ⊢
  have hl : lv_has ls 6 [(0, .int p0), (1, .int p1), (2, .int p2), (3, .int p3)] := hl
  have L3 : ∀ (x0 : Int32) (x1 : Int32) (x2 : Int32) (x3 : Int32) (k3 : Int32 → Option (Int32)), (∀ (x4 : Int32) (H : Heap) (locs : List Loc) (ls : Array Slot), va_P D vwCl (ww 46 ad (cellC cI cR ad M E P C N)) H → va_S (ww_A 46 ad) s.heap H locs → lv_has ls 6 [(0, .int x0), (1, .int x1), (2, .int x2), (3, .int x3), (4, .int x4)] →  k3 x4 = some res → W p l e (headSpec wsX0_hasRoot { frames := 0, cells := 0, slots := 0, locals := 0 }).room s m [.int p0, .int p1, .int p2, .int p3].toArray below meth c H locs 0 0 (MQ below (ct_Q D (ww 46 ad (cellC cI cR ad M E P C N)) (ww_A 46 ad) (some (.int res))) [.int p0, .int p1, .int p2, .int p3].toArray s 0 0 (ww_A 46 ad)) (F0 m 57 ls [])) → ∀ (n : Nat) (x4 : Int32) (H : Heap) (locs : List Loc) (ls : Array Slot), va_P D vwCl (ww 46 ad (cellC cI cR ad M E P C N)) H → va_S (ww_A 46 ad) s.heap H locs → lv_has ls 6 [(0, .int x0), (1, .int x1), (2, .int x2), (3, .int x3), (4, .int x4)] →  f_X0_hasRoot_l3 k3 fu x0 x1 x2 x3 n x4 = some res → W p l e (headSpec wsX0_hasRoot { frames := 0, cells := 0, slots := 0, locals := 0 }).room s m [.int p0, .int p1, .int p2, .int p3].toArray below meth c H locs 0 0 (MQ below (ct_Q D (ww 46 ad (cellC cI cR ad M E P C N)) (ww_A 46 ad) (some (.int res))) [.int p0, .int p1, .int p2, .int p3].toArray s 0 0 (ww_A 46 ad)) (F0 m 3 ls []) := by
    intro x0 x1 x2 x3 k3 hk_3 n
    induction n with
    | zero => intro x4 H locs ls hP hS hl hf; rw [f_X0_hasRoot_l3] at hf; cases hf
    | succ n ih =>
      intro x4 H locs ls hP hS hl hf
      rw [f_X0_hasRoot_l3] at hf
      refine lv_iload hx hb dX0_hasRoot_3 (lv_at hl 4 rfl) ?_
      refine lv_bipush (v := 101) hx hb dX0_hasRoot_5 (by decide) ?_
      refine lv_icmp_ge (tgt := 57) hx hb dX0_hasRoot_7 (by decide) (fun c1 => ?_) (fun c1 => ?_)
      · rw [if_pos c1] at hf
        exact hk_3 x4 _ _ _ hP hS (lv_sub hl [0, 1, 2, 3, 4] rfl) hf
      · rw [if_neg c1] at hf
        refine lv_iload_n hx hb dX0_hasRoot_10 rfl (lv_at hl 0 rfl) ?_
        refine lv_iconst (v := 2) hx hb dX0_hasRoot_11 (by decide) ?_
        obtain ⟨w2, gw2, hf⟩ := Option.bind_eq_some_iff.mp hf
        try dsimp only at hf
        have hJ26_w2 : ∀ (H : Heap) (locs : List Loc) (ls : Array Slot), va_P D vwCl (ww 46 ad (cellC cI cR ad M E P C N)) H → va_S (ww_A 46 ad) s.heap H locs → lv_has ls 6 [(0, .int x0), (1, .int x1), (2, .int x2), (3, .int x3), (4, .int x4)] → W p l e (headSpec wsX0_hasRoot { frames := 0, cells := 0, slots := 0, locals := 0 }).room s m [.int p0, .int p1, .int p2, .int p3].toArray below meth c H locs 0 0 (MQ below (ct_Q D (ww 46 ad (cellC cI cR ad M E P C N)) (ww_A 46 ad) (some (.int res))) [.int p0, .int p1, .int p2, .int p3].toArray s 0 0 (ww_A 46 ad)) (F0 m 26 ls [.int w2]) := by
          intro H locs ls hP hS hl
          refine lv_istore (lv' := [(5, .int w2), (0, .int x0), (1, .int x1), (2, .int x2), (3, .int x3), (4, .int x4)]) hx hb dX0_hasRoot_26 hl (by decide) rfl (fun ls hl => ?_)
          refine lv_iload hx hb dX0_hasRoot_28 (lv_at hl 0 rfl) ?_
          refine lv_iload hx hb dX0_hasRoot_30 (lv_at hl 5 rfl) ?_
          refine lv_imul hx hb dX0_hasRoot_32 ?_
          refine lv_iload_n hx hb dX0_hasRoot_33 rfl (lv_at hl 3 rfl) ?_
          refine lv_iadd hx hb dX0_hasRoot_34 ?_
          refine lv_bipush (v := 101) hx hb dX0_hasRoot_35 (by decide) ?_
          refine jv_irem hx hb dX0_hasRoot_37 (by decide) ?_
          refine lv_iload hx hb dX0_hasRoot_38 (lv_at hl 5 rfl) ?_
          refine lv_imul hx hb dX0_hasRoot_40 ?_
          refine lv_iload_n hx hb dX0_hasRoot_41 rfl (lv_at hl 2 rfl) ?_
          refine lv_iadd hx hb dX0_hasRoot_42 ?_
          refine lv_bipush (v := 101) hx hb dX0_hasRoot_43 (by decide) ?_
          refine jv_irem hx hb dX0_hasRoot_45 (by decide) ?_
          refine lv_if_ne (tgt := 51) hx hb dX0_hasRoot_46 (by decide) (fun c4 => ?_) (fun c4 => ?_)
          · rw [if_neg c4] at hf
            refine lv_iinc (v := x4 + 1) (lv' := [(4, .int (x4 + 1)), (5, .int w2), (0, .int x0), (1, .int x1), (2, .int x2), (3, .int x3)]) hx hb dX0_hasRoot_51 hl (k := 5) rfl rfl (by decide) rfl (fun ls hl => ?_)
            refine lv_goto (tgt := 3) hx hb dX0_hasRoot_54 (by decide) ?_
            exact ih (x4 + 1) _ _ _ hP hS (lv_sub hl [2, 3, 4, 5, 0] rfl) hf
          · rw [if_pos c4] at hf
            refine lv_iconst (v := 1) hx hb dX0_hasRoot_49 (by decide) ?_
            obtain rfl := Option.some.inj hf
            exact W.zret (v := 1) (ty := .boolean) hx hb hr (by decide) (fun t ht hW => ⟨rfl, by rw [ht]; exact hP, hS.F ht⟩) hS.2.2 dX0_hasRoot_50
        refine lv_icmp_ne (tgt := 19) hx hb dX0_hasRoot_12 (by decide) (fun c3 => ?_) (fun c3 => ?_)
        · rw [if_neg c3] at gw2
          refine lv_iload hx hb dX0_hasRoot_19 (lv_at hl 4 rfl) ?_
          refine lv_iload_n hx hb dX0_hasRoot_21 rfl (lv_at hl 3 rfl) ?_
          refine lv_iadd hx hb dX0_hasRoot_22 ?_
          refine lv_bipush (v := 101) hx hb dX0_hasRoot_23 (by decide) ?_
          refine jv_irem hx hb dX0_hasRoot_25 (by decide) ?_
          obtain rfl := Option.some.inj gw2
          exact hJ26_w2 _ _ _ hP hS (lv_sub hl [0, 1, 2, 3, 4] rfl)
        · rw [if_pos c3] at gw2
          refine lv_iconst (v := 1) hx hb dX0_hasRoot_15 (by decide) ?_
          refine lv_goto (tgt := 26) hx hb dX0_hasRoot_16 (by decide) ?_
          obtain rfl := Option.some.inj gw2
          exact hJ26_w2 _ _ _ hP hS (lv_sub hl [0, 1, 2, 3, 4] rfl)
  unfold f_X0_hasRoot at hf
  refine lv_iconst (v := 0) hx hb dX0_hasRoot_0 (by decide) ?_
  refine lv_istore (lv' := [(4, .int 0), (0, .int p0), (1, .int p1), (2, .int p2), (3, .int p3)]) hx hb dX0_hasRoot_1 hl (by decide) rfl (fun ls hl => ?_)
  refine L3 p0 p1 p2 p3 _ (fun y5 H locs ls hP hS hl hf => ?_) fu 0 _ _ _ hP hS (lv_sub hl [1, 2, 3, 4, 0] rfl) hf
  try dsimp only at hf
  refine lv_iconst (v := 0) hx hb dX0_hasRoot_57 (by decide) ?_
  obtain rfl := Option.some.inj hf
  exact W.zret (v := 0) (ty := .boolean) hx hb hr (by decide) (fun t ht hW => ⟨rfl, by rw [ht]; exact hP, hS.F ht⟩) hS.2.2 dX0_hasRoot_58
def f_X0_modulusAt (E : Nat → Int32) (p0 : Int32) : Option (Int32) :=
  if p0 = (E 0) then
    some 1
  else
    if p0 = 0 then
      some (E 2)
    else
    if p0 = 1 then
      some (E 3)
    else
    if p0 = 2 then
      some (E 4)
    else
    some 0
set_option maxHeartbeats 4000000 in
set_option maxRecDepth 100000 in
theorem C_X0_modulusAt (l : Launch) (D : va_G) (tys : List (ClassId × FieldType)) (nw : List Cond) (hn : nw.all nw_kind = true) (hnw : ∀ w ∈ nw0, w ∈ nw) {ad : Nat → Nat} (hj : ww_inj 46 ad) {cI : ClassId} {cR : ClassId} (htI : tys[0]? = some (cI, .int)) (htR : tys[1]? = some (cR, .object RX2)) {M : Fin 20 → Nat → Int32} {E : Nat → Int32} {P : Nat → Fin 20} {C : Nat → Int32} {N : Nat → Int32} {p0 : Int32} {res : Int32} (hf : f_X0_modulusAt E p0 = some res) :
    Met l yX0_modulusAt wsX0_modulusAt ({ frames := 0, cells := 0, slots := 0, locals := 0 }) (va_Pc [.ref (ad 40), .int p0] (ws_B D tys nw (ww 46 ad (cellC cI cR ad M E P C N)))) (ct_Q D (ww 46 ad (cellC cI cR ad M E P C N)) (ww_A 46 ad) (some (.int res))) 0 0 (ww_A 46 ad) := by
  refine Met.ofW (cc := cX0_modulusAt) (maxL := 2) (ret := (some .int)) (by decide) rfl ?_
  intro p e s m args below meth c s₁ B hml hv
  obtain ⟨rfl, hP, hK, hN⟩ := hv
  have hx := B.exec
  have hb := B.bytes
  have hr := B.returns
  have hts := atoms_spec (ws := wsX0_modulusAt) B.pre
  have hown : s.vm.findClass RX0 = some m.cls := findClass_of_methodNamed B.named
  have hlocks := B.notSynchronized
  have hS : va_S (ww_A 46 ad) s.heap s.heap [] := va_S.rf
  have hl := lv_entry ([.ref (ad 40), .int p0]) (n := 2) (Nat.le_of_ble_eq_true rfl)
  rw [lg_entry_eq]
  generalize (lg_sl ([.ref (ad 40), .int p0]) ++ List.replicate (2 - (lg_sl ([.ref (ad 40), .int p0])).length) Slot.unset).toArray = ls at hl ⊢
  have hl : lv_has ls 2 [(0, .ref (ad 40)), (1, .int p0)] := hl
  unfold f_X0_modulusAt at hf
  refine lv_iload_n hx hb dX0_modulusAt_0 rfl (lv_at hl 1 rfl) ?_
  refine lv_aload_n hx hb dX0_modulusAt_1 rfl (lv_at hl 0 rfl) ?_
  refine va_get (ci := 0) (v := .int (E 0)) (C := RX0) (T := TX0) (N := 8) hx hb hts (by decide +kernel) hown hK hP 40 cc_ext rfl 0 (by decide) (hts (.fieldLink RX0 9 "NumberFieldFactors$Extension" "degree" "I") (by decide +kernel)) (fun _ h9 => h9) rfl dX0_modulusAt_2 ?_
  refine lv_icmp_ne (tgt := 10) hx hb dX0_modulusAt_5 (by decide) (fun c1 => ?_) (fun c1 => ?_)
  · rw [if_neg c1] at hf
    refine lv_iload_n hx hb dX0_modulusAt_10 rfl (lv_at hl 1 rfl) ?_
    by_cases c2 : p0 = 0
    · rw [if_pos c2] at hf
      refine lv_tableIn (off := 25) (tgt := 36) hx hb dX0_modulusAt_11 (by rw [c2]; decide) (by rw [c2]; decide) (by rw [c2]; rfl) (by decide) ?_
      refine lv_aload_n hx hb dX0_modulusAt_36 rfl (lv_at hl 0 rfl) ?_
      refine va_get (ci := 0) (v := .int (E 2)) (C := RX0) (T := TX0) (N := 8) hx hb hts (by decide +kernel) hown hK hP 40 cc_ext rfl 2 (by decide) (hts (.fieldLink RX0 18 "NumberFieldFactors$Extension" "low0" "I") (by decide +kernel)) (fun _ h9 => h9) rfl dX0_modulusAt_37 ?_
      obtain rfl := Option.some.inj hf
      exact W.iret (v := E 2) hx hb hr (fun t ht hW => ⟨rfl, by rw [ht]; exact hP, hS.F ht⟩) hS.2.2 dX0_modulusAt_40
    rw [if_neg c2] at hf
    by_cases c3 : p0 = 1
    · rw [if_pos c3] at hf
      refine lv_tableIn (off := 30) (tgt := 41) hx hb dX0_modulusAt_11 (by rw [c3]; decide) (by rw [c3]; decide) (by rw [c3]; rfl) (by decide) ?_
      refine lv_aload_n hx hb dX0_modulusAt_41 rfl (lv_at hl 0 rfl) ?_
      refine va_get (ci := 0) (v := .int (E 3)) (C := RX0) (T := TX0) (N := 8) hx hb hts (by decide +kernel) hown hK hP 40 cc_ext rfl 3 (by decide) (hts (.fieldLink RX0 21 "NumberFieldFactors$Extension" "low1" "I") (by decide +kernel)) (fun _ h9 => h9) rfl dX0_modulusAt_42 ?_
      obtain rfl := Option.some.inj hf
      exact W.iret (v := E 3) hx hb hr (fun t ht hW => ⟨rfl, by rw [ht]; exact hP, hS.F ht⟩) hS.2.2 dX0_modulusAt_45
    rw [if_neg c3] at hf
    by_cases c4 : p0 = 2
    · rw [if_pos c4] at hf
      refine lv_tableIn (off := 35) (tgt := 46) hx hb dX0_modulusAt_11 (by rw [c4]; decide) (by rw [c4]; decide) (by rw [c4]; rfl) (by decide) ?_
      refine lv_aload_n hx hb dX0_modulusAt_46 rfl (lv_at hl 0 rfl) ?_
      refine va_get (ci := 0) (v := .int (E 4)) (C := RX0) (T := TX0) (N := 8) hx hb hts (by decide +kernel) hown hK hP 40 cc_ext rfl 4 (by decide) (hts (.fieldLink RX0 24 "NumberFieldFactors$Extension" "low2" "I") (by decide +kernel)) (fun _ h9 => h9) rfl dX0_modulusAt_47 ?_
      obtain rfl := Option.some.inj hf
      exact W.iret (v := E 4) hx hb hr (fun t ht hW => ⟨rfl, by rw [ht]; exact hP, hS.F ht⟩) hS.2.2 dX0_modulusAt_50
    rw [if_neg c4] at hf
    refine lv_tableOut (tgt := 51) hx hb dX0_modulusAt_11 (by have ec2 : (p0).toInt ≠ 0 := fun h => c2 (Int32.toInt_inj.mp (h.trans (by decide))); have ec3 : (p0).toInt ≠ 1 := fun h => c3 (Int32.toInt_inj.mp (h.trans (by decide))); have ec4 : (p0).toInt ≠ 2 := fun h => c4 (Int32.toInt_inj.mp (h.trans (by decide))); omega) (by decide) ?_
    refine lv_iconst (v := 0) hx hb dX0_modulusAt_51 (by decide) ?_
    obtain rfl := Option.some.inj hf
    exact W.iret (v := 0) hx hb hr (fun t ht hW => ⟨rfl, by rw [ht]; exact hP, hS.F ht⟩) hS.2.2 dX0_modulusAt_52
  · rw [if_pos c1] at hf
    refine lv_iconst (v := 1) hx hb dX0_modulusAt_8 (by decide) ?_
    obtain rfl := Option.some.inj hf
    exact W.iret (v := 1) hx hb hr (fun t ht hW => ⟨rfl, by rw [ht]; exact hP, hS.F ht⟩) hS.2.2 dX0_modulusAt_9
def f_X0_plus (p0 : Int32) (p1 : Int32) : Option (Int32) :=
  nm (jrem ((jrem p0 101) + (jrem p1 101)) 101) (fun v1 =>
  nm (jrem ((jrem (p0 / 101) 101) + (jrem (p1 / 101) 101)) 101) (fun v2 =>
  nm (jrem ((p0 / 10201) + (p1 / 10201)) 101) (fun v3 =>
  some ((v1 + (101 * v2)) + (10201 * v3)))))
set_option maxHeartbeats 4000000 in
set_option maxRecDepth 100000 in
theorem C_X0_plus (l : Launch) (D : va_G) (tys : List (ClassId × FieldType)) (nw : List Cond) (hn : nw.all nw_kind = true) (hnw : ∀ w ∈ nw0, w ∈ nw) {ad : Nat → Nat} (hj : ww_inj 46 ad) {cI : ClassId} {cR : ClassId} (htI : tys[0]? = some (cI, .int)) (htR : tys[1]? = some (cR, .object RX2)) {M : Fin 20 → Nat → Int32} {E : Nat → Int32} {P : Nat → Fin 20} {C : Nat → Int32} {N : Nat → Int32} {p0 : Int32} {p1 : Int32} {res : Int32} (hf : f_X0_plus p0 p1 = some res) :
    Met l yX0_plus wsX0_plus ({ frames := 0, cells := 0, slots := 0, locals := 0 }) (va_Pc [.ref (ad 40), .int p0, .int p1] (ws_B D tys nw (ww 46 ad (cellC cI cR ad M E P C N)))) (ct_Q D (ww 46 ad (cellC cI cR ad M E P C N)) (ww_A 46 ad) (some (.int res))) 0 0 (ww_A 46 ad) := by
  refine Met.ofW (cc := cX0_plus) (maxL := 6) (ret := (some .int)) (by decide) rfl ?_
  intro p e s m args below meth c s₁ B hml hv
  obtain ⟨rfl, hP, hK, hN⟩ := hv
  have hx := B.exec
  have hb := B.bytes
  have hr := B.returns
  have hts := atoms_spec (ws := wsX0_plus) B.pre
  have hown : s.vm.findClass RX0 = some m.cls := findClass_of_methodNamed B.named
  have hlocks := B.notSynchronized
  have hS : va_S (ww_A 46 ad) s.heap s.heap [] := va_S.rf
  have hl := lv_entry ([.ref (ad 40), .int p0, .int p1]) (n := 6) (Nat.le_of_ble_eq_true rfl)
  rw [lg_entry_eq]
  generalize (lg_sl ([.ref (ad 40), .int p0, .int p1]) ++ List.replicate (6 - (lg_sl ([.ref (ad 40), .int p0, .int p1])).length) Slot.unset).toArray = ls at hl ⊢
  have hl : lv_has ls 6 [(0, .ref (ad 40)), (1, .int p0), (2, .int p1)] := hl
  unfold f_X0_plus at hf
  refine lv_iload_n hx hb dX0_plus_0 rfl (lv_at hl 1 rfl) ?_
  refine lv_bipush (v := 101) hx hb dX0_plus_1 (by decide) ?_
  refine jv_irem hx hb dX0_plus_3 (by decide) ?_
  refine lv_iload_n hx hb dX0_plus_4 rfl (lv_at hl 2 rfl) ?_
  refine lv_bipush (v := 101) hx hb dX0_plus_5 (by decide) ?_
  refine jv_irem hx hb dX0_plus_7 (by decide) ?_
  refine lv_iadd hx hb dX0_plus_8 ?_
  refine lv_bipush (v := 101) hx hb dX0_plus_9 (by decide) ?_
  refine jv_irem hx hb dX0_plus_11 (by decide) ?_
  obtain ⟨v1, ev1, hf⟩ := nm_elim hf
  try dsimp only at hf
  refine tp_I ev1 ?_
  refine lv_istore_n (lv' := [(3, .int v1), (0, .ref (ad 40)), (1, .int p0), (2, .int p1)]) hx hb dX0_plus_12 rfl hl (by decide) rfl (fun ls hl => ?_)
  refine lv_iload_n hx hb dX0_plus_13 rfl (lv_at hl 2 rfl) ?_
  refine lv_bipush (v := 101) hx hb dX0_plus_14 (by decide) ?_
  refine lv_idiv hx hb dX0_plus_16 (by decide) ?_
  refine lv_bipush (v := 101) hx hb dX0_plus_17 (by decide) ?_
  refine jv_irem hx hb dX0_plus_19 (by decide) ?_
  refine lv_iload_n hx hb dX0_plus_20 rfl (lv_at hl 3 rfl) ?_
  refine lv_bipush (v := 101) hx hb dX0_plus_21 (by decide) ?_
  refine lv_idiv hx hb dX0_plus_23 (by decide) ?_
  refine lv_bipush (v := 101) hx hb dX0_plus_24 (by decide) ?_
  refine jv_irem hx hb dX0_plus_26 (by decide) ?_
  refine lv_iadd hx hb dX0_plus_27 ?_
  refine lv_bipush (v := 101) hx hb dX0_plus_28 (by decide) ?_
  refine jv_irem hx hb dX0_plus_30 (by decide) ?_
  obtain ⟨v2, ev2, hf⟩ := nm_elim hf
  try dsimp only at hf
  refine tp_I ev2 ?_
  refine lv_istore (lv' := [(4, .int v2), (3, .int v1), (0, .ref (ad 40)), (1, .int p0), (2, .int p1)]) hx hb dX0_plus_31 hl (by decide) rfl (fun ls hl => ?_)
  refine lv_iload_n hx hb dX0_plus_33 rfl (lv_at hl 3 rfl) ?_
  refine lv_sipush (v := 10201) hx hb dX0_plus_34 (by decide) ?_
  refine lv_idiv hx hb dX0_plus_37 (by decide) ?_
  refine lv_iload_n hx hb dX0_plus_38 rfl (lv_at hl 4 rfl) ?_
  refine lv_sipush (v := 10201) hx hb dX0_plus_39 (by decide) ?_
  refine lv_idiv hx hb dX0_plus_42 (by decide) ?_
  refine lv_iadd hx hb dX0_plus_43 ?_
  refine lv_bipush (v := 101) hx hb dX0_plus_44 (by decide) ?_
  refine jv_irem hx hb dX0_plus_46 (by decide) ?_
  obtain ⟨v3, ev3, hf⟩ := nm_elim hf
  try dsimp only at hf
  refine tp_I ev3 ?_
  refine lv_istore (lv' := [(5, .int v3), (4, .int v2), (3, .int v1), (0, .ref (ad 40)), (1, .int p0), (2, .int p1)]) hx hb dX0_plus_47 hl (by decide) rfl (fun ls hl => ?_)
  refine lv_iload_n hx hb dX0_plus_49 rfl (lv_at hl 2 rfl) ?_
  refine lv_bipush (v := 101) hx hb dX0_plus_50 (by decide) ?_
  refine lv_iload hx hb dX0_plus_52 (lv_at hl 1 rfl) ?_
  refine lv_imul hx hb dX0_plus_54 ?_
  refine lv_iadd hx hb dX0_plus_55 ?_
  refine lv_sipush (v := 10201) hx hb dX0_plus_56 (by decide) ?_
  refine lv_iload hx hb dX0_plus_59 (lv_at hl 0 rfl) ?_
  refine lv_imul hx hb dX0_plus_61 ?_
  refine lv_iadd hx hb dX0_plus_62 ?_
  obtain rfl := Option.some.inj hf
  exact W.iret (v := (v1 + (101 * v2)) + (10201 * v3)) hx hb hr (fun t ht hW => ⟨rfl, by rw [ht]; exact hP, hS.F ht⟩) hS.2.2 dX0_plus_63
def f_X0_minus (p0 : Int32) (p1 : Int32) : Option (Int32) :=
  nm (jrem (((jrem p0 101) - (jrem p1 101)) + 101) 101) (fun v1 =>
  nm (jrem (((jrem (p0 / 101) 101) - (jrem (p1 / 101) 101)) + 101) 101) (fun v2 =>
  nm (jrem (((p0 / 10201) - (p1 / 10201)) + 101) 101) (fun v3 =>
  some ((v1 + (101 * v2)) + (10201 * v3)))))
set_option maxHeartbeats 4000000 in
set_option maxRecDepth 100000 in
theorem C_X0_minus (l : Launch) (D : va_G) (tys : List (ClassId × FieldType)) (nw : List Cond) (hn : nw.all nw_kind = true) (hnw : ∀ w ∈ nw0, w ∈ nw) {ad : Nat → Nat} (hj : ww_inj 46 ad) {cI : ClassId} {cR : ClassId} (htI : tys[0]? = some (cI, .int)) (htR : tys[1]? = some (cR, .object RX2)) {M : Fin 20 → Nat → Int32} {E : Nat → Int32} {P : Nat → Fin 20} {C : Nat → Int32} {N : Nat → Int32} {p0 : Int32} {p1 : Int32} {res : Int32} (hf : f_X0_minus p0 p1 = some res) :
    Met l yX0_minus wsX0_minus ({ frames := 0, cells := 0, slots := 0, locals := 0 }) (va_Pc [.ref (ad 40), .int p0, .int p1] (ws_B D tys nw (ww 46 ad (cellC cI cR ad M E P C N)))) (ct_Q D (ww 46 ad (cellC cI cR ad M E P C N)) (ww_A 46 ad) (some (.int res))) 0 0 (ww_A 46 ad) := by
  refine Met.ofW (cc := cX0_minus) (maxL := 6) (ret := (some .int)) (by decide) rfl ?_
  intro p e s m args below meth c s₁ B hml hv
  obtain ⟨rfl, hP, hK, hN⟩ := hv
  have hx := B.exec
  have hb := B.bytes
  have hr := B.returns
  have hts := atoms_spec (ws := wsX0_minus) B.pre
  have hown : s.vm.findClass RX0 = some m.cls := findClass_of_methodNamed B.named
  have hlocks := B.notSynchronized
  have hS : va_S (ww_A 46 ad) s.heap s.heap [] := va_S.rf
  have hl := lv_entry ([.ref (ad 40), .int p0, .int p1]) (n := 6) (Nat.le_of_ble_eq_true rfl)
  rw [lg_entry_eq]
  generalize (lg_sl ([.ref (ad 40), .int p0, .int p1]) ++ List.replicate (6 - (lg_sl ([.ref (ad 40), .int p0, .int p1])).length) Slot.unset).toArray = ls at hl ⊢
  have hl : lv_has ls 6 [(0, .ref (ad 40)), (1, .int p0), (2, .int p1)] := hl
  unfold f_X0_minus at hf
  refine lv_iload_n hx hb dX0_minus_0 rfl (lv_at hl 1 rfl) ?_
  refine lv_bipush (v := 101) hx hb dX0_minus_1 (by decide) ?_
  refine jv_irem hx hb dX0_minus_3 (by decide) ?_
  refine lv_iload_n hx hb dX0_minus_4 rfl (lv_at hl 2 rfl) ?_
  refine lv_bipush (v := 101) hx hb dX0_minus_5 (by decide) ?_
  refine jv_irem hx hb dX0_minus_7 (by decide) ?_
  refine lv_isub hx hb dX0_minus_8 ?_
  refine lv_bipush (v := 101) hx hb dX0_minus_9 (by decide) ?_
  refine lv_iadd hx hb dX0_minus_11 ?_
  refine lv_bipush (v := 101) hx hb dX0_minus_12 (by decide) ?_
  refine jv_irem hx hb dX0_minus_14 (by decide) ?_
  obtain ⟨v1, ev1, hf⟩ := nm_elim hf
  try dsimp only at hf
  refine tp_I ev1 ?_
  refine lv_istore_n (lv' := [(3, .int v1), (0, .ref (ad 40)), (1, .int p0), (2, .int p1)]) hx hb dX0_minus_15 rfl hl (by decide) rfl (fun ls hl => ?_)
  refine lv_iload_n hx hb dX0_minus_16 rfl (lv_at hl 2 rfl) ?_
  refine lv_bipush (v := 101) hx hb dX0_minus_17 (by decide) ?_
  refine lv_idiv hx hb dX0_minus_19 (by decide) ?_
  refine lv_bipush (v := 101) hx hb dX0_minus_20 (by decide) ?_
  refine jv_irem hx hb dX0_minus_22 (by decide) ?_
  refine lv_iload_n hx hb dX0_minus_23 rfl (lv_at hl 3 rfl) ?_
  refine lv_bipush (v := 101) hx hb dX0_minus_24 (by decide) ?_
  refine lv_idiv hx hb dX0_minus_26 (by decide) ?_
  refine lv_bipush (v := 101) hx hb dX0_minus_27 (by decide) ?_
  refine jv_irem hx hb dX0_minus_29 (by decide) ?_
  refine lv_isub hx hb dX0_minus_30 ?_
  refine lv_bipush (v := 101) hx hb dX0_minus_31 (by decide) ?_
  refine lv_iadd hx hb dX0_minus_33 ?_
  refine lv_bipush (v := 101) hx hb dX0_minus_34 (by decide) ?_
  refine jv_irem hx hb dX0_minus_36 (by decide) ?_
  obtain ⟨v2, ev2, hf⟩ := nm_elim hf
  try dsimp only at hf
  refine tp_I ev2 ?_
  refine lv_istore (lv' := [(4, .int v2), (3, .int v1), (0, .ref (ad 40)), (1, .int p0), (2, .int p1)]) hx hb dX0_minus_37 hl (by decide) rfl (fun ls hl => ?_)
  refine lv_iload_n hx hb dX0_minus_39 rfl (lv_at hl 3 rfl) ?_
  refine lv_sipush (v := 10201) hx hb dX0_minus_40 (by decide) ?_
  refine lv_idiv hx hb dX0_minus_43 (by decide) ?_
  refine lv_iload_n hx hb dX0_minus_44 rfl (lv_at hl 4 rfl) ?_
  refine lv_sipush (v := 10201) hx hb dX0_minus_45 (by decide) ?_
  refine lv_idiv hx hb dX0_minus_48 (by decide) ?_
  refine lv_isub hx hb dX0_minus_49 ?_
  refine lv_bipush (v := 101) hx hb dX0_minus_50 (by decide) ?_
  refine lv_iadd hx hb dX0_minus_52 ?_
  refine lv_bipush (v := 101) hx hb dX0_minus_53 (by decide) ?_
  refine jv_irem hx hb dX0_minus_55 (by decide) ?_
  obtain ⟨v3, ev3, hf⟩ := nm_elim hf
  try dsimp only at hf
  refine tp_I ev3 ?_
  refine lv_istore (lv' := [(5, .int v3), (4, .int v2), (3, .int v1), (0, .ref (ad 40)), (1, .int p0), (2, .int p1)]) hx hb dX0_minus_56 hl (by decide) rfl (fun ls hl => ?_)
  refine lv_iload_n hx hb dX0_minus_58 rfl (lv_at hl 2 rfl) ?_
  refine lv_bipush (v := 101) hx hb dX0_minus_59 (by decide) ?_
  refine lv_iload hx hb dX0_minus_61 (lv_at hl 1 rfl) ?_
  refine lv_imul hx hb dX0_minus_63 ?_
  refine lv_iadd hx hb dX0_minus_64 ?_
  refine lv_sipush (v := 10201) hx hb dX0_minus_65 (by decide) ?_
  refine lv_iload hx hb dX0_minus_68 (lv_at hl 0 rfl) ?_
  refine lv_imul hx hb dX0_minus_70 ?_
  refine lv_iadd hx hb dX0_minus_71 ?_
  obtain rfl := Option.some.inj hf
  exact W.iret (v := (v1 + (101 * v2)) + (10201 * v3)) hx hb hr (fun t ht hW => ⟨rfl, by rw [ht]; exact hP, hS.F ht⟩) hS.2.2 dX0_minus_72
def f_X0_times (E : Nat → Int32) (p0 : Int32) (p1 : Int32) : Option (Int32) :=
  if 101 ≤ p0 then
    nm (jrem p0 101) (fun v2 =>
    nm (jrem (p0 / 101) 101) (fun v3 =>
    nm (p0 / 10201) (fun v4 =>
    nm (jrem p1 101) (fun v5 =>
    nm (jrem (p1 / 101) 101) (fun v6 =>
    nm (p1 / 10201) (fun v7 =>
    nm (v2 * v5) (fun v8 =>
    nm ((v2 * v6) + (v3 * v5)) (fun v9 =>
    nm (((v2 * v7) + (v3 * v6)) + (v4 * v5)) (fun v10 =>
    if (E 0) = 2 then
      nm (jrem (101 - (jrem v10 101)) 101) (fun v18 =>
      nm (v9 + (v18 * (E 3))) (fun v19 =>
      nm (v8 + (v18 * (E 2))) (fun v20 =>
      some ((jrem v20 101) + (101 * (jrem v19 101))))))
    else
      nm (jrem (101 - (jrem (v4 * v7) 101)) 101) (fun v12 =>
      nm (((v3 * v7) + (v4 * v6)) + (v12 * (E 4))) (fun v13 =>
      nm (jrem (101 - (jrem v13 101)) 101) (fun v14 =>
      nm (v10 + ((v12 * (E 3)) + (v14 * (E 4)))) (fun v15 =>
      nm (v9 + ((v12 * (E 2)) + (v14 * (E 3)))) (fun v16 =>
      nm (v8 + (v14 * (E 2))) (fun v17 =>
      some (((jrem v17 101) + (101 * (jrem v16 101))) + (10201 * (jrem v15 101))))))))))))))))))
  else
    if 101 ≤ p1 then
      nm (jrem p0 101) (fun v22 =>
      nm (jrem (p0 / 101) 101) (fun v23 =>
      nm (p0 / 10201) (fun v24 =>
      nm (jrem p1 101) (fun v25 =>
      nm (jrem (p1 / 101) 101) (fun v26 =>
      nm (p1 / 10201) (fun v27 =>
      nm (v22 * v25) (fun v28 =>
      nm ((v22 * v26) + (v23 * v25)) (fun v29 =>
      nm (((v22 * v27) + (v23 * v26)) + (v24 * v25)) (fun v30 =>
      if (E 0) = 2 then
        nm (jrem (101 - (jrem v30 101)) 101) (fun v38 =>
        nm (v29 + (v38 * (E 3))) (fun v39 =>
        nm (v28 + (v38 * (E 2))) (fun v40 =>
        some ((jrem v40 101) + (101 * (jrem v39 101))))))
      else
        nm (jrem (101 - (jrem (v24 * v27) 101)) 101) (fun v32 =>
        nm (((v23 * v27) + (v24 * v26)) + (v32 * (E 4))) (fun v33 =>
        nm (jrem (101 - (jrem v33 101)) 101) (fun v34 =>
        nm (v30 + ((v32 * (E 3)) + (v34 * (E 4)))) (fun v35 =>
        nm (v29 + ((v32 * (E 2)) + (v34 * (E 3)))) (fun v36 =>
        nm (v28 + (v34 * (E 2))) (fun v37 =>
        some (((jrem v37 101) + (101 * (jrem v36 101))) + (10201 * (jrem v35 101))))))))))))))))))
    else
      some (jrem (p0 * p1) 101)
set_option maxHeartbeats 4000000 in
set_option maxRecDepth 100000 in
theorem C_X0_times (l : Launch) (D : va_G) (tys : List (ClassId × FieldType)) (nw : List Cond) (hn : nw.all nw_kind = true) (hnw : ∀ w ∈ nw0, w ∈ nw) {ad : Nat → Nat} (hj : ww_inj 46 ad) {cI : ClassId} {cR : ClassId} (htI : tys[0]? = some (cI, .int)) (htR : tys[1]? = some (cR, .object RX2)) {M : Fin 20 → Nat → Int32} {E : Nat → Int32} {P : Nat → Fin 20} {C : Nat → Int32} {N : Nat → Int32} {p0 : Int32} {p1 : Int32} {res : Int32} (hf : f_X0_times E p0 p1 = some res) :
    Met l yX0_times wsX0_times ({ frames := 0, cells := 0, slots := 0, locals := 0 }) (va_Pc [.ref (ad 40), .int p0, .int p1] (ws_B D tys nw (ww 46 ad (cellC cI cR ad M E P C N)))) (ct_Q D (ww 46 ad (cellC cI cR ad M E P C N)) (ww_A 46 ad) (some (.int res))) 0 0 (ww_A 46 ad) := by
  refine Met.ofW (cc := cX0_times) (maxL := 15) (ret := (some .int)) (by decide) rfl ?_
  intro p e s m args below meth c s₁ B hml hv
  obtain ⟨rfl, hP, hK, hN⟩ := hv
  have hx := B.exec
  have hb := B.bytes
  have hr := B.returns
  have hts := atoms_spec (ws := wsX0_times) B.pre
  have hown : s.vm.findClass RX0 = some m.cls := findClass_of_methodNamed B.named
  have hlocks := B.notSynchronized
  have hS : va_S (ww_A 46 ad) s.heap s.heap [] := va_S.rf
  have hl := lv_entry ([.ref (ad 40), .int p0, .int p1]) (n := 15) (Nat.le_of_ble_eq_true rfl)
  rw [lg_entry_eq]
  generalize (lg_sl ([.ref (ad 40), .int p0, .int p1]) ++ List.replicate (15 - (lg_sl ([.ref (ad 40), .int p0, .int p1])).length) Slot.unset).toArray = ls at hl ⊢
  have hl : lv_has ls 15 [(0, .ref (ad 40)), (1, .int p0), (2, .int p1)] := hl
  unfold f_X0_times at hf
  refine lv_iload_n hx hb dX0_times_0 rfl (lv_at hl 1 rfl) ?_
  refine lv_bipush (v := 101) hx hb dX0_times_1 (by decide) ?_
  refine lv_icmp_ge (tgt := 19) hx hb dX0_times_3 (by decide) (fun c1 => ?_) (fun c1 => ?_)
  · rw [if_pos c1] at hf
    refine lv_iload_n hx hb dX0_times_19 rfl (lv_at hl 1 rfl) ?_
    refine lv_bipush (v := 101) hx hb dX0_times_20 (by decide) ?_
    refine jv_irem hx hb dX0_times_22 (by decide) ?_
    obtain ⟨v2, ev2, hf⟩ := nm_elim hf
    try dsimp only at hf
    refine tp_I ev2 ?_
    refine lv_istore_n (lv' := [(3, .int v2), (0, .ref (ad 40)), (1, .int p0), (2, .int p1)]) hx hb dX0_times_23 rfl hl (by decide) rfl (fun ls hl => ?_)
    refine lv_iload_n hx hb dX0_times_24 rfl (lv_at hl 2 rfl) ?_
    refine lv_bipush (v := 101) hx hb dX0_times_25 (by decide) ?_
    refine lv_idiv hx hb dX0_times_27 (by decide) ?_
    refine lv_bipush (v := 101) hx hb dX0_times_28 (by decide) ?_
    refine jv_irem hx hb dX0_times_30 (by decide) ?_
    obtain ⟨v3, ev3, hf⟩ := nm_elim hf
    try dsimp only at hf
    refine tp_I ev3 ?_
    refine lv_istore (lv' := [(4, .int v3), (3, .int v2), (0, .ref (ad 40)), (1, .int p0), (2, .int p1)]) hx hb dX0_times_31 hl (by decide) rfl (fun ls hl => ?_)
    refine lv_iload_n hx hb dX0_times_33 rfl (lv_at hl 3 rfl) ?_
    refine lv_sipush (v := 10201) hx hb dX0_times_34 (by decide) ?_
    refine lv_idiv hx hb dX0_times_37 (by decide) ?_
    obtain ⟨v4, ev4, hf⟩ := nm_elim hf
    try dsimp only at hf
    refine tp_I ev4 ?_
    refine lv_istore (lv' := [(5, .int v4), (4, .int v3), (3, .int v2), (0, .ref (ad 40)), (1, .int p0), (2, .int p1)]) hx hb dX0_times_38 hl (by decide) rfl (fun ls hl => ?_)
    refine lv_iload_n hx hb dX0_times_40 rfl (lv_at hl 5 rfl) ?_
    refine lv_bipush (v := 101) hx hb dX0_times_41 (by decide) ?_
    refine jv_irem hx hb dX0_times_43 (by decide) ?_
    obtain ⟨v5, ev5, hf⟩ := nm_elim hf
    try dsimp only at hf
    refine tp_I ev5 ?_
    refine lv_istore (lv' := [(6, .int v5), (5, .int v4), (4, .int v3), (3, .int v2), (0, .ref (ad 40)), (1, .int p0), (2, .int p1)]) hx hb dX0_times_44 hl (by decide) rfl (fun ls hl => ?_)
    refine lv_iload_n hx hb dX0_times_46 rfl (lv_at hl 6 rfl) ?_
    refine lv_bipush (v := 101) hx hb dX0_times_47 (by decide) ?_
    refine lv_idiv hx hb dX0_times_49 (by decide) ?_
    refine lv_bipush (v := 101) hx hb dX0_times_50 (by decide) ?_
    refine jv_irem hx hb dX0_times_52 (by decide) ?_
    obtain ⟨v6, ev6, hf⟩ := nm_elim hf
    try dsimp only at hf
    refine tp_I ev6 ?_
    refine lv_istore (lv' := [(7, .int v6), (6, .int v5), (5, .int v4), (4, .int v3), (3, .int v2), (0, .ref (ad 40)), (1, .int p0), (2, .int p1)]) hx hb dX0_times_53 hl (by decide) rfl (fun ls hl => ?_)
    refine lv_iload_n hx hb dX0_times_55 rfl (lv_at hl 7 rfl) ?_
    refine lv_sipush (v := 10201) hx hb dX0_times_56 (by decide) ?_
    refine lv_idiv hx hb dX0_times_59 (by decide) ?_
    obtain ⟨v7, ev7, hf⟩ := nm_elim hf
    try dsimp only at hf
    refine tp_I ev7 ?_
    refine lv_istore (lv' := [(8, .int v7), (7, .int v6), (6, .int v5), (5, .int v4), (4, .int v3), (3, .int v2), (0, .ref (ad 40)), (1, .int p0), (2, .int p1)]) hx hb dX0_times_60 hl (by decide) rfl (fun ls hl => ?_)
    refine lv_iload_n hx hb dX0_times_62 rfl (lv_at hl 5 rfl) ?_
    refine lv_iload hx hb dX0_times_63 (lv_at hl 2 rfl) ?_
    refine lv_imul hx hb dX0_times_65 ?_
    obtain ⟨v8, ev8, hf⟩ := nm_elim hf
    try dsimp only at hf
    refine tp_I ev8 ?_
    refine lv_istore (lv' := [(9, .int v8), (8, .int v7), (7, .int v6), (6, .int v5), (5, .int v4), (4, .int v3), (3, .int v2), (0, .ref (ad 40)), (1, .int p0), (2, .int p1)]) hx hb dX0_times_66 hl (by decide) rfl (fun ls hl => ?_)
    refine lv_iload_n hx hb dX0_times_68 rfl (lv_at hl 6 rfl) ?_
    refine lv_iload hx hb dX0_times_69 (lv_at hl 2 rfl) ?_
    refine lv_imul hx hb dX0_times_71 ?_
    refine lv_iload hx hb dX0_times_72 (lv_at hl 5 rfl) ?_
    refine lv_iload hx hb dX0_times_74 (lv_at hl 3 rfl) ?_
    refine lv_imul hx hb dX0_times_76 ?_
    refine lv_iadd hx hb dX0_times_77 ?_
    obtain ⟨v9, ev9, hf⟩ := nm_elim hf
    try dsimp only at hf
    refine tp_I ev9 ?_
    refine lv_istore (lv' := [(10, .int v9), (9, .int v8), (8, .int v7), (7, .int v6), (6, .int v5), (5, .int v4), (4, .int v3), (3, .int v2), (0, .ref (ad 40)), (1, .int p0), (2, .int p1)]) hx hb dX0_times_78 hl (by decide) rfl (fun ls hl => ?_)
    refine lv_iload_n hx hb dX0_times_80 rfl (lv_at hl 7 rfl) ?_
    refine lv_iload hx hb dX0_times_81 (lv_at hl 2 rfl) ?_
    refine lv_imul hx hb dX0_times_83 ?_
    refine lv_iload hx hb dX0_times_84 (lv_at hl 6 rfl) ?_
    refine lv_iload hx hb dX0_times_86 (lv_at hl 3 rfl) ?_
    refine lv_imul hx hb dX0_times_88 ?_
    refine lv_iadd hx hb dX0_times_89 ?_
    refine lv_iload hx hb dX0_times_90 (lv_at hl 5 rfl) ?_
    refine lv_iload hx hb dX0_times_92 (lv_at hl 4 rfl) ?_
    refine lv_imul hx hb dX0_times_94 ?_
    refine lv_iadd hx hb dX0_times_95 ?_
    obtain ⟨v10, ev10, hf⟩ := nm_elim hf
    try dsimp only at hf
    refine tp_I ev10 ?_
    refine lv_istore (lv' := [(11, .int v10), (10, .int v9), (9, .int v8), (8, .int v7), (7, .int v6), (6, .int v5), (5, .int v4), (4, .int v3), (3, .int v2), (0, .ref (ad 40)), (1, .int p0), (2, .int p1)]) hx hb dX0_times_96 hl (by decide) rfl (fun ls hl => ?_)
    refine lv_aload_n hx hb dX0_times_98 rfl (lv_at hl 9 rfl) ?_
    refine va_get (ci := 0) (v := .int (E 0)) (C := RX0) (T := TX0) (N := 8) hx hb hts (by decide +kernel) hown hK hP 40 cc_ext rfl 0 (by decide) (hts (.fieldLink RX0 9 "NumberFieldFactors$Extension" "degree" "I") (by decide +kernel)) (fun _ h9 => h9) rfl dX0_times_99 ?_
    refine lv_iconst (v := 2) hx hb dX0_times_102 (by decide) ?_
    refine lv_icmp_ne (tgt := 158) hx hb dX0_times_103 (by decide) (fun c11 => ?_) (fun c11 => ?_)
    · rw [if_neg c11] at hf
      refine lv_bipush (v := 101) hx hb dX0_times_158 (by decide) ?_
      refine lv_iload hx hb dX0_times_160 (lv_at hl 6 rfl) ?_
      refine lv_iload hx hb dX0_times_162 (lv_at hl 3 rfl) ?_
      refine lv_imul hx hb dX0_times_164 ?_
      refine lv_bipush (v := 101) hx hb dX0_times_165 (by decide) ?_
      refine jv_irem hx hb dX0_times_167 (by decide) ?_
      refine lv_isub hx hb dX0_times_168 ?_
      refine lv_bipush (v := 101) hx hb dX0_times_169 (by decide) ?_
      refine jv_irem hx hb dX0_times_171 (by decide) ?_
      obtain ⟨v12, ev12, hf⟩ := nm_elim hf
      try dsimp only at hf
      refine tp_I ev12 ?_
      refine lv_istore (lv' := [(12, .int v12), (11, .int v10), (10, .int v9), (9, .int v8), (8, .int v7), (7, .int v6), (6, .int v5), (5, .int v4), (4, .int v3), (3, .int v2), (0, .ref (ad 40)), (1, .int p0), (2, .int p1)]) hx hb dX0_times_172 hl (by decide) rfl (fun ls hl => ?_)
      refine lv_iload hx hb dX0_times_174 (lv_at hl 8 rfl) ?_
      refine lv_iload hx hb dX0_times_176 (lv_at hl 4 rfl) ?_
      refine lv_imul hx hb dX0_times_178 ?_
      refine lv_iload hx hb dX0_times_179 (lv_at hl 7 rfl) ?_
      refine lv_iload hx hb dX0_times_181 (lv_at hl 5 rfl) ?_
      refine lv_imul hx hb dX0_times_183 ?_
      refine lv_iadd hx hb dX0_times_184 ?_
      refine lv_iload hx hb dX0_times_185 (lv_at hl 0 rfl) ?_
      refine lv_aload_n hx hb dX0_times_187 rfl (lv_at hl 10 rfl) ?_
      refine va_get (ci := 0) (v := .int (E 4)) (C := RX0) (T := TX0) (N := 8) hx hb hts (by decide +kernel) hown hK hP 40 cc_ext rfl 4 (by decide) (hts (.fieldLink RX0 24 "NumberFieldFactors$Extension" "low2" "I") (by decide +kernel)) (fun _ h9 => h9) rfl dX0_times_188 ?_
      refine lv_imul hx hb dX0_times_191 ?_
      refine lv_iadd hx hb dX0_times_192 ?_
      obtain ⟨v13, ev13, hf⟩ := nm_elim hf
      try dsimp only at hf
      refine tp_I ev13 ?_
      refine lv_istore (lv' := [(13, .int v13), (12, .int v12), (11, .int v10), (10, .int v9), (9, .int v8), (8, .int v7), (7, .int v6), (6, .int v5), (5, .int v4), (4, .int v3), (3, .int v2), (0, .ref (ad 40)), (1, .int p0), (2, .int p1)]) hx hb dX0_times_193 hl (by decide) rfl (fun ls hl => ?_)
      refine lv_bipush (v := 101) hx hb dX0_times_195 (by decide) ?_
      refine lv_iload hx hb dX0_times_197 (lv_at hl 0 rfl) ?_
      refine lv_bipush (v := 101) hx hb dX0_times_199 (by decide) ?_
      refine jv_irem hx hb dX0_times_201 (by decide) ?_
      refine lv_isub hx hb dX0_times_202 ?_
      refine lv_bipush (v := 101) hx hb dX0_times_203 (by decide) ?_
      refine jv_irem hx hb dX0_times_205 (by decide) ?_
      obtain ⟨v14, ev14, hf⟩ := nm_elim hf
      try dsimp only at hf
      refine tp_I ev14 ?_
      refine lv_istore (lv' := [(14, .int v14), (13, .int v13), (12, .int v12), (11, .int v10), (10, .int v9), (9, .int v8), (8, .int v7), (7, .int v6), (6, .int v5), (5, .int v4), (4, .int v3), (3, .int v2), (0, .ref (ad 40)), (1, .int p0), (2, .int p1)]) hx hb dX0_times_206 hl (by decide) rfl (fun ls hl => ?_)
      refine lv_iload hx hb dX0_times_208 (lv_at hl 3 rfl) ?_
      refine lv_iload hx hb dX0_times_210 (lv_at hl 2 rfl) ?_
      refine lv_aload_n hx hb dX0_times_212 rfl (lv_at hl 12 rfl) ?_
      refine va_get (ci := 0) (v := .int (E 3)) (C := RX0) (T := TX0) (N := 8) hx hb hts (by decide +kernel) hown hK hP 40 cc_ext rfl 3 (by decide) (hts (.fieldLink RX0 21 "NumberFieldFactors$Extension" "low1" "I") (by decide +kernel)) (fun _ h9 => h9) rfl dX0_times_213 ?_
      refine lv_imul hx hb dX0_times_216 ?_
      refine lv_iload hx hb dX0_times_217 (lv_at hl 0 rfl) ?_
      refine lv_aload_n hx hb dX0_times_219 rfl (lv_at hl 12 rfl) ?_
      refine va_get (ci := 0) (v := .int (E 4)) (C := RX0) (T := TX0) (N := 8) hx hb hts (by decide +kernel) hown hK hP 40 cc_ext rfl 4 (by decide) (hts (.fieldLink RX0 24 "NumberFieldFactors$Extension" "low2" "I") (by decide +kernel)) (fun _ h9 => h9) rfl dX0_times_220 ?_
      refine lv_imul hx hb dX0_times_223 ?_
      refine lv_iadd hx hb dX0_times_224 ?_
      refine lv_iadd hx hb dX0_times_225 ?_
      obtain ⟨v15, ev15, hf⟩ := nm_elim hf
      try dsimp only at hf
      refine tp_I ev15 ?_
      refine lv_istore (lv' := [(11, .int v15), (14, .int v14), (13, .int v13), (12, .int v12), (10, .int v9), (9, .int v8), (8, .int v7), (7, .int v6), (6, .int v5), (5, .int v4), (4, .int v3), (3, .int v2), (0, .ref (ad 40)), (1, .int p0), (2, .int p1)]) hx hb dX0_times_226 hl (by decide) rfl (fun ls hl => ?_)
      refine lv_iload hx hb dX0_times_228 (lv_at hl 4 rfl) ?_
      refine lv_iload hx hb dX0_times_230 (lv_at hl 3 rfl) ?_
      refine lv_aload_n hx hb dX0_times_232 rfl (lv_at hl 12 rfl) ?_
      refine va_get (ci := 0) (v := .int (E 2)) (C := RX0) (T := TX0) (N := 8) hx hb hts (by decide +kernel) hown hK hP 40 cc_ext rfl 2 (by decide) (hts (.fieldLink RX0 18 "NumberFieldFactors$Extension" "low0" "I") (by decide +kernel)) (fun _ h9 => h9) rfl dX0_times_233 ?_
      refine lv_imul hx hb dX0_times_236 ?_
      refine lv_iload hx hb dX0_times_237 (lv_at hl 1 rfl) ?_
      refine lv_aload_n hx hb dX0_times_239 rfl (lv_at hl 12 rfl) ?_
      refine va_get (ci := 0) (v := .int (E 3)) (C := RX0) (T := TX0) (N := 8) hx hb hts (by decide +kernel) hown hK hP 40 cc_ext rfl 3 (by decide) (hts (.fieldLink RX0 21 "NumberFieldFactors$Extension" "low1" "I") (by decide +kernel)) (fun _ h9 => h9) rfl dX0_times_240 ?_
      refine lv_imul hx hb dX0_times_243 ?_
      refine lv_iadd hx hb dX0_times_244 ?_
      refine lv_iadd hx hb dX0_times_245 ?_
      obtain ⟨v16, ev16, hf⟩ := nm_elim hf
      try dsimp only at hf
      refine tp_I ev16 ?_
      refine lv_istore (lv' := [(10, .int v16), (11, .int v15), (14, .int v14), (13, .int v13), (12, .int v12), (9, .int v8), (8, .int v7), (7, .int v6), (6, .int v5), (5, .int v4), (4, .int v3), (3, .int v2), (0, .ref (ad 40)), (1, .int p0), (2, .int p1)]) hx hb dX0_times_246 hl (by decide) rfl (fun ls hl => ?_)
      refine lv_iload hx hb dX0_times_248 (lv_at hl 5 rfl) ?_
      refine lv_iload hx hb dX0_times_250 (lv_at hl 2 rfl) ?_
      refine lv_aload_n hx hb dX0_times_252 rfl (lv_at hl 12 rfl) ?_
      refine va_get (ci := 0) (v := .int (E 2)) (C := RX0) (T := TX0) (N := 8) hx hb hts (by decide +kernel) hown hK hP 40 cc_ext rfl 2 (by decide) (hts (.fieldLink RX0 18 "NumberFieldFactors$Extension" "low0" "I") (by decide +kernel)) (fun _ h9 => h9) rfl dX0_times_253 ?_
      refine lv_imul hx hb dX0_times_256 ?_
      refine lv_iadd hx hb dX0_times_257 ?_
      obtain ⟨v17, ev17, hf⟩ := nm_elim hf
      try dsimp only at hf
      refine tp_I ev17 ?_
      refine lv_istore (lv' := [(9, .int v17), (10, .int v16), (11, .int v15), (14, .int v14), (13, .int v13), (12, .int v12), (8, .int v7), (7, .int v6), (6, .int v5), (5, .int v4), (4, .int v3), (3, .int v2), (0, .ref (ad 40)), (1, .int p0), (2, .int p1)]) hx hb dX0_times_258 hl (by decide) rfl (fun ls hl => ?_)
      refine lv_iload hx hb dX0_times_260 (lv_at hl 0 rfl) ?_
      refine lv_bipush (v := 101) hx hb dX0_times_262 (by decide) ?_
      refine jv_irem hx hb dX0_times_264 (by decide) ?_
      refine lv_bipush (v := 101) hx hb dX0_times_265 (by decide) ?_
      refine lv_iload hx hb dX0_times_267 (lv_at hl 1 rfl) ?_
      refine lv_bipush (v := 101) hx hb dX0_times_269 (by decide) ?_
      refine jv_irem hx hb dX0_times_271 (by decide) ?_
      refine lv_imul hx hb dX0_times_272 ?_
      refine lv_iadd hx hb dX0_times_273 ?_
      refine lv_sipush (v := 10201) hx hb dX0_times_274 (by decide) ?_
      refine lv_iload hx hb dX0_times_277 (lv_at hl 2 rfl) ?_
      refine lv_bipush (v := 101) hx hb dX0_times_279 (by decide) ?_
      refine jv_irem hx hb dX0_times_281 (by decide) ?_
      refine lv_imul hx hb dX0_times_282 ?_
      refine lv_iadd hx hb dX0_times_283 ?_
      obtain rfl := Option.some.inj hf
      exact W.iret (v := ((jrem v17 101) + (101 * (jrem v16 101))) + (10201 * (jrem v15 101))) hx hb hr (fun t ht hW => ⟨rfl, by rw [ht]; exact hP, hS.F ht⟩) hS.2.2 dX0_times_284
    · rw [if_pos c11] at hf
      refine lv_bipush (v := 101) hx hb dX0_times_106 (by decide) ?_
      refine lv_iload hx hb dX0_times_108 (lv_at hl 0 rfl) ?_
      refine lv_bipush (v := 101) hx hb dX0_times_110 (by decide) ?_
      refine jv_irem hx hb dX0_times_112 (by decide) ?_
      refine lv_isub hx hb dX0_times_113 ?_
      refine lv_bipush (v := 101) hx hb dX0_times_114 (by decide) ?_
      refine jv_irem hx hb dX0_times_116 (by decide) ?_
      obtain ⟨v18, ev18, hf⟩ := nm_elim hf
      try dsimp only at hf
      refine tp_I ev18 ?_
      refine lv_istore (lv' := [(12, .int v18), (11, .int v10), (10, .int v9), (9, .int v8), (8, .int v7), (7, .int v6), (6, .int v5), (5, .int v4), (4, .int v3), (3, .int v2), (0, .ref (ad 40)), (1, .int p0), (2, .int p1)]) hx hb dX0_times_117 hl (by decide) rfl (fun ls hl => ?_)
      refine lv_iload hx hb dX0_times_119 (lv_at hl 2 rfl) ?_
      refine lv_iload hx hb dX0_times_121 (lv_at hl 0 rfl) ?_
      refine lv_aload_n hx hb dX0_times_123 rfl (lv_at hl 10 rfl) ?_
      refine va_get (ci := 0) (v := .int (E 3)) (C := RX0) (T := TX0) (N := 8) hx hb hts (by decide +kernel) hown hK hP 40 cc_ext rfl 3 (by decide) (hts (.fieldLink RX0 21 "NumberFieldFactors$Extension" "low1" "I") (by decide +kernel)) (fun _ h9 => h9) rfl dX0_times_124 ?_
      refine lv_imul hx hb dX0_times_127 ?_
      refine lv_iadd hx hb dX0_times_128 ?_
      obtain ⟨v19, ev19, hf⟩ := nm_elim hf
      try dsimp only at hf
      refine tp_I ev19 ?_
      refine lv_istore (lv' := [(10, .int v19), (12, .int v18), (11, .int v10), (9, .int v8), (8, .int v7), (7, .int v6), (6, .int v5), (5, .int v4), (4, .int v3), (3, .int v2), (0, .ref (ad 40)), (1, .int p0), (2, .int p1)]) hx hb dX0_times_129 hl (by decide) rfl (fun ls hl => ?_)
      refine lv_iload hx hb dX0_times_131 (lv_at hl 3 rfl) ?_
      refine lv_iload hx hb dX0_times_133 (lv_at hl 1 rfl) ?_
      refine lv_aload_n hx hb dX0_times_135 rfl (lv_at hl 10 rfl) ?_
      refine va_get (ci := 0) (v := .int (E 2)) (C := RX0) (T := TX0) (N := 8) hx hb hts (by decide +kernel) hown hK hP 40 cc_ext rfl 2 (by decide) (hts (.fieldLink RX0 18 "NumberFieldFactors$Extension" "low0" "I") (by decide +kernel)) (fun _ h9 => h9) rfl dX0_times_136 ?_
      refine lv_imul hx hb dX0_times_139 ?_
      refine lv_iadd hx hb dX0_times_140 ?_
      obtain ⟨v20, ev20, hf⟩ := nm_elim hf
      try dsimp only at hf
      refine tp_I ev20 ?_
      refine lv_istore (lv' := [(9, .int v20), (10, .int v19), (12, .int v18), (11, .int v10), (8, .int v7), (7, .int v6), (6, .int v5), (5, .int v4), (4, .int v3), (3, .int v2), (0, .ref (ad 40)), (1, .int p0), (2, .int p1)]) hx hb dX0_times_141 hl (by decide) rfl (fun ls hl => ?_)
      refine lv_iload hx hb dX0_times_143 (lv_at hl 0 rfl) ?_
      refine lv_bipush (v := 101) hx hb dX0_times_145 (by decide) ?_
      refine jv_irem hx hb dX0_times_147 (by decide) ?_
      refine lv_bipush (v := 101) hx hb dX0_times_148 (by decide) ?_
      refine lv_iload hx hb dX0_times_150 (lv_at hl 1 rfl) ?_
      refine lv_bipush (v := 101) hx hb dX0_times_152 (by decide) ?_
      refine jv_irem hx hb dX0_times_154 (by decide) ?_
      refine lv_imul hx hb dX0_times_155 ?_
      refine lv_iadd hx hb dX0_times_156 ?_
      obtain rfl := Option.some.inj hf
      exact W.iret (v := (jrem v20 101) + (101 * (jrem v19 101))) hx hb hr (fun t ht hW => ⟨rfl, by rw [ht]; exact hP, hS.F ht⟩) hS.2.2 dX0_times_157
  · rw [if_neg c1] at hf
    refine lv_iload_n hx hb dX0_times_6 rfl (lv_at hl 2 rfl) ?_
    refine lv_bipush (v := 101) hx hb dX0_times_7 (by decide) ?_
    refine lv_icmp_ge (tgt := 19) hx hb dX0_times_9 (by decide) (fun c21 => ?_) (fun c21 => ?_)
    · rw [if_pos c21] at hf
      refine lv_iload_n hx hb dX0_times_19 rfl (lv_at hl 1 rfl) ?_
      refine lv_bipush (v := 101) hx hb dX0_times_20 (by decide) ?_
      refine jv_irem hx hb dX0_times_22 (by decide) ?_
      obtain ⟨v22, ev22, hf⟩ := nm_elim hf
      try dsimp only at hf
      refine tp_I ev22 ?_
      refine lv_istore_n (lv' := [(3, .int v22), (0, .ref (ad 40)), (1, .int p0), (2, .int p1)]) hx hb dX0_times_23 rfl hl (by decide) rfl (fun ls hl => ?_)
      refine lv_iload_n hx hb dX0_times_24 rfl (lv_at hl 2 rfl) ?_
      refine lv_bipush (v := 101) hx hb dX0_times_25 (by decide) ?_
      refine lv_idiv hx hb dX0_times_27 (by decide) ?_
      refine lv_bipush (v := 101) hx hb dX0_times_28 (by decide) ?_
      refine jv_irem hx hb dX0_times_30 (by decide) ?_
      obtain ⟨v23, ev23, hf⟩ := nm_elim hf
      try dsimp only at hf
      refine tp_I ev23 ?_
      refine lv_istore (lv' := [(4, .int v23), (3, .int v22), (0, .ref (ad 40)), (1, .int p0), (2, .int p1)]) hx hb dX0_times_31 hl (by decide) rfl (fun ls hl => ?_)
      refine lv_iload_n hx hb dX0_times_33 rfl (lv_at hl 3 rfl) ?_
      refine lv_sipush (v := 10201) hx hb dX0_times_34 (by decide) ?_
      refine lv_idiv hx hb dX0_times_37 (by decide) ?_
      obtain ⟨v24, ev24, hf⟩ := nm_elim hf
      try dsimp only at hf
      refine tp_I ev24 ?_
      refine lv_istore (lv' := [(5, .int v24), (4, .int v23), (3, .int v22), (0, .ref (ad 40)), (1, .int p0), (2, .int p1)]) hx hb dX0_times_38 hl (by decide) rfl (fun ls hl => ?_)
      refine lv_iload_n hx hb dX0_times_40 rfl (lv_at hl 5 rfl) ?_
      refine lv_bipush (v := 101) hx hb dX0_times_41 (by decide) ?_
      refine jv_irem hx hb dX0_times_43 (by decide) ?_
      obtain ⟨v25, ev25, hf⟩ := nm_elim hf
      try dsimp only at hf
      refine tp_I ev25 ?_
      refine lv_istore (lv' := [(6, .int v25), (5, .int v24), (4, .int v23), (3, .int v22), (0, .ref (ad 40)), (1, .int p0), (2, .int p1)]) hx hb dX0_times_44 hl (by decide) rfl (fun ls hl => ?_)
      refine lv_iload_n hx hb dX0_times_46 rfl (lv_at hl 6 rfl) ?_
      refine lv_bipush (v := 101) hx hb dX0_times_47 (by decide) ?_
      refine lv_idiv hx hb dX0_times_49 (by decide) ?_
      refine lv_bipush (v := 101) hx hb dX0_times_50 (by decide) ?_
      refine jv_irem hx hb dX0_times_52 (by decide) ?_
      obtain ⟨v26, ev26, hf⟩ := nm_elim hf
      try dsimp only at hf
      refine tp_I ev26 ?_
      refine lv_istore (lv' := [(7, .int v26), (6, .int v25), (5, .int v24), (4, .int v23), (3, .int v22), (0, .ref (ad 40)), (1, .int p0), (2, .int p1)]) hx hb dX0_times_53 hl (by decide) rfl (fun ls hl => ?_)
      refine lv_iload_n hx hb dX0_times_55 rfl (lv_at hl 7 rfl) ?_
      refine lv_sipush (v := 10201) hx hb dX0_times_56 (by decide) ?_
      refine lv_idiv hx hb dX0_times_59 (by decide) ?_
      obtain ⟨v27, ev27, hf⟩ := nm_elim hf
      try dsimp only at hf
      refine tp_I ev27 ?_
      refine lv_istore (lv' := [(8, .int v27), (7, .int v26), (6, .int v25), (5, .int v24), (4, .int v23), (3, .int v22), (0, .ref (ad 40)), (1, .int p0), (2, .int p1)]) hx hb dX0_times_60 hl (by decide) rfl (fun ls hl => ?_)
      refine lv_iload_n hx hb dX0_times_62 rfl (lv_at hl 5 rfl) ?_
      refine lv_iload hx hb dX0_times_63 (lv_at hl 2 rfl) ?_
      refine lv_imul hx hb dX0_times_65 ?_
      obtain ⟨v28, ev28, hf⟩ := nm_elim hf
      try dsimp only at hf
      refine tp_I ev28 ?_
      refine lv_istore (lv' := [(9, .int v28), (8, .int v27), (7, .int v26), (6, .int v25), (5, .int v24), (4, .int v23), (3, .int v22), (0, .ref (ad 40)), (1, .int p0), (2, .int p1)]) hx hb dX0_times_66 hl (by decide) rfl (fun ls hl => ?_)
      refine lv_iload_n hx hb dX0_times_68 rfl (lv_at hl 6 rfl) ?_
      refine lv_iload hx hb dX0_times_69 (lv_at hl 2 rfl) ?_
      refine lv_imul hx hb dX0_times_71 ?_
      refine lv_iload hx hb dX0_times_72 (lv_at hl 5 rfl) ?_
      refine lv_iload hx hb dX0_times_74 (lv_at hl 3 rfl) ?_
      refine lv_imul hx hb dX0_times_76 ?_
      refine lv_iadd hx hb dX0_times_77 ?_
      obtain ⟨v29, ev29, hf⟩ := nm_elim hf
      try dsimp only at hf
      refine tp_I ev29 ?_
      refine lv_istore (lv' := [(10, .int v29), (9, .int v28), (8, .int v27), (7, .int v26), (6, .int v25), (5, .int v24), (4, .int v23), (3, .int v22), (0, .ref (ad 40)), (1, .int p0), (2, .int p1)]) hx hb dX0_times_78 hl (by decide) rfl (fun ls hl => ?_)
      refine lv_iload_n hx hb dX0_times_80 rfl (lv_at hl 7 rfl) ?_
      refine lv_iload hx hb dX0_times_81 (lv_at hl 2 rfl) ?_
      refine lv_imul hx hb dX0_times_83 ?_
      refine lv_iload hx hb dX0_times_84 (lv_at hl 6 rfl) ?_
      refine lv_iload hx hb dX0_times_86 (lv_at hl 3 rfl) ?_
      refine lv_imul hx hb dX0_times_88 ?_
      refine lv_iadd hx hb dX0_times_89 ?_
      refine lv_iload hx hb dX0_times_90 (lv_at hl 5 rfl) ?_
      refine lv_iload hx hb dX0_times_92 (lv_at hl 4 rfl) ?_
      refine lv_imul hx hb dX0_times_94 ?_
      refine lv_iadd hx hb dX0_times_95 ?_
      obtain ⟨v30, ev30, hf⟩ := nm_elim hf
      try dsimp only at hf
      refine tp_I ev30 ?_
      refine lv_istore (lv' := [(11, .int v30), (10, .int v29), (9, .int v28), (8, .int v27), (7, .int v26), (6, .int v25), (5, .int v24), (4, .int v23), (3, .int v22), (0, .ref (ad 40)), (1, .int p0), (2, .int p1)]) hx hb dX0_times_96 hl (by decide) rfl (fun ls hl => ?_)
      refine lv_aload_n hx hb dX0_times_98 rfl (lv_at hl 9 rfl) ?_
      refine va_get (ci := 0) (v := .int (E 0)) (C := RX0) (T := TX0) (N := 8) hx hb hts (by decide +kernel) hown hK hP 40 cc_ext rfl 0 (by decide) (hts (.fieldLink RX0 9 "NumberFieldFactors$Extension" "degree" "I") (by decide +kernel)) (fun _ h9 => h9) rfl dX0_times_99 ?_
      refine lv_iconst (v := 2) hx hb dX0_times_102 (by decide) ?_
      refine lv_icmp_ne (tgt := 158) hx hb dX0_times_103 (by decide) (fun c31 => ?_) (fun c31 => ?_)
      · rw [if_neg c31] at hf
        refine lv_bipush (v := 101) hx hb dX0_times_158 (by decide) ?_
        refine lv_iload hx hb dX0_times_160 (lv_at hl 6 rfl) ?_
        refine lv_iload hx hb dX0_times_162 (lv_at hl 3 rfl) ?_
        refine lv_imul hx hb dX0_times_164 ?_
        refine lv_bipush (v := 101) hx hb dX0_times_165 (by decide) ?_
        refine jv_irem hx hb dX0_times_167 (by decide) ?_
        refine lv_isub hx hb dX0_times_168 ?_
        refine lv_bipush (v := 101) hx hb dX0_times_169 (by decide) ?_
        refine jv_irem hx hb dX0_times_171 (by decide) ?_
        obtain ⟨v32, ev32, hf⟩ := nm_elim hf
        try dsimp only at hf
        refine tp_I ev32 ?_
        refine lv_istore (lv' := [(12, .int v32), (11, .int v30), (10, .int v29), (9, .int v28), (8, .int v27), (7, .int v26), (6, .int v25), (5, .int v24), (4, .int v23), (3, .int v22), (0, .ref (ad 40)), (1, .int p0), (2, .int p1)]) hx hb dX0_times_172 hl (by decide) rfl (fun ls hl => ?_)
        refine lv_iload hx hb dX0_times_174 (lv_at hl 8 rfl) ?_
        refine lv_iload hx hb dX0_times_176 (lv_at hl 4 rfl) ?_
        refine lv_imul hx hb dX0_times_178 ?_
        refine lv_iload hx hb dX0_times_179 (lv_at hl 7 rfl) ?_
        refine lv_iload hx hb dX0_times_181 (lv_at hl 5 rfl) ?_
        refine lv_imul hx hb dX0_times_183 ?_
        refine lv_iadd hx hb dX0_times_184 ?_
        refine lv_iload hx hb dX0_times_185 (lv_at hl 0 rfl) ?_
        refine lv_aload_n hx hb dX0_times_187 rfl (lv_at hl 10 rfl) ?_
        refine va_get (ci := 0) (v := .int (E 4)) (C := RX0) (T := TX0) (N := 8) hx hb hts (by decide +kernel) hown hK hP 40 cc_ext rfl 4 (by decide) (hts (.fieldLink RX0 24 "NumberFieldFactors$Extension" "low2" "I") (by decide +kernel)) (fun _ h9 => h9) rfl dX0_times_188 ?_
        refine lv_imul hx hb dX0_times_191 ?_
        refine lv_iadd hx hb dX0_times_192 ?_
        obtain ⟨v33, ev33, hf⟩ := nm_elim hf
        try dsimp only at hf
        refine tp_I ev33 ?_
        refine lv_istore (lv' := [(13, .int v33), (12, .int v32), (11, .int v30), (10, .int v29), (9, .int v28), (8, .int v27), (7, .int v26), (6, .int v25), (5, .int v24), (4, .int v23), (3, .int v22), (0, .ref (ad 40)), (1, .int p0), (2, .int p1)]) hx hb dX0_times_193 hl (by decide) rfl (fun ls hl => ?_)
        refine lv_bipush (v := 101) hx hb dX0_times_195 (by decide) ?_
        refine lv_iload hx hb dX0_times_197 (lv_at hl 0 rfl) ?_
        refine lv_bipush (v := 101) hx hb dX0_times_199 (by decide) ?_
        refine jv_irem hx hb dX0_times_201 (by decide) ?_
        refine lv_isub hx hb dX0_times_202 ?_
        refine lv_bipush (v := 101) hx hb dX0_times_203 (by decide) ?_
        refine jv_irem hx hb dX0_times_205 (by decide) ?_
        obtain ⟨v34, ev34, hf⟩ := nm_elim hf
        try dsimp only at hf
        refine tp_I ev34 ?_
        refine lv_istore (lv' := [(14, .int v34), (13, .int v33), (12, .int v32), (11, .int v30), (10, .int v29), (9, .int v28), (8, .int v27), (7, .int v26), (6, .int v25), (5, .int v24), (4, .int v23), (3, .int v22), (0, .ref (ad 40)), (1, .int p0), (2, .int p1)]) hx hb dX0_times_206 hl (by decide) rfl (fun ls hl => ?_)
        refine lv_iload hx hb dX0_times_208 (lv_at hl 3 rfl) ?_
        refine lv_iload hx hb dX0_times_210 (lv_at hl 2 rfl) ?_
        refine lv_aload_n hx hb dX0_times_212 rfl (lv_at hl 12 rfl) ?_
        refine va_get (ci := 0) (v := .int (E 3)) (C := RX0) (T := TX0) (N := 8) hx hb hts (by decide +kernel) hown hK hP 40 cc_ext rfl 3 (by decide) (hts (.fieldLink RX0 21 "NumberFieldFactors$Extension" "low1" "I") (by decide +kernel)) (fun _ h9 => h9) rfl dX0_times_213 ?_
        refine lv_imul hx hb dX0_times_216 ?_
        refine lv_iload hx hb dX0_times_217 (lv_at hl 0 rfl) ?_
        refine lv_aload_n hx hb dX0_times_219 rfl (lv_at hl 12 rfl) ?_
        refine va_get (ci := 0) (v := .int (E 4)) (C := RX0) (T := TX0) (N := 8) hx hb hts (by decide +kernel) hown hK hP 40 cc_ext rfl 4 (by decide) (hts (.fieldLink RX0 24 "NumberFieldFactors$Extension" "low2" "I") (by decide +kernel)) (fun _ h9 => h9) rfl dX0_times_220 ?_
        refine lv_imul hx hb dX0_times_223 ?_
        refine lv_iadd hx hb dX0_times_224 ?_
        refine lv_iadd hx hb dX0_times_225 ?_
        obtain ⟨v35, ev35, hf⟩ := nm_elim hf
        try dsimp only at hf
        refine tp_I ev35 ?_
        refine lv_istore (lv' := [(11, .int v35), (14, .int v34), (13, .int v33), (12, .int v32), (10, .int v29), (9, .int v28), (8, .int v27), (7, .int v26), (6, .int v25), (5, .int v24), (4, .int v23), (3, .int v22), (0, .ref (ad 40)), (1, .int p0), (2, .int p1)]) hx hb dX0_times_226 hl (by decide) rfl (fun ls hl => ?_)
        refine lv_iload hx hb dX0_times_228 (lv_at hl 4 rfl) ?_
        refine lv_iload hx hb dX0_times_230 (lv_at hl 3 rfl) ?_
        refine lv_aload_n hx hb dX0_times_232 rfl (lv_at hl 12 rfl) ?_
        refine va_get (ci := 0) (v := .int (E 2)) (C := RX0) (T := TX0) (N := 8) hx hb hts (by decide +kernel) hown hK hP 40 cc_ext rfl 2 (by decide) (hts (.fieldLink RX0 18 "NumberFieldFactors$Extension" "low0" "I") (by decide +kernel)) (fun _ h9 => h9) rfl dX0_times_233 ?_
        refine lv_imul hx hb dX0_times_236 ?_
        refine lv_iload hx hb dX0_times_237 (lv_at hl 1 rfl) ?_
        refine lv_aload_n hx hb dX0_times_239 rfl (lv_at hl 12 rfl) ?_
        refine va_get (ci := 0) (v := .int (E 3)) (C := RX0) (T := TX0) (N := 8) hx hb hts (by decide +kernel) hown hK hP 40 cc_ext rfl 3 (by decide) (hts (.fieldLink RX0 21 "NumberFieldFactors$Extension" "low1" "I") (by decide +kernel)) (fun _ h9 => h9) rfl dX0_times_240 ?_
        refine lv_imul hx hb dX0_times_243 ?_
        refine lv_iadd hx hb dX0_times_244 ?_
        refine lv_iadd hx hb dX0_times_245 ?_
        obtain ⟨v36, ev36, hf⟩ := nm_elim hf
        try dsimp only at hf
        refine tp_I ev36 ?_
        refine lv_istore (lv' := [(10, .int v36), (11, .int v35), (14, .int v34), (13, .int v33), (12, .int v32), (9, .int v28), (8, .int v27), (7, .int v26), (6, .int v25), (5, .int v24), (4, .int v23), (3, .int v22), (0, .ref (ad 40)), (1, .int p0), (2, .int p1)]) hx hb dX0_times_246 hl (by decide) rfl (fun ls hl => ?_)
        refine lv_iload hx hb dX0_times_248 (lv_at hl 5 rfl) ?_
        refine lv_iload hx hb dX0_times_250 (lv_at hl 2 rfl) ?_
        refine lv_aload_n hx hb dX0_times_252 rfl (lv_at hl 12 rfl) ?_
        refine va_get (ci := 0) (v := .int (E 2)) (C := RX0) (T := TX0) (N := 8) hx hb hts (by decide +kernel) hown hK hP 40 cc_ext rfl 2 (by decide) (hts (.fieldLink RX0 18 "NumberFieldFactors$Extension" "low0" "I") (by decide +kernel)) (fun _ h9 => h9) rfl dX0_times_253 ?_
        refine lv_imul hx hb dX0_times_256 ?_
        refine lv_iadd hx hb dX0_times_257 ?_
        obtain ⟨v37, ev37, hf⟩ := nm_elim hf
        try dsimp only at hf
        refine tp_I ev37 ?_
        refine lv_istore (lv' := [(9, .int v37), (10, .int v36), (11, .int v35), (14, .int v34), (13, .int v33), (12, .int v32), (8, .int v27), (7, .int v26), (6, .int v25), (5, .int v24), (4, .int v23), (3, .int v22), (0, .ref (ad 40)), (1, .int p0), (2, .int p1)]) hx hb dX0_times_258 hl (by decide) rfl (fun ls hl => ?_)
        refine lv_iload hx hb dX0_times_260 (lv_at hl 0 rfl) ?_
        refine lv_bipush (v := 101) hx hb dX0_times_262 (by decide) ?_
        refine jv_irem hx hb dX0_times_264 (by decide) ?_
        refine lv_bipush (v := 101) hx hb dX0_times_265 (by decide) ?_
        refine lv_iload hx hb dX0_times_267 (lv_at hl 1 rfl) ?_
        refine lv_bipush (v := 101) hx hb dX0_times_269 (by decide) ?_
        refine jv_irem hx hb dX0_times_271 (by decide) ?_
        refine lv_imul hx hb dX0_times_272 ?_
        refine lv_iadd hx hb dX0_times_273 ?_
        refine lv_sipush (v := 10201) hx hb dX0_times_274 (by decide) ?_
        refine lv_iload hx hb dX0_times_277 (lv_at hl 2 rfl) ?_
        refine lv_bipush (v := 101) hx hb dX0_times_279 (by decide) ?_
        refine jv_irem hx hb dX0_times_281 (by decide) ?_
        refine lv_imul hx hb dX0_times_282 ?_
        refine lv_iadd hx hb dX0_times_283 ?_
        obtain rfl := Option.some.inj hf
        exact W.iret (v := ((jrem v37 101) + (101 * (jrem v36 101))) + (10201 * (jrem v35 101))) hx hb hr (fun t ht hW => ⟨rfl, by rw [ht]; exact hP, hS.F ht⟩) hS.2.2 dX0_times_284
      · rw [if_pos c31] at hf
        refine lv_bipush (v := 101) hx hb dX0_times_106 (by decide) ?_
        refine lv_iload hx hb dX0_times_108 (lv_at hl 0 rfl) ?_
        refine lv_bipush (v := 101) hx hb dX0_times_110 (by decide) ?_
        refine jv_irem hx hb dX0_times_112 (by decide) ?_
        refine lv_isub hx hb dX0_times_113 ?_
        refine lv_bipush (v := 101) hx hb dX0_times_114 (by decide) ?_
        refine jv_irem hx hb dX0_times_116 (by decide) ?_
        obtain ⟨v38, ev38, hf⟩ := nm_elim hf
        try dsimp only at hf
        refine tp_I ev38 ?_
        refine lv_istore (lv' := [(12, .int v38), (11, .int v30), (10, .int v29), (9, .int v28), (8, .int v27), (7, .int v26), (6, .int v25), (5, .int v24), (4, .int v23), (3, .int v22), (0, .ref (ad 40)), (1, .int p0), (2, .int p1)]) hx hb dX0_times_117 hl (by decide) rfl (fun ls hl => ?_)
        refine lv_iload hx hb dX0_times_119 (lv_at hl 2 rfl) ?_
        refine lv_iload hx hb dX0_times_121 (lv_at hl 0 rfl) ?_
        refine lv_aload_n hx hb dX0_times_123 rfl (lv_at hl 10 rfl) ?_
        refine va_get (ci := 0) (v := .int (E 3)) (C := RX0) (T := TX0) (N := 8) hx hb hts (by decide +kernel) hown hK hP 40 cc_ext rfl 3 (by decide) (hts (.fieldLink RX0 21 "NumberFieldFactors$Extension" "low1" "I") (by decide +kernel)) (fun _ h9 => h9) rfl dX0_times_124 ?_
        refine lv_imul hx hb dX0_times_127 ?_
        refine lv_iadd hx hb dX0_times_128 ?_
        obtain ⟨v39, ev39, hf⟩ := nm_elim hf
        try dsimp only at hf
        refine tp_I ev39 ?_
        refine lv_istore (lv' := [(10, .int v39), (12, .int v38), (11, .int v30), (9, .int v28), (8, .int v27), (7, .int v26), (6, .int v25), (5, .int v24), (4, .int v23), (3, .int v22), (0, .ref (ad 40)), (1, .int p0), (2, .int p1)]) hx hb dX0_times_129 hl (by decide) rfl (fun ls hl => ?_)
        refine lv_iload hx hb dX0_times_131 (lv_at hl 3 rfl) ?_
        refine lv_iload hx hb dX0_times_133 (lv_at hl 1 rfl) ?_
        refine lv_aload_n hx hb dX0_times_135 rfl (lv_at hl 10 rfl) ?_
        refine va_get (ci := 0) (v := .int (E 2)) (C := RX0) (T := TX0) (N := 8) hx hb hts (by decide +kernel) hown hK hP 40 cc_ext rfl 2 (by decide) (hts (.fieldLink RX0 18 "NumberFieldFactors$Extension" "low0" "I") (by decide +kernel)) (fun _ h9 => h9) rfl dX0_times_136 ?_
        refine lv_imul hx hb dX0_times_139 ?_
        refine lv_iadd hx hb dX0_times_140 ?_
        obtain ⟨v40, ev40, hf⟩ := nm_elim hf
        try dsimp only at hf
        refine tp_I ev40 ?_
        refine lv_istore (lv' := [(9, .int v40), (10, .int v39), (12, .int v38), (11, .int v30), (8, .int v27), (7, .int v26), (6, .int v25), (5, .int v24), (4, .int v23), (3, .int v22), (0, .ref (ad 40)), (1, .int p0), (2, .int p1)]) hx hb dX0_times_141 hl (by decide) rfl (fun ls hl => ?_)
        refine lv_iload hx hb dX0_times_143 (lv_at hl 0 rfl) ?_
        refine lv_bipush (v := 101) hx hb dX0_times_145 (by decide) ?_
        refine jv_irem hx hb dX0_times_147 (by decide) ?_
        refine lv_bipush (v := 101) hx hb dX0_times_148 (by decide) ?_
        refine lv_iload hx hb dX0_times_150 (lv_at hl 1 rfl) ?_
        refine lv_bipush (v := 101) hx hb dX0_times_152 (by decide) ?_
        refine jv_irem hx hb dX0_times_154 (by decide) ?_
        refine lv_imul hx hb dX0_times_155 ?_
        refine lv_iadd hx hb dX0_times_156 ?_
        obtain rfl := Option.some.inj hf
        exact W.iret (v := (jrem v40 101) + (101 * (jrem v39 101))) hx hb hr (fun t ht hW => ⟨rfl, by rw [ht]; exact hP, hS.F ht⟩) hS.2.2 dX0_times_157
    · rw [if_neg c21] at hf
      refine lv_iload_n hx hb dX0_times_12 rfl (lv_at hl 1 rfl) ?_
      refine lv_iload_n hx hb dX0_times_13 rfl (lv_at hl 2 rfl) ?_
      refine lv_imul hx hb dX0_times_14 ?_
      refine lv_bipush (v := 101) hx hb dX0_times_15 (by decide) ?_
      refine jv_irem hx hb dX0_times_17 (by decide) ?_
      obtain rfl := Option.some.inj hf
      exact W.iret (v := jrem (p0 * p1) 101) hx hb hr (fun t ht hW => ⟨rfl, by rw [ht]; exact hP, hS.F ht⟩) hS.2.2 dX0_times_18
def f_X0_power_l8 (k8 : Int32 → Int32 → Int32 → Option (Int32)) (fu : Nat) (E : Nat → Int32) (x1 : Int32) (x2 : Int32) : Nat → Int32 → Int32 → Int32 → Option (Int32)
  | 0, _, _, _ => none
  | n + 1, x3, x4, x5 =>
    if x5 ≤ 0 then
      k8 x3 x4 x5
    else
      ((
        if (x5 &&& 1) = 1 then
          (f_X0_times E x3 x4).bind (fun u4 =>
          some u4)
        else
          some x3 : Option (Int32))).bind (fun w2 =>
      (f_X0_times E x4 x4).bind (fun u6 =>
      nm (x5 >>> (1 &&& 31)) (fun v8 =>
      f_X0_power_l8 k8 fu E x1 x2 n w2 u6 v8)))
def f_X0_power (fu : Nat) (E : Nat → Int32) (p0 : Int32) (p1 : Int32) : Option (Int32) :=
  f_X0_power_l8 (fun y9 y10 y11 =>
    some y9) fu E p0 p1 fu 1 p0 p1
set_option maxHeartbeats 4000000 in
set_option maxRecDepth 100000 in
theorem C_X0_power (l : Launch) (D : va_G) (tys : List (ClassId × FieldType)) (nw : List Cond) (hn : nw.all nw_kind = true) (hnw : ∀ w ∈ nw0, w ∈ nw) {ad : Nat → Nat} (hj : ww_inj 46 ad) {cI : ClassId} {cR : ClassId} (htI : tys[0]? = some (cI, .int)) (htR : tys[1]? = some (cR, .object RX2)) {fu : Nat} {M : Fin 20 → Nat → Int32} {E : Nat → Int32} {P : Nat → Fin 20} {C : Nat → Int32} {N : Nat → Int32} {p0 : Int32} {p1 : Int32} {res : Int32} (hf : f_X0_power fu E p0 p1 = some res) :
    Met l yX0_power wsX0_power ({ frames := 1, cells := 0, slots := 0, locals := 34 }) (va_Pc [.ref (ad 40), .int p0, .int p1] (ws_B D tys nw (ww 46 ad (cellC cI cR ad M E P C N)))) (ct_Q D (ww 46 ad (cellC cI cR ad M E P C N)) (ww_A 46 ad) (some (.int res))) 0 0 (ww_A 46 ad) := by
  refine Met.ofW (cc := cX0_power) (maxL := 6) (ret := (some .int)) (by decide) rfl ?_
  intro p e s m args below meth c s₁ B hml hv
  obtain ⟨rfl, hP, hK, hN⟩ := hv
  have hx := B.exec
  have hb := B.bytes
  have hr := B.returns
  have hts := atoms_spec (ws := wsX0_power) B.pre
  have hown : s.vm.findClass RX0 = some m.cls := findClass_of_methodNamed B.named
  have hlocks := B.notSynchronized
  have hS : va_S (ww_A 46 ad) s.heap s.heap [] := va_S.rf
  have hl := lv_entry ([.ref (ad 40), .int p0, .int p1]) (n := 6) (Nat.le_of_ble_eq_true rfl)
  rw [lg_entry_eq]
  generalize (lg_sl ([.ref (ad 40), .int p0, .int p1]) ++ List.replicate (6 - (lg_sl ([.ref (ad 40), .int p0, .int p1])).length) Slot.unset).toArray = ls at hl ⊢
  have hl : lv_has ls 6 [(0, .ref (ad 40)), (1, .int p0), (2, .int p1)] := hl
  have L8 : ∀ (x1 : Int32) (x2 : Int32) (k8 : Int32 → Int32 → Int32 → Option (Int32)), (∀ (x3 : Int32) (x4 : Int32) (x5 : Int32) (H : Heap) (locs : List Loc) (ls : Array Slot), va_P D vwCl (ww 46 ad (cellC cI cR ad M E P C N)) H → va_S (ww_A 46 ad) s.heap H locs → lv_has ls 6 [(0, .ref (ad 40)), (1, .int x1), (2, .int x2), (3, .int x3), (4, .int x4), (5, .int x5)] →  k8 x3 x4 x5 = some res → W p l e (headSpec wsX0_power { frames := 1, cells := 0, slots := 0, locals := 34 }).room s m [.ref (ad 40), .int p0, .int p1].toArray below meth c H locs 0 0 (MQ below (ct_Q D (ww 46 ad (cellC cI cR ad M E P C N)) (ww_A 46 ad) (some (.int res))) [.ref (ad 40), .int p0, .int p1].toArray s 0 0 (ww_A 46 ad)) (F0 m 48 ls [])) → ∀ (n : Nat) (x3 : Int32) (x4 : Int32) (x5 : Int32) (H : Heap) (locs : List Loc) (ls : Array Slot), va_P D vwCl (ww 46 ad (cellC cI cR ad M E P C N)) H → va_S (ww_A 46 ad) s.heap H locs → lv_has ls 6 [(0, .ref (ad 40)), (1, .int x1), (2, .int x2), (3, .int x3), (4, .int x4), (5, .int x5)] →  f_X0_power_l8 k8 fu E x1 x2 n x3 x4 x5 = some res → W p l e (headSpec wsX0_power { frames := 1, cells := 0, slots := 0, locals := 34 }).room s m [.ref (ad 40), .int p0, .int p1].toArray below meth c H locs 0 0 (MQ below (ct_Q D (ww 46 ad (cellC cI cR ad M E P C N)) (ww_A 46 ad) (some (.int res))) [.ref (ad 40), .int p0, .int p1].toArray s 0 0 (ww_A 46 ad)) (F0 m 8 ls []) := by
    intro x1 x2 k8 hk_8 n
    induction n with
    | zero => intro x3 x4 x5 H locs ls hP hS hl hf; rw [f_X0_power_l8] at hf; cases hf
    | succ n ih =>
      intro x3 x4 x5 H locs ls hP hS hl hf
      rw [f_X0_power_l8] at hf
      refine lv_iload hx hb dX0_power_8 (lv_at hl 5 rfl) ?_
      refine lv_if_le (tgt := 48) hx hb dX0_power_10 (by decide) (fun c1 => ?_) (fun c1 => ?_)
      · rw [if_pos c1] at hf
        exact hk_8 x3 x4 x5 _ _ _ hP hS (lv_sub hl [0, 1, 2, 3, 4, 5] rfl) hf
      · rw [if_neg c1] at hf
        refine lv_iload hx hb dX0_power_13 (lv_at hl 5 rfl) ?_
        refine lv_iconst (v := 1) hx hb dX0_power_15 (by decide) ?_
        refine lv_iand hx hb dX0_power_16 ?_
        refine lv_iconst (v := 1) hx hb dX0_power_17 (by decide) ?_
        obtain ⟨w2, gw2, hf⟩ := Option.bind_eq_some_iff.mp hf
        try dsimp only at hf
        have hJ29_w2 : ∀ (H : Heap) (locs : List Loc) (ls : Array Slot), va_P D vwCl (ww 46 ad (cellC cI cR ad M E P C N)) H → va_S (ww_A 46 ad) s.heap H locs → lv_has ls 6 [(0, .ref (ad 40)), (1, .int x1), (2, .int x2), (3, .int w2), (4, .int x4), (5, .int x5)] → W p l e (headSpec wsX0_power { frames := 1, cells := 0, slots := 0, locals := 34 }).room s m [.ref (ad 40), .int p0, .int p1].toArray below meth c H locs 0 0 (MQ below (ct_Q D (ww 46 ad (cellC cI cR ad M E P C N)) (ww_A 46 ad) (some (.int res))) [.ref (ad 40), .int p0, .int p1].toArray s 0 0 (ww_A 46 ad)) (F0 m 29 ls []) := by
          intro H locs ls hP hS hl
          refine lv_aload_n hx hb dX0_power_29 rfl (lv_at hl 0 rfl) ?_
          refine lv_iload hx hb dX0_power_30 (lv_at hl 4 rfl) ?_
          refine lv_iload hx hb dX0_power_32 (lv_at hl 4 rfl) ?_
          obtain ⟨u6, g7, hf⟩ := Option.bind_eq_some_iff.mp hf
          try dsimp only at hf
          refine ct_call (va_runV (As := [.int x4, .int x4]) (rest := []) ⟨hx, hb, hml, hown, hts⟩ (C_X0_times l D tys nw hn hnw hj htI htR (res := u6) g7) (cwV 2 hts gX0_power_X0_times rfl rfl rfl (by decide +kernel) ⟨Nat.le_of_ble_eq_true rfl, Nat.le_of_ble_eq_true rfl⟩) (ct_preV hn hP hK hN (ci := 0) (k := 40) rfl (by decide) rfl) rfl rfl hl.1 rfl (lv_room (Nat.le_of_ble_eq_true rfl)) dX0_power_34 ⟨Nat.zero_le _, Nat.zero_le _⟩) hS (fun H locs hP hS => ?_)
          refine lv_istore (lv' := [(4, .int u6), (0, .ref (ad 40)), (1, .int x1), (2, .int x2), (3, .int w2), (5, .int x5)]) hx hb dX0_power_37 hl (by decide) rfl (fun ls hl => ?_)
          refine lv_iload hx hb dX0_power_39 (lv_at hl 5 rfl) ?_
          refine lv_iconst (v := 1) hx hb dX0_power_41 (by decide) ?_
          refine lv_ishr hx hb dX0_power_42 ?_
          obtain ⟨v8, ev8, hf⟩ := nm_elim hf
          try dsimp only at hf
          refine tp_I ev8 ?_
          refine lv_istore (lv' := [(5, .int v8), (4, .int u6), (0, .ref (ad 40)), (1, .int x1), (2, .int x2), (3, .int w2)]) hx hb dX0_power_43 hl (by decide) rfl (fun ls hl => ?_)
          refine lv_goto (tgt := 8) hx hb dX0_power_45 (by decide) ?_
          exact ih w2 u6 v8 _ _ _ hP hS (lv_sub hl [2, 3, 4, 5, 1, 0] rfl) hf
        refine lv_icmp_ne (tgt := 29) hx hb dX0_power_18 (by decide) (fun c3 => ?_) (fun c3 => ?_)
        · rw [if_neg c3] at gw2
          obtain rfl := Option.some.inj gw2
          exact hJ29_w2 _ _ _ hP hS (lv_sub hl [0, 1, 2, 3, 4, 5] rfl)
        · rw [if_pos c3] at gw2
          refine lv_aload_n hx hb dX0_power_21 rfl (lv_at hl 0 rfl) ?_
          refine lv_iload_n hx hb dX0_power_22 rfl (lv_at hl 3 rfl) ?_
          refine lv_iload hx hb dX0_power_23 (lv_at hl 4 rfl) ?_
          obtain ⟨u4, g5, gw2⟩ := Option.bind_eq_some_iff.mp gw2
          try dsimp only at gw2
          refine ct_call (va_runV (As := [.int x3, .int x4]) (rest := []) ⟨hx, hb, hml, hown, hts⟩ (C_X0_times l D tys nw hn hnw hj htI htR (res := u4) g5) (cwV 2 hts gX0_power_X0_times rfl rfl rfl (by decide +kernel) ⟨Nat.le_of_ble_eq_true rfl, Nat.le_of_ble_eq_true rfl⟩) (ct_preV hn hP hK hN (ci := 0) (k := 40) rfl (by decide) rfl) rfl rfl hl.1 rfl (lv_room (Nat.le_of_ble_eq_true rfl)) dX0_power_25 ⟨Nat.zero_le _, Nat.zero_le _⟩) hS (fun H locs hP hS => ?_)
          refine lv_istore_n (lv' := [(3, .int u4), (0, .ref (ad 40)), (1, .int x1), (2, .int x2), (4, .int x4), (5, .int x5)]) hx hb dX0_power_28 rfl hl (by decide) rfl (fun ls hl => ?_)
          obtain rfl := Option.some.inj gw2
          exact hJ29_w2 _ _ _ hP hS (lv_sub hl [1, 2, 3, 0, 4, 5] rfl)
  unfold f_X0_power at hf
  refine lv_iconst (v := 1) hx hb dX0_power_0 (by decide) ?_
  refine lv_istore_n (lv' := [(3, .int 1), (0, .ref (ad 40)), (1, .int p0), (2, .int p1)]) hx hb dX0_power_1 rfl hl (by decide) rfl (fun ls hl => ?_)
  refine lv_iload_n hx hb dX0_power_2 rfl (lv_at hl 2 rfl) ?_
  refine lv_istore (lv' := [(4, .int p0), (3, .int 1), (0, .ref (ad 40)), (1, .int p0), (2, .int p1)]) hx hb dX0_power_3 hl (by decide) rfl (fun ls hl => ?_)
  refine lv_iload_n hx hb dX0_power_5 rfl (lv_at hl 4 rfl) ?_
  refine lv_istore (lv' := [(5, .int p1), (4, .int p0), (3, .int 1), (0, .ref (ad 40)), (1, .int p0), (2, .int p1)]) hx hb dX0_power_6 hl (by decide) rfl (fun ls hl => ?_)
  refine L8 p0 p1 _ (fun y9 y10 y11 H locs ls hP hS hl hf => ?_) fu 1 p0 p1 _ _ _ hP hS (lv_sub hl [3, 4, 5, 2, 1, 0] rfl) hf
  try dsimp only at hf
  refine lv_iload_n hx hb dX0_power_48 rfl (lv_at hl 3 rfl) ?_
  obtain rfl := Option.some.inj hf
  exact W.iret (v := y9) hx hb hr (fun t ht hW => ⟨rfl, by rw [ht]; exact hP, hS.F ht⟩) hS.2.2 dX0_power_49
def f_X0_mate (E : Nat → Int32) (p0 : Int32) : Option (Int32) :=
  (f_X0_times E (p0 / 10201) (E 7)).bind (fun u1 =>
  (f_X0_times E (jrem (p0 / 101) 101) (E 6)).bind (fun u3 =>
  (f_X0_plus u3 u1).bind (fun u5 =>
  (f_X0_plus (jrem p0 101) u5).bind (fun u7 =>
  some u7))))
set_option maxHeartbeats 4000000 in
set_option maxRecDepth 100000 in
theorem C_X0_mate (l : Launch) (D : va_G) (tys : List (ClassId × FieldType)) (nw : List Cond) (hn : nw.all nw_kind = true) (hnw : ∀ w ∈ nw0, w ∈ nw) {ad : Nat → Nat} (hj : ww_inj 46 ad) {cI : ClassId} {cR : ClassId} (htI : tys[0]? = some (cI, .int)) (htR : tys[1]? = some (cR, .object RX2)) {M : Fin 20 → Nat → Int32} {E : Nat → Int32} {P : Nat → Fin 20} {C : Nat → Int32} {N : Nat → Int32} {p0 : Int32} {res : Int32} (hf : f_X0_mate E p0 = some res) :
    Met l yX0_mate wsX0_mate ({ frames := 1, cells := 0, slots := 0, locals := 34 }) (va_Pc [.ref (ad 40), .int p0] (ws_B D tys nw (ww 46 ad (cellC cI cR ad M E P C N)))) (ct_Q D (ww 46 ad (cellC cI cR ad M E P C N)) (ww_A 46 ad) (some (.int res))) 0 0 (ww_A 46 ad) := by
  refine Met.ofW (cc := cX0_mate) (maxL := 4) (ret := (some .int)) (by decide) rfl ?_
  intro p e s m args below meth c s₁ B hml hv
  obtain ⟨rfl, hP, hK, hN⟩ := hv
  have hx := B.exec
  have hb := B.bytes
  have hr := B.returns
  have hts := atoms_spec (ws := wsX0_mate) B.pre
  have hown : s.vm.findClass RX0 = some m.cls := findClass_of_methodNamed B.named
  have hlocks := B.notSynchronized
  have hS : va_S (ww_A 46 ad) s.heap s.heap [] := va_S.rf
  have hl := lv_entry ([.ref (ad 40), .int p0]) (n := 4) (Nat.le_of_ble_eq_true rfl)
  rw [lg_entry_eq]
  generalize (lg_sl ([.ref (ad 40), .int p0]) ++ List.replicate (4 - (lg_sl ([.ref (ad 40), .int p0])).length) Slot.unset).toArray = ls at hl ⊢
  have hl : lv_has ls 4 [(0, .ref (ad 40)), (1, .int p0)] := hl
  unfold f_X0_mate at hf
  refine lv_aload_n hx hb dX0_mate_0 rfl (lv_at hl 0 rfl) ?_
  refine lv_iload_n hx hb dX0_mate_1 rfl (lv_at hl 1 rfl) ?_
  refine lv_sipush (v := 10201) hx hb dX0_mate_2 (by decide) ?_
  refine lv_idiv hx hb dX0_mate_5 (by decide) ?_
  refine lv_aload_n hx hb dX0_mate_6 rfl (lv_at hl 0 rfl) ?_
  refine va_get (ci := 0) (v := .int (E 7)) (C := RX0) (T := TX0) (N := 8) hx hb hts (by decide +kernel) hown hK hP 40 cc_ext rfl 7 (by decide) (hts (.fieldLink RX0 33 "NumberFieldFactors$Extension" "mateOfTSquared" "I") (by decide +kernel)) (fun _ h9 => h9) rfl dX0_mate_7 ?_
  obtain ⟨u1, g2, hf⟩ := Option.bind_eq_some_iff.mp hf
  try dsimp only at hf
  refine ct_call (va_runV (As := [.int (p0 / 10201), .int (E 7)]) (rest := []) ⟨hx, hb, hml, hown, hts⟩ (C_X0_times l D tys nw hn hnw hj htI htR (res := u1) g2) (cwV 2 hts gX0_mate_X0_times rfl rfl rfl (by decide +kernel) ⟨Nat.le_of_ble_eq_true rfl, Nat.le_of_ble_eq_true rfl⟩) (ct_preV hn hP hK hN (ci := 0) (k := 40) rfl (by decide) rfl) rfl rfl hl.1 rfl (lv_room (Nat.le_of_ble_eq_true rfl)) dX0_mate_10 ⟨Nat.zero_le _, Nat.zero_le _⟩) hS (fun H locs hP hS => ?_)
  refine lv_istore_n (lv' := [(2, .int u1), (0, .ref (ad 40)), (1, .int p0)]) hx hb dX0_mate_13 rfl hl (by decide) rfl (fun ls hl => ?_)
  refine lv_aload_n hx hb dX0_mate_14 rfl (lv_at hl 1 rfl) ?_
  refine lv_iload_n hx hb dX0_mate_15 rfl (lv_at hl 2 rfl) ?_
  refine lv_bipush (v := 101) hx hb dX0_mate_16 (by decide) ?_
  refine lv_idiv hx hb dX0_mate_18 (by decide) ?_
  refine lv_bipush (v := 101) hx hb dX0_mate_19 (by decide) ?_
  refine jv_irem hx hb dX0_mate_21 (by decide) ?_
  refine lv_aload_n hx hb dX0_mate_22 rfl (lv_at hl 1 rfl) ?_
  refine va_get (ci := 0) (v := .int (E 6)) (C := RX0) (T := TX0) (N := 8) hx hb hts (by decide +kernel) hown hK hP 40 cc_ext rfl 6 (by decide) (hts (.fieldLink RX0 30 "NumberFieldFactors$Extension" "mateOfT" "I") (by decide +kernel)) (fun _ h9 => h9) rfl dX0_mate_23 ?_
  obtain ⟨u3, g4, hf⟩ := Option.bind_eq_some_iff.mp hf
  try dsimp only at hf
  refine ct_call (va_runV (As := [.int (jrem (p0 / 101) 101), .int (E 6)]) (rest := []) ⟨hx, hb, hml, hown, hts⟩ (C_X0_times l D tys nw hn hnw hj htI htR (res := u3) g4) (cwV 2 hts gX0_mate_X0_times rfl rfl rfl (by decide +kernel) ⟨Nat.le_of_ble_eq_true rfl, Nat.le_of_ble_eq_true rfl⟩) (ct_preV hn hP hK hN (ci := 0) (k := 40) rfl (by decide) rfl) rfl rfl hl.1 rfl (lv_room (Nat.le_of_ble_eq_true rfl)) dX0_mate_26 ⟨Nat.zero_le _, Nat.zero_le _⟩) hS (fun H locs hP hS => ?_)
  refine lv_istore_n (lv' := [(3, .int u3), (2, .int u1), (0, .ref (ad 40)), (1, .int p0)]) hx hb dX0_mate_29 rfl hl (by decide) rfl (fun ls hl => ?_)
  refine lv_aload_n hx hb dX0_mate_30 rfl (lv_at hl 2 rfl) ?_
  refine lv_iload_n hx hb dX0_mate_31 rfl (lv_at hl 3 rfl) ?_
  refine lv_bipush (v := 101) hx hb dX0_mate_32 (by decide) ?_
  refine jv_irem hx hb dX0_mate_34 (by decide) ?_
  refine lv_aload_n hx hb dX0_mate_35 rfl (lv_at hl 2 rfl) ?_
  refine lv_iload_n hx hb dX0_mate_36 rfl (lv_at hl 0 rfl) ?_
  refine lv_iload_n hx hb dX0_mate_37 rfl (lv_at hl 1 rfl) ?_
  obtain ⟨u5, g6, hf⟩ := Option.bind_eq_some_iff.mp hf
  try dsimp only at hf
  refine ct_call (va_runV (As := [.int u3, .int u1]) (rest := [.int (jrem p0 101), .ref (ad 40)]) ⟨hx, hb, hml, hown, hts⟩ (C_X0_plus l D tys nw hn hnw hj htI htR (res := u5) g6) (cwV 2 hts gX0_mate_X0_plus rfl rfl rfl (by decide +kernel) ⟨Nat.le_of_ble_eq_true rfl, Nat.le_of_ble_eq_true rfl⟩) (ct_preV hn hP hK hN (ci := 0) (k := 40) rfl (by decide) rfl) rfl rfl hl.1 rfl (lv_room (Nat.le_of_ble_eq_true rfl)) dX0_mate_38 ⟨Nat.zero_le _, Nat.zero_le _⟩) hS (fun H locs hP hS => ?_)
  obtain ⟨u7, g8, hf⟩ := Option.bind_eq_some_iff.mp hf
  try dsimp only at hf
  refine ct_call (va_runV (As := [.int (jrem p0 101), .int u5]) (rest := []) ⟨hx, hb, hml, hown, hts⟩ (C_X0_plus l D tys nw hn hnw hj htI htR (res := u7) g8) (cwV 2 hts gX0_mate_X0_plus rfl rfl rfl (by decide +kernel) ⟨Nat.le_of_ble_eq_true rfl, Nat.le_of_ble_eq_true rfl⟩) (ct_preV hn hP hK hN (ci := 0) (k := 40) rfl (by decide) rfl) rfl rfl hl.1 rfl (lv_room (Nat.le_of_ble_eq_true rfl)) dX0_mate_41 ⟨Nat.zero_le _, Nat.zero_le _⟩) hS (fun H locs hP hS => ?_)
  obtain rfl := Option.some.inj hf
  exact W.iret (v := u7) hx hb hr (fun t ht hW => ⟨rfl, by rw [ht]; exact hP, hS.F ht⟩) hS.2.2 dX0_mate_44
def f_X0_isSquare (fu : Nat) (E : Nat → Int32) (p0 : Int32) : Option (Int32) :=
  if p0 = 0 then
    some 1
  else
    (f_X0_power fu E p0 ((E 1) / 2)).bind (fun u2 =>
    if u2 = 1 then
      some 1
    else
      some 0)
set_option maxHeartbeats 4000000 in
set_option maxRecDepth 100000 in
theorem C_X0_isSquare (l : Launch) (D : va_G) (tys : List (ClassId × FieldType)) (nw : List Cond) (hn : nw.all nw_kind = true) (hnw : ∀ w ∈ nw0, w ∈ nw) {ad : Nat → Nat} (hj : ww_inj 46 ad) {cI : ClassId} {cR : ClassId} (htI : tys[0]? = some (cI, .int)) (htR : tys[1]? = some (cR, .object RX2)) {fu : Nat} {M : Fin 20 → Nat → Int32} {E : Nat → Int32} {P : Nat → Fin 20} {C : Nat → Int32} {N : Nat → Int32} {p0 : Int32} {res : Int32} (hf : f_X0_isSquare fu E p0 = some res) :
    Met l yX0_isSquare wsX0_isSquare ({ frames := 2, cells := 0, slots := 0, locals := 59 }) (va_Pc [.ref (ad 40), .int p0] (ws_B D tys nw (ww 46 ad (cellC cI cR ad M E P C N)))) (ct_Q D (ww 46 ad (cellC cI cR ad M E P C N)) (ww_A 46 ad) (some (.int res))) 0 0 (ww_A 46 ad) := by
  refine Met.ofW (cc := cX0_isSquare) (maxL := 2) (ret := (some .boolean)) (by decide) rfl ?_
  intro p e s m args below meth c s₁ B hml hv
  obtain ⟨rfl, hP, hK, hN⟩ := hv
  have hx := B.exec
  have hb := B.bytes
  have hr := B.returns
  have hts := atoms_spec (ws := wsX0_isSquare) B.pre
  have hown : s.vm.findClass RX0 = some m.cls := findClass_of_methodNamed B.named
  have hlocks := B.notSynchronized
  have hS : va_S (ww_A 46 ad) s.heap s.heap [] := va_S.rf
  have hl := lv_entry ([.ref (ad 40), .int p0]) (n := 2) (Nat.le_of_ble_eq_true rfl)
  rw [lg_entry_eq]
  generalize (lg_sl ([.ref (ad 40), .int p0]) ++ List.replicate (2 - (lg_sl ([.ref (ad 40), .int p0])).length) Slot.unset).toArray = ls at hl ⊢
  have hl : lv_has ls 2 [(0, .ref (ad 40)), (1, .int p0)] := hl
  unfold f_X0_isSquare at hf
  refine lv_iload_n hx hb dX0_isSquare_0 rfl (lv_at hl 1 rfl) ?_
  refine lv_if_eq (tgt := 19) hx hb dX0_isSquare_1 (by decide) (fun c1 => ?_) (fun c1 => ?_)
  · rw [if_pos c1] at hf
    refine lv_iconst (v := 1) hx hb dX0_isSquare_19 (by decide) ?_
    refine lv_goto (tgt := 24) hx hb dX0_isSquare_20 (by decide) ?_
    obtain rfl := Option.some.inj hf
    exact W.zret (v := 1) (ty := .boolean) hx hb hr (by decide) (fun t ht hW => ⟨rfl, by rw [ht]; exact hP, hS.F ht⟩) hS.2.2 dX0_isSquare_24
  · rw [if_neg c1] at hf
    refine lv_aload_n hx hb dX0_isSquare_4 rfl (lv_at hl 0 rfl) ?_
    refine lv_iload_n hx hb dX0_isSquare_5 rfl (lv_at hl 1 rfl) ?_
    refine lv_aload_n hx hb dX0_isSquare_6 rfl (lv_at hl 0 rfl) ?_
    refine va_get (ci := 0) (v := .int (E 1)) (C := RX0) (T := TX0) (N := 8) hx hb hts (by decide +kernel) hown hK hP 40 cc_ext rfl 1 (by decide) (hts (.fieldLink RX0 15 "NumberFieldFactors$Extension" "size" "I") (by decide +kernel)) (fun _ h9 => h9) rfl dX0_isSquare_7 ?_
    refine lv_iconst (v := 2) hx hb dX0_isSquare_10 (by decide) ?_
    refine lv_idiv hx hb dX0_isSquare_11 (by decide) ?_
    obtain ⟨u2, g3, hf⟩ := Option.bind_eq_some_iff.mp hf
    try dsimp only at hf
    refine ct_call (va_runV (As := [.int p0, .int ((E 1) / 2)]) (rest := []) ⟨hx, hb, hml, hown, hts⟩ (C_X0_power l D tys nw hn hnw hj htI htR (res := u2) g3) (cwV 2 hts gX0_isSquare_X0_power rfl rfl rfl (by decide +kernel) ⟨Nat.le_of_ble_eq_true rfl, Nat.le_of_ble_eq_true rfl⟩) (ct_preV hn hP hK hN (ci := 0) (k := 40) rfl (by decide) rfl) rfl rfl hl.1 rfl (lv_room (Nat.le_of_ble_eq_true rfl)) dX0_isSquare_12 ⟨Nat.zero_le _, Nat.zero_le _⟩) hS (fun H locs hP hS => ?_)
    refine lv_iconst (v := 1) hx hb dX0_isSquare_15 (by decide) ?_
    refine lv_icmp_ne (tgt := 23) hx hb dX0_isSquare_16 (by decide) (fun c4 => ?_) (fun c4 => ?_)
    · rw [if_neg c4] at hf
      refine lv_iconst (v := 0) hx hb dX0_isSquare_23 (by decide) ?_
      obtain rfl := Option.some.inj hf
      exact W.zret (v := 0) (ty := .boolean) hx hb hr (by decide) (fun t ht hW => ⟨rfl, by rw [ht]; exact hP, hS.F ht⟩) hS.2.2 dX0_isSquare_24
    · rw [if_pos c4] at hf
      refine lv_iconst (v := 1) hx hb dX0_isSquare_19 (by decide) ?_
      refine lv_goto (tgt := 24) hx hb dX0_isSquare_20 (by decide) ?_
      obtain rfl := Option.some.inj hf
      exact W.zret (v := 1) (ty := .boolean) hx hb hr (by decide) (fun t ht hW => ⟨rfl, by rw [ht]; exact hP, hS.F ht⟩) hS.2.2 dX0_isSquare_24
def f_X0_matesProduct_l7 (k7 : Int32 → Int32 → Int32 → Option (Int32)) (fu : Nat) (E : Nat → Int32) (x1 : Int32) : Nat → Int32 → Int32 → Int32 → Option (Int32)
  | 0, _, _, _ => none
  | n + 1, x2, x3, x4 =>
    if (E 0) ≤ x4 then
      k7 x2 x3 x4
    else
      (f_X0_mate E x3).bind (fun u2 =>
      (f_X0_times E x2 u2).bind (fun u4 =>
      f_X0_matesProduct_l7 k7 fu E x1 n u4 u2 (x4 + 1)))
def f_X0_matesProduct (fu : Nat) (E : Nat → Int32) (p0 : Int32) : Option (Int32) :=
  f_X0_matesProduct_l7 (fun y6 y7 y8 =>
    some y6) fu E p0 fu p0 p0 1
set_option maxHeartbeats 4000000 in
set_option maxRecDepth 100000 in
theorem C_X0_matesProduct (l : Launch) (D : va_G) (tys : List (ClassId × FieldType)) (nw : List Cond) (hn : nw.all nw_kind = true) (hnw : ∀ w ∈ nw0, w ∈ nw) {ad : Nat → Nat} (hj : ww_inj 46 ad) {cI : ClassId} {cR : ClassId} (htI : tys[0]? = some (cI, .int)) (htR : tys[1]? = some (cR, .object RX2)) {fu : Nat} {M : Fin 20 → Nat → Int32} {E : Nat → Int32} {P : Nat → Fin 20} {C : Nat → Int32} {N : Nat → Int32} {p0 : Int32} {res : Int32} (hf : f_X0_matesProduct fu E p0 = some res) :
    Met l yX0_matesProduct wsX0_matesProduct ({ frames := 2, cells := 0, slots := 0, locals := 57 }) (va_Pc [.ref (ad 40), .int p0] (ws_B D tys nw (ww 46 ad (cellC cI cR ad M E P C N)))) (ct_Q D (ww 46 ad (cellC cI cR ad M E P C N)) (ww_A 46 ad) (some (.int res))) 0 0 (ww_A 46 ad) := by
  refine Met.ofW (cc := cX0_matesProduct) (maxL := 5) (ret := (some .int)) (by decide) rfl ?_
  intro p e s m args below meth c s₁ B hml hv
  obtain ⟨rfl, hP, hK, hN⟩ := hv
  have hx := B.exec
  have hb := B.bytes
  have hr := B.returns
  have hts := atoms_spec (ws := wsX0_matesProduct) B.pre
  have hown : s.vm.findClass RX0 = some m.cls := findClass_of_methodNamed B.named
  have hlocks := B.notSynchronized
  have hS : va_S (ww_A 46 ad) s.heap s.heap [] := va_S.rf
  have hl := lv_entry ([.ref (ad 40), .int p0]) (n := 5) (Nat.le_of_ble_eq_true rfl)
  rw [lg_entry_eq]
  generalize (lg_sl ([.ref (ad 40), .int p0]) ++ List.replicate (5 - (lg_sl ([.ref (ad 40), .int p0])).length) Slot.unset).toArray = ls at hl ⊢
  have hl : lv_has ls 5 [(0, .ref (ad 40)), (1, .int p0)] := hl
  have L7 : ∀ (x1 : Int32) (k7 : Int32 → Int32 → Int32 → Option (Int32)), (∀ (x2 : Int32) (x3 : Int32) (x4 : Int32) (H : Heap) (locs : List Loc) (ls : Array Slot), va_P D vwCl (ww 46 ad (cellC cI cR ad M E P C N)) H → va_S (ww_A 46 ad) s.heap H locs → lv_has ls 5 [(0, .ref (ad 40)), (1, .int x1), (2, .int x2), (3, .int x3), (4, .int x4)] →  k7 x2 x3 x4 = some res → W p l e (headSpec wsX0_matesProduct { frames := 2, cells := 0, slots := 0, locals := 57 }).room s m [.ref (ad 40), .int p0].toArray below meth c H locs 0 0 (MQ below (ct_Q D (ww 46 ad (cellC cI cR ad M E P C N)) (ww_A 46 ad) (some (.int res))) [.ref (ad 40), .int p0].toArray s 0 0 (ww_A 46 ad)) (F0 m 35 ls [])) → ∀ (n : Nat) (x2 : Int32) (x3 : Int32) (x4 : Int32) (H : Heap) (locs : List Loc) (ls : Array Slot), va_P D vwCl (ww 46 ad (cellC cI cR ad M E P C N)) H → va_S (ww_A 46 ad) s.heap H locs → lv_has ls 5 [(0, .ref (ad 40)), (1, .int x1), (2, .int x2), (3, .int x3), (4, .int x4)] →  f_X0_matesProduct_l7 k7 fu E x1 n x2 x3 x4 = some res → W p l e (headSpec wsX0_matesProduct { frames := 2, cells := 0, slots := 0, locals := 57 }).room s m [.ref (ad 40), .int p0].toArray below meth c H locs 0 0 (MQ below (ct_Q D (ww 46 ad (cellC cI cR ad M E P C N)) (ww_A 46 ad) (some (.int res))) [.ref (ad 40), .int p0].toArray s 0 0 (ww_A 46 ad)) (F0 m 7 ls []) := by
    intro x1 k7 hk_7 n
    induction n with
    | zero => intro x2 x3 x4 H locs ls hP hS hl hf; rw [f_X0_matesProduct_l7] at hf; cases hf
    | succ n ih =>
      intro x2 x3 x4 H locs ls hP hS hl hf
      rw [f_X0_matesProduct_l7] at hf
      refine lv_iload hx hb dX0_matesProduct_7 (lv_at hl 4 rfl) ?_
      refine lv_aload_n hx hb dX0_matesProduct_9 rfl (lv_at hl 0 rfl) ?_
      refine va_get (ci := 0) (v := .int (E 0)) (C := RX0) (T := TX0) (N := 8) hx hb hts (by decide +kernel) hown hK hP 40 cc_ext rfl 0 (by decide) (hts (.fieldLink RX0 9 "NumberFieldFactors$Extension" "degree" "I") (by decide +kernel)) (fun _ h9 => h9) rfl dX0_matesProduct_10 ?_
      refine lv_icmp_ge (tgt := 35) hx hb dX0_matesProduct_13 (by decide) (fun c1 => ?_) (fun c1 => ?_)
      · rw [if_pos c1] at hf
        exact hk_7 x2 x3 x4 _ _ _ hP hS (lv_sub hl [0, 1, 2, 3, 4] rfl) hf
      · rw [if_neg c1] at hf
        refine lv_aload_n hx hb dX0_matesProduct_16 rfl (lv_at hl 0 rfl) ?_
        refine lv_iload_n hx hb dX0_matesProduct_17 rfl (lv_at hl 3 rfl) ?_
        obtain ⟨u2, g3, hf⟩ := Option.bind_eq_some_iff.mp hf
        try dsimp only at hf
        refine ct_call (va_runV (As := [.int x3]) (rest := []) ⟨hx, hb, hml, hown, hts⟩ (C_X0_mate l D tys nw hn hnw hj htI htR (res := u2) g3) (cwV 1 hts gX0_matesProduct_X0_mate rfl rfl rfl (by decide +kernel) ⟨Nat.le_of_ble_eq_true rfl, Nat.le_of_ble_eq_true rfl⟩) (ct_preV hn hP hK hN (ci := 0) (k := 40) rfl (by decide) rfl) rfl rfl hl.1 rfl (lv_room (Nat.le_of_ble_eq_true rfl)) dX0_matesProduct_18 ⟨Nat.zero_le _, Nat.zero_le _⟩) hS (fun H locs hP hS => ?_)
        refine lv_istore_n (lv' := [(3, .int u2), (0, .ref (ad 40)), (1, .int x1), (2, .int x2), (4, .int x4)]) hx hb dX0_matesProduct_21 rfl hl (by decide) rfl (fun ls hl => ?_)
        refine lv_aload_n hx hb dX0_matesProduct_22 rfl (lv_at hl 1 rfl) ?_
        refine lv_iload_n hx hb dX0_matesProduct_23 rfl (lv_at hl 3 rfl) ?_
        refine lv_iload_n hx hb dX0_matesProduct_24 rfl (lv_at hl 0 rfl) ?_
        obtain ⟨u4, g5, hf⟩ := Option.bind_eq_some_iff.mp hf
        try dsimp only at hf
        refine ct_call (va_runV (As := [.int x2, .int u2]) (rest := []) ⟨hx, hb, hml, hown, hts⟩ (C_X0_times l D tys nw hn hnw hj htI htR (res := u4) g5) (cwV 2 hts gX0_matesProduct_X0_times rfl rfl rfl (by decide +kernel) ⟨Nat.le_of_ble_eq_true rfl, Nat.le_of_ble_eq_true rfl⟩) (ct_preV hn hP hK hN (ci := 0) (k := 40) rfl (by decide) rfl) rfl rfl hl.1 rfl (lv_room (Nat.le_of_ble_eq_true rfl)) dX0_matesProduct_25 ⟨Nat.zero_le _, Nat.zero_le _⟩) hS (fun H locs hP hS => ?_)
        refine lv_istore_n (lv' := [(2, .int u4), (3, .int u2), (0, .ref (ad 40)), (1, .int x1), (4, .int x4)]) hx hb dX0_matesProduct_28 rfl hl (by decide) rfl (fun ls hl => ?_)
        refine lv_iinc (v := x4 + 1) (lv' := [(4, .int (x4 + 1)), (2, .int u4), (3, .int u2), (0, .ref (ad 40)), (1, .int x1)]) hx hb dX0_matesProduct_29 hl (k := 4) rfl rfl (by decide) rfl (fun ls hl => ?_)
        refine lv_goto (tgt := 7) hx hb dX0_matesProduct_32 (by decide) ?_
        exact ih u4 u2 (x4 + 1) _ _ _ hP hS (lv_sub hl [3, 4, 1, 2, 0] rfl) hf
  unfold f_X0_matesProduct at hf
  refine lv_iload_n hx hb dX0_matesProduct_0 rfl (lv_at hl 1 rfl) ?_
  refine lv_istore_n (lv' := [(2, .int p0), (0, .ref (ad 40)), (1, .int p0)]) hx hb dX0_matesProduct_1 rfl hl (by decide) rfl (fun ls hl => ?_)
  refine lv_iload_n hx hb dX0_matesProduct_2 rfl (lv_at hl 2 rfl) ?_
  refine lv_istore_n (lv' := [(3, .int p0), (2, .int p0), (0, .ref (ad 40)), (1, .int p0)]) hx hb dX0_matesProduct_3 rfl hl (by decide) rfl (fun ls hl => ?_)
  refine lv_iconst (v := 1) hx hb dX0_matesProduct_4 (by decide) ?_
  refine lv_istore (lv' := [(4, .int 1), (3, .int p0), (2, .int p0), (0, .ref (ad 40)), (1, .int p0)]) hx hb dX0_matesProduct_5 hl (by decide) rfl (fun ls hl => ?_)
  refine L7 p0 _ (fun y6 y7 y8 H locs ls hP hS hl hf => ?_) fu p0 p0 1 _ _ _ hP hS (lv_sub hl [3, 4, 2, 1, 0] rfl) hf
  try dsimp only at hf
  refine lv_iload_n hx hb dX0_matesProduct_35 rfl (lv_at hl 2 rfl) ?_
  obtain rfl := Option.some.inj hf
  exact W.iret (v := y6) hx hb hr (fun t ht hW => ⟨rfl, by rw [ht]; exact hP, hS.F ht⟩) hS.2.2 dX0_matesProduct_36
def f_X0_matesSum_l7 (k7 : Int32 → Int32 → Int32 → Option (Int32)) (fu : Nat) (E : Nat → Int32) (x1 : Int32) : Nat → Int32 → Int32 → Int32 → Option (Int32)
  | 0, _, _, _ => none
  | n + 1, x2, x3, x4 =>
    if (E 0) ≤ x4 then
      k7 x2 x3 x4
    else
      (f_X0_mate E x3).bind (fun u2 =>
      (f_X0_plus x2 u2).bind (fun u4 =>
      f_X0_matesSum_l7 k7 fu E x1 n u4 u2 (x4 + 1)))
def f_X0_matesSum (fu : Nat) (E : Nat → Int32) (p0 : Int32) : Option (Int32) :=
  f_X0_matesSum_l7 (fun y6 y7 y8 =>
    some y6) fu E p0 fu p0 p0 1
set_option maxHeartbeats 4000000 in
set_option maxRecDepth 100000 in
theorem C_X0_matesSum (l : Launch) (D : va_G) (tys : List (ClassId × FieldType)) (nw : List Cond) (hn : nw.all nw_kind = true) (hnw : ∀ w ∈ nw0, w ∈ nw) {ad : Nat → Nat} (hj : ww_inj 46 ad) {cI : ClassId} {cR : ClassId} (htI : tys[0]? = some (cI, .int)) (htR : tys[1]? = some (cR, .object RX2)) {fu : Nat} {M : Fin 20 → Nat → Int32} {E : Nat → Int32} {P : Nat → Fin 20} {C : Nat → Int32} {N : Nat → Int32} {p0 : Int32} {res : Int32} (hf : f_X0_matesSum fu E p0 = some res) :
    Met l yX0_matesSum wsX0_matesSum ({ frames := 2, cells := 0, slots := 0, locals := 57 }) (va_Pc [.ref (ad 40), .int p0] (ws_B D tys nw (ww 46 ad (cellC cI cR ad M E P C N)))) (ct_Q D (ww 46 ad (cellC cI cR ad M E P C N)) (ww_A 46 ad) (some (.int res))) 0 0 (ww_A 46 ad) := by
  refine Met.ofW (cc := cX0_matesSum) (maxL := 5) (ret := (some .int)) (by decide) rfl ?_
  intro p e s m args below meth c s₁ B hml hv
  obtain ⟨rfl, hP, hK, hN⟩ := hv
  have hx := B.exec
  have hb := B.bytes
  have hr := B.returns
  have hts := atoms_spec (ws := wsX0_matesSum) B.pre
  have hown : s.vm.findClass RX0 = some m.cls := findClass_of_methodNamed B.named
  have hlocks := B.notSynchronized
  have hS : va_S (ww_A 46 ad) s.heap s.heap [] := va_S.rf
  have hl := lv_entry ([.ref (ad 40), .int p0]) (n := 5) (Nat.le_of_ble_eq_true rfl)
  rw [lg_entry_eq]
  generalize (lg_sl ([.ref (ad 40), .int p0]) ++ List.replicate (5 - (lg_sl ([.ref (ad 40), .int p0])).length) Slot.unset).toArray = ls at hl ⊢
  have hl : lv_has ls 5 [(0, .ref (ad 40)), (1, .int p0)] := hl
  have L7 : ∀ (x1 : Int32) (k7 : Int32 → Int32 → Int32 → Option (Int32)), (∀ (x2 : Int32) (x3 : Int32) (x4 : Int32) (H : Heap) (locs : List Loc) (ls : Array Slot), va_P D vwCl (ww 46 ad (cellC cI cR ad M E P C N)) H → va_S (ww_A 46 ad) s.heap H locs → lv_has ls 5 [(0, .ref (ad 40)), (1, .int x1), (2, .int x2), (3, .int x3), (4, .int x4)] →  k7 x2 x3 x4 = some res → W p l e (headSpec wsX0_matesSum { frames := 2, cells := 0, slots := 0, locals := 57 }).room s m [.ref (ad 40), .int p0].toArray below meth c H locs 0 0 (MQ below (ct_Q D (ww 46 ad (cellC cI cR ad M E P C N)) (ww_A 46 ad) (some (.int res))) [.ref (ad 40), .int p0].toArray s 0 0 (ww_A 46 ad)) (F0 m 35 ls [])) → ∀ (n : Nat) (x2 : Int32) (x3 : Int32) (x4 : Int32) (H : Heap) (locs : List Loc) (ls : Array Slot), va_P D vwCl (ww 46 ad (cellC cI cR ad M E P C N)) H → va_S (ww_A 46 ad) s.heap H locs → lv_has ls 5 [(0, .ref (ad 40)), (1, .int x1), (2, .int x2), (3, .int x3), (4, .int x4)] →  f_X0_matesSum_l7 k7 fu E x1 n x2 x3 x4 = some res → W p l e (headSpec wsX0_matesSum { frames := 2, cells := 0, slots := 0, locals := 57 }).room s m [.ref (ad 40), .int p0].toArray below meth c H locs 0 0 (MQ below (ct_Q D (ww 46 ad (cellC cI cR ad M E P C N)) (ww_A 46 ad) (some (.int res))) [.ref (ad 40), .int p0].toArray s 0 0 (ww_A 46 ad)) (F0 m 7 ls []) := by
    intro x1 k7 hk_7 n
    induction n with
    | zero => intro x2 x3 x4 H locs ls hP hS hl hf; rw [f_X0_matesSum_l7] at hf; cases hf
    | succ n ih =>
      intro x2 x3 x4 H locs ls hP hS hl hf
      rw [f_X0_matesSum_l7] at hf
      refine lv_iload hx hb dX0_matesSum_7 (lv_at hl 4 rfl) ?_
      refine lv_aload_n hx hb dX0_matesSum_9 rfl (lv_at hl 0 rfl) ?_
      refine va_get (ci := 0) (v := .int (E 0)) (C := RX0) (T := TX0) (N := 8) hx hb hts (by decide +kernel) hown hK hP 40 cc_ext rfl 0 (by decide) (hts (.fieldLink RX0 9 "NumberFieldFactors$Extension" "degree" "I") (by decide +kernel)) (fun _ h9 => h9) rfl dX0_matesSum_10 ?_
      refine lv_icmp_ge (tgt := 35) hx hb dX0_matesSum_13 (by decide) (fun c1 => ?_) (fun c1 => ?_)
      · rw [if_pos c1] at hf
        exact hk_7 x2 x3 x4 _ _ _ hP hS (lv_sub hl [0, 1, 2, 3, 4] rfl) hf
      · rw [if_neg c1] at hf
        refine lv_aload_n hx hb dX0_matesSum_16 rfl (lv_at hl 0 rfl) ?_
        refine lv_iload_n hx hb dX0_matesSum_17 rfl (lv_at hl 3 rfl) ?_
        obtain ⟨u2, g3, hf⟩ := Option.bind_eq_some_iff.mp hf
        try dsimp only at hf
        refine ct_call (va_runV (As := [.int x3]) (rest := []) ⟨hx, hb, hml, hown, hts⟩ (C_X0_mate l D tys nw hn hnw hj htI htR (res := u2) g3) (cwV 1 hts gX0_matesSum_X0_mate rfl rfl rfl (by decide +kernel) ⟨Nat.le_of_ble_eq_true rfl, Nat.le_of_ble_eq_true rfl⟩) (ct_preV hn hP hK hN (ci := 0) (k := 40) rfl (by decide) rfl) rfl rfl hl.1 rfl (lv_room (Nat.le_of_ble_eq_true rfl)) dX0_matesSum_18 ⟨Nat.zero_le _, Nat.zero_le _⟩) hS (fun H locs hP hS => ?_)
        refine lv_istore_n (lv' := [(3, .int u2), (0, .ref (ad 40)), (1, .int x1), (2, .int x2), (4, .int x4)]) hx hb dX0_matesSum_21 rfl hl (by decide) rfl (fun ls hl => ?_)
        refine lv_aload_n hx hb dX0_matesSum_22 rfl (lv_at hl 1 rfl) ?_
        refine lv_iload_n hx hb dX0_matesSum_23 rfl (lv_at hl 3 rfl) ?_
        refine lv_iload_n hx hb dX0_matesSum_24 rfl (lv_at hl 0 rfl) ?_
        obtain ⟨u4, g5, hf⟩ := Option.bind_eq_some_iff.mp hf
        try dsimp only at hf
        refine ct_call (va_runV (As := [.int x2, .int u2]) (rest := []) ⟨hx, hb, hml, hown, hts⟩ (C_X0_plus l D tys nw hn hnw hj htI htR (res := u4) g5) (cwV 2 hts gX0_matesSum_X0_plus rfl rfl rfl (by decide +kernel) ⟨Nat.le_of_ble_eq_true rfl, Nat.le_of_ble_eq_true rfl⟩) (ct_preV hn hP hK hN (ci := 0) (k := 40) rfl (by decide) rfl) rfl rfl hl.1 rfl (lv_room (Nat.le_of_ble_eq_true rfl)) dX0_matesSum_25 ⟨Nat.zero_le _, Nat.zero_le _⟩) hS (fun H locs hP hS => ?_)
        refine lv_istore_n (lv' := [(2, .int u4), (3, .int u2), (0, .ref (ad 40)), (1, .int x1), (4, .int x4)]) hx hb dX0_matesSum_28 rfl hl (by decide) rfl (fun ls hl => ?_)
        refine lv_iinc (v := x4 + 1) (lv' := [(4, .int (x4 + 1)), (2, .int u4), (3, .int u2), (0, .ref (ad 40)), (1, .int x1)]) hx hb dX0_matesSum_29 hl (k := 4) rfl rfl (by decide) rfl (fun ls hl => ?_)
        refine lv_goto (tgt := 7) hx hb dX0_matesSum_32 (by decide) ?_
        exact ih u4 u2 (x4 + 1) _ _ _ hP hS (lv_sub hl [3, 4, 1, 2, 0] rfl) hf
  unfold f_X0_matesSum at hf
  refine lv_iload_n hx hb dX0_matesSum_0 rfl (lv_at hl 1 rfl) ?_
  refine lv_istore_n (lv' := [(2, .int p0), (0, .ref (ad 40)), (1, .int p0)]) hx hb dX0_matesSum_1 rfl hl (by decide) rfl (fun ls hl => ?_)
  refine lv_iload_n hx hb dX0_matesSum_2 rfl (lv_at hl 2 rfl) ?_
  refine lv_istore_n (lv' := [(3, .int p0), (2, .int p0), (0, .ref (ad 40)), (1, .int p0)]) hx hb dX0_matesSum_3 rfl hl (by decide) rfl (fun ls hl => ?_)
  refine lv_iconst (v := 1) hx hb dX0_matesSum_4 (by decide) ?_
  refine lv_istore (lv' := [(4, .int 1), (3, .int p0), (2, .int p0), (0, .ref (ad 40)), (1, .int p0)]) hx hb dX0_matesSum_5 hl (by decide) rfl (fun ls hl => ?_)
  refine L7 p0 _ (fun y6 y7 y8 H locs ls hP hS hl hf => ?_) fu p0 p0 1 _ _ _ hP hS (lv_sub hl [3, 4, 2, 1, 0] rfl) hf
  try dsimp only at hf
  refine lv_iload_n hx hb dX0_matesSum_35 rfl (lv_at hl 2 rfl) ?_
  obtain rfl := Option.some.inj hf
  exact W.iret (v := y6) hx hb hr (fun t ht hW => ⟨rfl, by rw [ht]; exact hP, hS.F ht⟩) hS.2.2 dX0_matesSum_36
def f_X0_differentMates (E : Nat → Int32) (p0 : Int32) : Option (Int32) :=
  (f_X0_mate E p0).bind (fun u1 =>
  if u1 = p0 then
    some 1
  else
    some (E 0))
set_option maxHeartbeats 4000000 in
set_option maxRecDepth 100000 in
theorem C_X0_differentMates (l : Launch) (D : va_G) (tys : List (ClassId × FieldType)) (nw : List Cond) (hn : nw.all nw_kind = true) (hnw : ∀ w ∈ nw0, w ∈ nw) {ad : Nat → Nat} (hj : ww_inj 46 ad) {cI : ClassId} {cR : ClassId} (htI : tys[0]? = some (cI, .int)) (htR : tys[1]? = some (cR, .object RX2)) {M : Fin 20 → Nat → Int32} {E : Nat → Int32} {P : Nat → Fin 20} {C : Nat → Int32} {N : Nat → Int32} {p0 : Int32} {res : Int32} (hf : f_X0_differentMates E p0 = some res) :
    Met l yX0_differentMates wsX0_differentMates ({ frames := 2, cells := 0, slots := 0, locals := 57 }) (va_Pc [.ref (ad 40), .int p0] (ws_B D tys nw (ww 46 ad (cellC cI cR ad M E P C N)))) (ct_Q D (ww 46 ad (cellC cI cR ad M E P C N)) (ww_A 46 ad) (some (.int res))) 0 0 (ww_A 46 ad) := by
  refine Met.ofW (cc := cX0_differentMates) (maxL := 2) (ret := (some .int)) (by decide) rfl ?_
  intro p e s m args below meth c s₁ B hml hv
  obtain ⟨rfl, hP, hK, hN⟩ := hv
  have hx := B.exec
  have hb := B.bytes
  have hr := B.returns
  have hts := atoms_spec (ws := wsX0_differentMates) B.pre
  have hown : s.vm.findClass RX0 = some m.cls := findClass_of_methodNamed B.named
  have hlocks := B.notSynchronized
  have hS : va_S (ww_A 46 ad) s.heap s.heap [] := va_S.rf
  have hl := lv_entry ([.ref (ad 40), .int p0]) (n := 2) (Nat.le_of_ble_eq_true rfl)
  rw [lg_entry_eq]
  generalize (lg_sl ([.ref (ad 40), .int p0]) ++ List.replicate (2 - (lg_sl ([.ref (ad 40), .int p0])).length) Slot.unset).toArray = ls at hl ⊢
  have hl : lv_has ls 2 [(0, .ref (ad 40)), (1, .int p0)] := hl
  unfold f_X0_differentMates at hf
  refine lv_aload_n hx hb dX0_differentMates_0 rfl (lv_at hl 0 rfl) ?_
  refine lv_iload_n hx hb dX0_differentMates_1 rfl (lv_at hl 1 rfl) ?_
  obtain ⟨u1, g2, hf⟩ := Option.bind_eq_some_iff.mp hf
  try dsimp only at hf
  refine ct_call (va_runV (As := [.int p0]) (rest := []) ⟨hx, hb, hml, hown, hts⟩ (C_X0_mate l D tys nw hn hnw hj htI htR (res := u1) g2) (cwV 1 hts gX0_differentMates_X0_mate rfl rfl rfl (by decide +kernel) ⟨Nat.le_of_ble_eq_true rfl, Nat.le_of_ble_eq_true rfl⟩) (ct_preV hn hP hK hN (ci := 0) (k := 40) rfl (by decide) rfl) rfl rfl hl.1 rfl (lv_room (Nat.le_of_ble_eq_true rfl)) dX0_differentMates_2 ⟨Nat.zero_le _, Nat.zero_le _⟩) hS (fun H locs hP hS => ?_)
  refine lv_iload_n hx hb dX0_differentMates_5 rfl (lv_at hl 1 rfl) ?_
  refine lv_icmp_ne (tgt := 13) hx hb dX0_differentMates_6 (by decide) (fun c3 => ?_) (fun c3 => ?_)
  · rw [if_neg c3] at hf
    refine lv_aload_n hx hb dX0_differentMates_13 rfl (lv_at hl 0 rfl) ?_
    refine va_get (ci := 0) (v := .int (E 0)) (C := RX0) (T := TX0) (N := 8) hx hb hts (by decide +kernel) hown hK hP 40 cc_ext rfl 0 (by decide) (hts (.fieldLink RX0 9 "NumberFieldFactors$Extension" "degree" "I") (by decide +kernel)) (fun _ h9 => h9) rfl dX0_differentMates_14 ?_
    obtain rfl := Option.some.inj hf
    exact W.iret (v := E 0) hx hb hr (fun t ht hW => ⟨rfl, by rw [ht]; exact hP, hS.F ht⟩) hS.2.2 dX0_differentMates_17
  · rw [if_pos c3] at hf
    refine lv_iconst (v := 1) hx hb dX0_differentMates_9 (by decide) ?_
    refine lv_goto (tgt := 17) hx hb dX0_differentMates_10 (by decide) ?_
    obtain rfl := Option.some.inj hf
    exact W.iret (v := 1) hx hb hr (fun t ht hW => ⟨rfl, by rw [ht]; exact hP, hS.F ht⟩) hS.2.2 dX0_differentMates_17
def f_X0_become (fu : Nat) (E : Nat → Int32) (p0 : Int32) (p1 : Int32) (p2 : Int32) (p3 : Int32) : Option (Int32 × (Nat → Int32)) :=
  ((
    if p0 ≤ 1 then
      some 0
    else
      some p2 : Option (Int32))).bind (fun w1 =>
  ((
    if p0 ≤ 2 then
      some 0
    else
      some p3 : Option (Int32))).bind (fun w3 =>
  if p0 ≤ 1 then
    ((
      if p0 = 1 then
        some 101
      else
        ((
          if p0 = 2 then
            some 10201
          else
            some 1030301 : Option (Int32))).bind (fun w8 =>
        some w8) : Option (Int32))).bind (fun w6 =>
    ((
      if p0 = 1 then
        some (jrem (101 - p1) 101)
      else
        some 101 : Option (Int32))).bind (fun w10 =>
    (f_X0_power fu (va_up (va_up (va_up (va_up (va_up (va_up E 0 p0) 1 w6) 2 p1) 3 w1) 4 w3) 5 w10) ((va_up (va_up (va_up (va_up (va_up (va_up E 0 p0) 1 w6) 2 p1) 3 w1) 4 w3) 5 w10) 5) 101).bind (fun u12 =>
    (f_X0_times (va_up (va_up (va_up (va_up (va_up (va_up (va_up E 0 p0) 1 w6) 2 p1) 3 w1) 4 w3) 5 w10) 6 u12) ((va_up (va_up (va_up (va_up (va_up (va_up (va_up E 0 p0) 1 w6) 2 p1) 3 w1) 4 w3) 5 w10) 6 u12) 6) ((va_up (va_up (va_up (va_up (va_up (va_up (va_up E 0 p0) 1 w6) 2 p1) 3 w1) 4 w3) 5 w10) 6 u12) 6)).bind (fun u14 =>
    some (1, va_up (va_up (va_up (va_up (va_up (va_up (va_up (va_up E 0 p0) 1 w6) 2 p1) 3 w1) 4 w3) 5 w10) 6 u12) 7 u14)))))
  else
    (f_X0_hasRoot fu p0 p1 w1 w3).bind (fun u16 =>
    if u16 = 0 then
      ((
        if p0 = 1 then
          some 101
        else
          ((
            if p0 = 2 then
              some 10201
            else
              some 1030301 : Option (Int32))).bind (fun w21 =>
          some w21) : Option (Int32))).bind (fun w19 =>
      ((
        if p0 = 1 then
          some (jrem (101 - p1) 101)
        else
          some 101 : Option (Int32))).bind (fun w23 =>
      (f_X0_power fu (va_up (va_up (va_up (va_up (va_up (va_up E 0 p0) 1 w19) 2 p1) 3 w1) 4 w3) 5 w23) ((va_up (va_up (va_up (va_up (va_up (va_up E 0 p0) 1 w19) 2 p1) 3 w1) 4 w3) 5 w23) 5) 101).bind (fun u25 =>
      (f_X0_times (va_up (va_up (va_up (va_up (va_up (va_up (va_up E 0 p0) 1 w19) 2 p1) 3 w1) 4 w3) 5 w23) 6 u25) ((va_up (va_up (va_up (va_up (va_up (va_up (va_up E 0 p0) 1 w19) 2 p1) 3 w1) 4 w3) 5 w23) 6 u25) 6) ((va_up (va_up (va_up (va_up (va_up (va_up (va_up E 0 p0) 1 w19) 2 p1) 3 w1) 4 w3) 5 w23) 6 u25) 6)).bind (fun u27 =>
      some (1, va_up (va_up (va_up (va_up (va_up (va_up (va_up (va_up E 0 p0) 1 w19) 2 p1) 3 w1) 4 w3) 5 w23) 6 u25) 7 u27)))))
    else
      some (0, E))))
set_option maxHeartbeats 4000000 in
set_option maxRecDepth 100000 in
theorem C_X0_become (l : Launch) (D : va_G) (tys : List (ClassId × FieldType)) (nw : List Cond) (hn : nw.all nw_kind = true) (hnw : ∀ w ∈ nw0, w ∈ nw) {ad : Nat → Nat} (hj : ww_inj 46 ad) {cI : ClassId} {cR : ClassId} (htI : tys[0]? = some (cI, .int)) (htR : tys[1]? = some (cR, .object RX2)) {fu : Nat} {M : Fin 20 → Nat → Int32} {E : Nat → Int32} {P : Nat → Fin 20} {C : Nat → Int32} {N : Nat → Int32} {p0 : Int32} {p1 : Int32} {p2 : Int32} {p3 : Int32} {res : Int32 × (Nat → Int32)} (hf : f_X0_become fu E p0 p1 p2 p3 = some res) :
    Met l yX0_become wsX0_become ({ frames := 2, cells := 0, slots := 0, locals := 59 }) (va_Pc [.ref (ad 40), .int p0, .int p1, .int p2, .int p3] (ws_B D tys nw (ww 46 ad (cellC cI cR ad M E P C N)))) (ct_Q D (ww 46 ad (cellC cI cR ad M res.2 P C N)) (ww_A 46 ad) (some (.int res.1))) 0 0 (ww_A 46 ad) := by
  refine Met.ofW (cc := cX0_become) (maxL := 7) (ret := (some .boolean)) (by decide) rfl ?_
  intro p e s m args below meth c s₁ B hml hv
  obtain ⟨rfl, hP, hK, hN⟩ := hv
  have hx := B.exec
  have hb := B.bytes
  have hr := B.returns
  have hts := atoms_spec (ws := wsX0_become) B.pre
  have hown : s.vm.findClass RX0 = some m.cls := findClass_of_methodNamed B.named
  have hlocks := B.notSynchronized
  have hS : va_S (ww_A 46 ad) s.heap s.heap [] := va_S.rf
  have hl := lv_entry ([.ref (ad 40), .int p0, .int p1, .int p2, .int p3]) (n := 7) (Nat.le_of_ble_eq_true rfl)
  rw [lg_entry_eq]
  generalize (lg_sl ([.ref (ad 40), .int p0, .int p1, .int p2, .int p3]) ++ List.replicate (7 - (lg_sl ([.ref (ad 40), .int p0, .int p1, .int p2, .int p3])).length) Slot.unset).toArray = ls at hl ⊢
  have hl : lv_has ls 7 [(0, .ref (ad 40)), (1, .int p0), (2, .int p1), (3, .int p2), (4, .int p3)] := hl
  unfold f_X0_become at hf
  refine lv_iload_n hx hb dX0_become_0 rfl (lv_at hl 1 rfl) ?_
  refine lv_iconst (v := 1) hx hb dX0_become_1 (by decide) ?_
  obtain ⟨w1, gw1, hf⟩ := Option.bind_eq_some_iff.mp hf
  try dsimp only at hf
  have hJ10_w1 : ∀ (H : Heap) (locs : List Loc) (ls : Array Slot), va_P D vwCl (ww 46 ad (cellC cI cR ad M E P C N)) H → va_S (ww_A 46 ad) s.heap H locs → lv_has ls 7 [(0, .ref (ad 40)), (1, .int p0), (2, .int p1), (3, .int p2), (4, .int p3)] → W p l e (headSpec wsX0_become { frames := 2, cells := 0, slots := 0, locals := 59 }).room s m [.ref (ad 40), .int p0, .int p1, .int p2, .int p3].toArray below meth c H locs 0 0 (MQ below (ct_Q D (ww 46 ad (cellC cI cR ad M res.2 P C N)) (ww_A 46 ad) (some (.int res.1))) [.ref (ad 40), .int p0, .int p1, .int p2, .int p3].toArray s 0 0 (ww_A 46 ad)) (F0 m 10 ls [.int w1]) := by
    intro H locs ls hP hS hl
    refine lv_istore (lv' := [(5, .int w1), (0, .ref (ad 40)), (1, .int p0), (2, .int p1), (3, .int p2), (4, .int p3)]) hx hb dX0_become_10 hl (by decide) rfl (fun ls hl => ?_)
    refine lv_iload_n hx hb dX0_become_12 rfl (lv_at hl 2 rfl) ?_
    refine lv_iconst (v := 2) hx hb dX0_become_13 (by decide) ?_
    obtain ⟨w3, gw3, hf⟩ := Option.bind_eq_some_iff.mp hf
    try dsimp only at hf
    have hJ23_w3 : ∀ (H : Heap) (locs : List Loc) (ls : Array Slot), va_P D vwCl (ww 46 ad (cellC cI cR ad M E P C N)) H → va_S (ww_A 46 ad) s.heap H locs → lv_has ls 7 [(0, .ref (ad 40)), (1, .int p0), (2, .int p1), (3, .int p2), (4, .int p3), (5, .int w1)] → W p l e (headSpec wsX0_become { frames := 2, cells := 0, slots := 0, locals := 59 }).room s m [.ref (ad 40), .int p0, .int p1, .int p2, .int p3].toArray below meth c H locs 0 0 (MQ below (ct_Q D (ww 46 ad (cellC cI cR ad M res.2 P C N)) (ww_A 46 ad) (some (.int res.1))) [.ref (ad 40), .int p0, .int p1, .int p2, .int p3].toArray s 0 0 (ww_A 46 ad)) (F0 m 23 ls [.int w3]) := by
      intro H locs ls hP hS hl
      refine lv_istore (lv' := [(6, .int w3), (0, .ref (ad 40)), (1, .int p0), (2, .int p1), (3, .int p2), (4, .int p3), (5, .int w1)]) hx hb dX0_become_23 hl (by decide) rfl (fun ls hl => ?_)
      refine lv_iload_n hx hb dX0_become_25 rfl (lv_at hl 2 rfl) ?_
      refine lv_iconst (v := 1) hx hb dX0_become_26 (by decide) ?_
      refine lv_icmp_le (tgt := 44) hx hb dX0_become_27 (by decide) (fun c5 => ?_) (fun c5 => ?_)
      · rw [if_pos c5] at hf
        refine lv_aload_n hx hb dX0_become_44 rfl (lv_at hl 1 rfl) ?_
        refine lv_iload_n hx hb dX0_become_45 rfl (lv_at hl 2 rfl) ?_
        refine va_put (ci := 0) (v := .int p0) (ty := .int) (C := RX0) (T := TX0) (N := 8) hx hb hts (by decide +kernel) tyX0 tyX0_ok nmX0 hown hK hP (ww_D hj) hS 40 cc_ext rfl 0 (by decide) (hts (.fieldLink RX0 9 "NumberFieldFactors$Extension" "degree" "I") (by decide +kernel)) (fun _ h9 => h9) rfl (by decide +kernel) rfl rfl (Nat.le_of_ble_eq_true rfl) dX0_become_46 (fun H locs hP hD hS => ?_)
        have hP := cs_E0 hP
        refine lv_aload_n hx hb dX0_become_49 rfl (lv_at hl 1 rfl) ?_
        refine lv_iload_n hx hb dX0_become_50 rfl (lv_at hl 2 rfl) ?_
        refine lv_iconst (v := 1) hx hb dX0_become_51 (by decide) ?_
        obtain ⟨w6, gw6, hf⟩ := Option.bind_eq_some_iff.mp hf
        try dsimp only at hf
        have hJ73_w6 : ∀ (H : Heap) (locs : List Loc) (ls : Array Slot), va_P D vwCl (ww 46 ad (cellC cI cR ad M (va_up E 0 p0) P C N)) H → va_S (ww_A 46 ad) s.heap H locs → lv_has ls 7 [(0, .ref (ad 40)), (1, .int p0), (2, .int p1), (3, .int p2), (4, .int p3), (5, .int w1), (6, .int w3)] → W p l e (headSpec wsX0_become { frames := 2, cells := 0, slots := 0, locals := 59 }).room s m [.ref (ad 40), .int p0, .int p1, .int p2, .int p3].toArray below meth c H locs 0 0 (MQ below (ct_Q D (ww 46 ad (cellC cI cR ad M res.2 P C N)) (ww_A 46 ad) (some (.int res.1))) [.ref (ad 40), .int p0, .int p1, .int p2, .int p3].toArray s 0 0 (ww_A 46 ad)) (F0 m 73 ls [.int w6, .ref (ad 40)]) := by
          intro H locs ls hP hS hl
          refine va_put (ci := 0) (v := .int w6) (ty := .int) (C := RX0) (T := TX0) (N := 8) hx hb hts (by decide +kernel) tyX0 tyX0_ok nmX0 hown hK hP (ww_D hj) hS 40 cc_ext rfl 1 (by decide) (hts (.fieldLink RX0 15 "NumberFieldFactors$Extension" "size" "I") (by decide +kernel)) (fun _ h9 => h9) rfl (by decide +kernel) rfl rfl (Nat.le_of_ble_eq_true rfl) dX0_become_73 (fun H locs hP hD hS => ?_)
          have hP := cs_E1 hP
          refine lv_aload_n hx hb dX0_become_76 rfl (lv_at hl 0 rfl) ?_
          refine lv_iload_n hx hb dX0_become_77 rfl (lv_at hl 2 rfl) ?_
          refine va_put (ci := 0) (v := .int p1) (ty := .int) (C := RX0) (T := TX0) (N := 8) hx hb hts (by decide +kernel) tyX0 tyX0_ok nmX0 hown hK hP (ww_D hj) hS 40 cc_ext rfl 2 (by decide) (hts (.fieldLink RX0 18 "NumberFieldFactors$Extension" "low0" "I") (by decide +kernel)) (fun _ h9 => h9) rfl (by decide +kernel) rfl rfl (Nat.le_of_ble_eq_true rfl) dX0_become_78 (fun H locs hP hD hS => ?_)
          have hP := cs_E2 hP
          refine lv_aload_n hx hb dX0_become_81 rfl (lv_at hl 0 rfl) ?_
          refine lv_iload hx hb dX0_become_82 (lv_at hl 5 rfl) ?_
          refine va_put (ci := 0) (v := .int w1) (ty := .int) (C := RX0) (T := TX0) (N := 8) hx hb hts (by decide +kernel) tyX0 tyX0_ok nmX0 hown hK hP (ww_D hj) hS 40 cc_ext rfl 3 (by decide) (hts (.fieldLink RX0 21 "NumberFieldFactors$Extension" "low1" "I") (by decide +kernel)) (fun _ h9 => h9) rfl (by decide +kernel) rfl rfl (Nat.le_of_ble_eq_true rfl) dX0_become_84 (fun H locs hP hD hS => ?_)
          have hP := cs_E3 hP
          refine lv_aload_n hx hb dX0_become_87 rfl (lv_at hl 0 rfl) ?_
          refine lv_iload hx hb dX0_become_88 (lv_at hl 6 rfl) ?_
          refine va_put (ci := 0) (v := .int w3) (ty := .int) (C := RX0) (T := TX0) (N := 8) hx hb hts (by decide +kernel) tyX0 tyX0_ok nmX0 hown hK hP (ww_D hj) hS 40 cc_ext rfl 4 (by decide) (hts (.fieldLink RX0 24 "NumberFieldFactors$Extension" "low2" "I") (by decide +kernel)) (fun _ h9 => h9) rfl (by decide +kernel) rfl rfl (Nat.le_of_ble_eq_true rfl) dX0_become_90 (fun H locs hP hD hS => ?_)
          have hP := cs_E4 hP
          refine lv_aload_n hx hb dX0_become_93 rfl (lv_at hl 0 rfl) ?_
          refine lv_iload_n hx hb dX0_become_94 rfl (lv_at hl 1 rfl) ?_
          refine lv_iconst (v := 1) hx hb dX0_become_95 (by decide) ?_
          obtain ⟨w10, gw10, hf⟩ := Option.bind_eq_some_iff.mp hf
          try dsimp only at hf
          have hJ111_w10 : ∀ (H : Heap) (locs : List Loc) (ls : Array Slot), va_P D vwCl (ww 46 ad (cellC cI cR ad M (va_up (va_up (va_up (va_up (va_up E 0 p0) 1 w6) 2 p1) 3 w1) 4 w3) P C N)) H → va_S (ww_A 46 ad) s.heap H locs → lv_has ls 7 [(0, .ref (ad 40)), (1, .int p0), (2, .int p1), (3, .int p2), (4, .int p3), (5, .int w1), (6, .int w3)] → W p l e (headSpec wsX0_become { frames := 2, cells := 0, slots := 0, locals := 59 }).room s m [.ref (ad 40), .int p0, .int p1, .int p2, .int p3].toArray below meth c H locs 0 0 (MQ below (ct_Q D (ww 46 ad (cellC cI cR ad M res.2 P C N)) (ww_A 46 ad) (some (.int res.1))) [.ref (ad 40), .int p0, .int p1, .int p2, .int p3].toArray s 0 0 (ww_A 46 ad)) (F0 m 111 ls [.int w10, .ref (ad 40)]) := by
            intro H locs ls hP hS hl
            refine va_put (ci := 0) (v := .int w10) (ty := .int) (C := RX0) (T := TX0) (N := 8) hx hb hts (by decide +kernel) tyX0 tyX0_ok nmX0 hown hK hP (ww_D hj) hS 40 cc_ext rfl 5 (by decide) (hts (.fieldLink RX0 27 "NumberFieldFactors$Extension" "t" "I") (by decide +kernel)) (fun _ h9 => h9) rfl (by decide +kernel) rfl rfl (Nat.le_of_ble_eq_true rfl) dX0_become_111 (fun H locs hP hD hS => ?_)
            have hP := cs_E5 hP
            refine lv_aload_n hx hb dX0_become_114 rfl (lv_at hl 0 rfl) ?_
            refine lv_aload_n hx hb dX0_become_115 rfl (lv_at hl 0 rfl) ?_
            refine lv_aload_n hx hb dX0_become_116 rfl (lv_at hl 0 rfl) ?_
            refine va_get (ci := 0) (v := .int ((va_up (va_up (va_up (va_up (va_up (va_up E 0 p0) 1 w6) 2 p1) 3 w1) 4 w3) 5 w10) 5)) (C := RX0) (T := TX0) (N := 8) hx hb hts (by decide +kernel) hown hK hP 40 cc_ext rfl 5 (by decide) (hts (.fieldLink RX0 27 "NumberFieldFactors$Extension" "t" "I") (by decide +kernel)) (fun _ h9 => h9) rfl dX0_become_117 ?_
            refine lv_bipush (v := 101) hx hb dX0_become_120 (by decide) ?_
            obtain ⟨u12, g13, hf⟩ := Option.bind_eq_some_iff.mp hf
            try dsimp only at hf
            refine ct_call (va_runV (As := [.int ((va_up (va_up (va_up (va_up (va_up (va_up E 0 p0) 1 w6) 2 p1) 3 w1) 4 w3) 5 w10) 5), .int 101]) (rest := [.ref (ad 40)]) ⟨hx, hb, hml, hown, hts⟩ (C_X0_power l D tys nw hn hnw hj htI htR (res := u12) g13) (cwV 2 hts gX0_become_X0_power rfl rfl rfl (by decide +kernel) ⟨Nat.le_of_ble_eq_true rfl, Nat.le_of_ble_eq_true rfl⟩) (ct_preV hn hP hK hN (ci := 0) (k := 40) rfl (by decide) rfl) rfl rfl hl.1 rfl (lv_room (Nat.le_of_ble_eq_true rfl)) dX0_become_122 ⟨Nat.zero_le _, Nat.zero_le _⟩) hS (fun H locs hP hS => ?_)
            refine va_put (ci := 0) (v := .int u12) (ty := .int) (C := RX0) (T := TX0) (N := 8) hx hb hts (by decide +kernel) tyX0 tyX0_ok nmX0 hown hK hP (ww_D hj) hS 40 cc_ext rfl 6 (by decide) (hts (.fieldLink RX0 30 "NumberFieldFactors$Extension" "mateOfT" "I") (by decide +kernel)) (fun _ h9 => h9) rfl (by decide +kernel) rfl rfl (Nat.le_of_ble_eq_true rfl) dX0_become_125 (fun H locs hP hD hS => ?_)
            have hP := cs_E6 hP
            refine lv_aload_n hx hb dX0_become_128 rfl (lv_at hl 0 rfl) ?_
            refine lv_aload_n hx hb dX0_become_129 rfl (lv_at hl 0 rfl) ?_
            refine lv_aload_n hx hb dX0_become_130 rfl (lv_at hl 0 rfl) ?_
            refine va_get (ci := 0) (v := .int ((va_up (va_up (va_up (va_up (va_up (va_up (va_up E 0 p0) 1 w6) 2 p1) 3 w1) 4 w3) 5 w10) 6 u12) 6)) (C := RX0) (T := TX0) (N := 8) hx hb hts (by decide +kernel) hown hK hP 40 cc_ext rfl 6 (by decide) (hts (.fieldLink RX0 30 "NumberFieldFactors$Extension" "mateOfT" "I") (by decide +kernel)) (fun _ h9 => h9) rfl dX0_become_131 ?_
            refine lv_aload_n hx hb dX0_become_134 rfl (lv_at hl 0 rfl) ?_
            refine va_get (ci := 0) (v := .int ((va_up (va_up (va_up (va_up (va_up (va_up (va_up E 0 p0) 1 w6) 2 p1) 3 w1) 4 w3) 5 w10) 6 u12) 6)) (C := RX0) (T := TX0) (N := 8) hx hb hts (by decide +kernel) hown hK hP 40 cc_ext rfl 6 (by decide) (hts (.fieldLink RX0 30 "NumberFieldFactors$Extension" "mateOfT" "I") (by decide +kernel)) (fun _ h9 => h9) rfl dX0_become_135 ?_
            obtain ⟨u14, g15, hf⟩ := Option.bind_eq_some_iff.mp hf
            try dsimp only at hf
            refine ct_call (va_runV (As := [.int ((va_up (va_up (va_up (va_up (va_up (va_up (va_up E 0 p0) 1 w6) 2 p1) 3 w1) 4 w3) 5 w10) 6 u12) 6), .int ((va_up (va_up (va_up (va_up (va_up (va_up (va_up E 0 p0) 1 w6) 2 p1) 3 w1) 4 w3) 5 w10) 6 u12) 6)]) (rest := [.ref (ad 40)]) ⟨hx, hb, hml, hown, hts⟩ (C_X0_times l D tys nw hn hnw hj htI htR (res := u14) g15) (cwV 2 hts gX0_become_X0_times rfl rfl rfl (by decide +kernel) ⟨Nat.le_of_ble_eq_true rfl, Nat.le_of_ble_eq_true rfl⟩) (ct_preV hn hP hK hN (ci := 0) (k := 40) rfl (by decide) rfl) rfl rfl hl.1 rfl (lv_room (Nat.le_of_ble_eq_true rfl)) dX0_become_138 ⟨Nat.zero_le _, Nat.zero_le _⟩) hS (fun H locs hP hS => ?_)
            refine va_put (ci := 0) (v := .int u14) (ty := .int) (C := RX0) (T := TX0) (N := 8) hx hb hts (by decide +kernel) tyX0 tyX0_ok nmX0 hown hK hP (ww_D hj) hS 40 cc_ext rfl 7 (by decide) (hts (.fieldLink RX0 33 "NumberFieldFactors$Extension" "mateOfTSquared" "I") (by decide +kernel)) (fun _ h9 => h9) rfl (by decide +kernel) rfl rfl (Nat.le_of_ble_eq_true rfl) dX0_become_141 (fun H locs hP hD hS => ?_)
            have hP := cs_E7 hP
            refine lv_iconst (v := 1) hx hb dX0_become_144 (by decide) ?_
            obtain rfl := Option.some.inj hf
            exact W.zret (v := 1) (ty := .boolean) hx hb hr (by decide) (fun t ht hW => ⟨rfl, by rw [ht]; exact hP, hS.F ht⟩) hS.2.2 dX0_become_145
          refine lv_icmp_ne (tgt := 109) hx hb dX0_become_96 (by decide) (fun c11 => ?_) (fun c11 => ?_)
          · rw [if_neg c11] at gw10
            refine lv_bipush (v := 101) hx hb dX0_become_109 (by decide) ?_
            obtain rfl := Option.some.inj gw10
            exact hJ111_w10 _ _ _ hP hS (lv_sub hl [0, 1, 2, 3, 4, 5, 6] rfl)
          · rw [if_pos c11] at gw10
            refine lv_bipush (v := 101) hx hb dX0_become_99 (by decide) ?_
            refine lv_iload_n hx hb dX0_become_101 rfl (lv_at hl 2 rfl) ?_
            refine lv_isub hx hb dX0_become_102 ?_
            refine lv_bipush (v := 101) hx hb dX0_become_103 (by decide) ?_
            refine jv_irem hx hb dX0_become_105 (by decide) ?_
            refine lv_goto (tgt := 111) hx hb dX0_become_106 (by decide) ?_
            obtain rfl := Option.some.inj gw10
            exact hJ111_w10 _ _ _ hP hS (lv_sub hl [0, 1, 2, 3, 4, 5, 6] rfl)
        refine lv_icmp_ne (tgt := 60) hx hb dX0_become_52 (by decide) (fun c7 => ?_) (fun c7 => ?_)
        · rw [if_neg c7] at gw6
          refine lv_iload_n hx hb dX0_become_60 rfl (lv_at hl 2 rfl) ?_
          refine lv_iconst (v := 2) hx hb dX0_become_61 (by decide) ?_
          obtain ⟨w8, gw8, gw6⟩ := Option.bind_eq_some_iff.mp gw6
          try dsimp only at gw6
          have hJ73_w8 : ∀ (H : Heap) (locs : List Loc) (ls : Array Slot), va_P D vwCl (ww 46 ad (cellC cI cR ad M (va_up E 0 p0) P C N)) H → va_S (ww_A 46 ad) s.heap H locs → lv_has ls 7 [(0, .ref (ad 40)), (1, .int p0), (2, .int p1), (3, .int p2), (4, .int p3), (5, .int w1), (6, .int w3)] → W p l e (headSpec wsX0_become { frames := 2, cells := 0, slots := 0, locals := 59 }).room s m [.ref (ad 40), .int p0, .int p1, .int p2, .int p3].toArray below meth c H locs 0 0 (MQ below (ct_Q D (ww 46 ad (cellC cI cR ad M res.2 P C N)) (ww_A 46 ad) (some (.int res.1))) [.ref (ad 40), .int p0, .int p1, .int p2, .int p3].toArray s 0 0 (ww_A 46 ad)) (F0 m 73 ls [.int w8, .ref (ad 40)]) := by
            intro H locs ls hP hS hl
            obtain rfl := Option.some.inj gw6
            exact hJ73_w6 _ _ _ hP hS (lv_sub hl [0, 1, 2, 3, 4, 5, 6] rfl)
          refine lv_icmp_ne (tgt := 71) hx hb dX0_become_62 (by decide) (fun c9 => ?_) (fun c9 => ?_)
          · rw [if_neg c9] at gw8
            refine lv_ldc (v := 1030301) hx hb hown (hts (.constant RX0 40 (1030301)) (by decide +kernel)) dX0_become_71 ?_
            obtain rfl := Option.some.inj gw8
            exact hJ73_w8 _ _ _ hP hS (lv_sub hl [1, 2, 3, 4, 5, 6, 0] rfl)
          · rw [if_pos c9] at gw8
            refine lv_sipush (v := 10201) hx hb dX0_become_65 (by decide) ?_
            refine lv_goto (tgt := 73) hx hb dX0_become_68 (by decide) ?_
            obtain rfl := Option.some.inj gw8
            exact hJ73_w8 _ _ _ hP hS (lv_sub hl [1, 2, 3, 4, 5, 6, 0] rfl)
        · rw [if_pos c7] at gw6
          refine lv_bipush (v := 101) hx hb dX0_become_55 (by decide) ?_
          refine lv_goto (tgt := 73) hx hb dX0_become_57 (by decide) ?_
          obtain rfl := Option.some.inj gw6
          exact hJ73_w6 _ _ _ hP hS (lv_sub hl [1, 2, 3, 4, 5, 6, 0] rfl)
      · rw [if_neg c5] at hf
        refine lv_iload_n hx hb dX0_become_30 rfl (lv_at hl 2 rfl) ?_
        refine lv_iload_n hx hb dX0_become_31 rfl (lv_at hl 3 rfl) ?_
        refine lv_iload hx hb dX0_become_32 (lv_at hl 6 rfl) ?_
        refine lv_iload hx hb dX0_become_34 (lv_at hl 0 rfl) ?_
        obtain ⟨u16, g17, hf⟩ := Option.bind_eq_some_iff.mp hf
        try dsimp only at hf
        refine ct_call (va_runS (As := [.int p0, .int p1, .int w1, .int w3]) (rest := []) ⟨hx, hb, hml, hown, hts⟩ (C_X0_hasRoot l D tys nw hn hnw hj htI htR (res := u16) g17) (cwS 4 hts gX0_become_X0_hasRoot rfl rfl rfl (by decide +kernel) ⟨Nat.le_of_ble_eq_true rfl, Nat.le_of_ble_eq_true rfl⟩) (ct_preS hn hP hK hN) rfl rfl hl.1 rfl (lv_room (Nat.le_of_ble_eq_true rfl)) dX0_become_36 ⟨Nat.zero_le _, Nat.zero_le _⟩) hS (fun H locs hP hS => ?_)
        refine lv_if_eq (tgt := 44) hx hb dX0_become_39 (by decide) (fun c18 => ?_) (fun c18 => ?_)
        · rw [if_pos c18] at hf
          refine lv_aload_n hx hb dX0_become_44 rfl (lv_at hl 1 rfl) ?_
          refine lv_iload_n hx hb dX0_become_45 rfl (lv_at hl 2 rfl) ?_
          refine va_put (ci := 0) (v := .int p0) (ty := .int) (C := RX0) (T := TX0) (N := 8) hx hb hts (by decide +kernel) tyX0 tyX0_ok nmX0 hown hK hP (ww_D hj) hS 40 cc_ext rfl 0 (by decide) (hts (.fieldLink RX0 9 "NumberFieldFactors$Extension" "degree" "I") (by decide +kernel)) (fun _ h9 => h9) rfl (by decide +kernel) rfl rfl (Nat.le_of_ble_eq_true rfl) dX0_become_46 (fun H locs hP hD hS => ?_)
          have hP := cs_E0 hP
          refine lv_aload_n hx hb dX0_become_49 rfl (lv_at hl 1 rfl) ?_
          refine lv_iload_n hx hb dX0_become_50 rfl (lv_at hl 2 rfl) ?_
          refine lv_iconst (v := 1) hx hb dX0_become_51 (by decide) ?_
          obtain ⟨w19, gw19, hf⟩ := Option.bind_eq_some_iff.mp hf
          try dsimp only at hf
          have hJ73_w19 : ∀ (H : Heap) (locs : List Loc) (ls : Array Slot), va_P D vwCl (ww 46 ad (cellC cI cR ad M (va_up E 0 p0) P C N)) H → va_S (ww_A 46 ad) s.heap H locs → lv_has ls 7 [(0, .ref (ad 40)), (1, .int p0), (2, .int p1), (3, .int p2), (4, .int p3), (5, .int w1), (6, .int w3)] → W p l e (headSpec wsX0_become { frames := 2, cells := 0, slots := 0, locals := 59 }).room s m [.ref (ad 40), .int p0, .int p1, .int p2, .int p3].toArray below meth c H locs 0 0 (MQ below (ct_Q D (ww 46 ad (cellC cI cR ad M res.2 P C N)) (ww_A 46 ad) (some (.int res.1))) [.ref (ad 40), .int p0, .int p1, .int p2, .int p3].toArray s 0 0 (ww_A 46 ad)) (F0 m 73 ls [.int w19, .ref (ad 40)]) := by
            intro H locs ls hP hS hl
            refine va_put (ci := 0) (v := .int w19) (ty := .int) (C := RX0) (T := TX0) (N := 8) hx hb hts (by decide +kernel) tyX0 tyX0_ok nmX0 hown hK hP (ww_D hj) hS 40 cc_ext rfl 1 (by decide) (hts (.fieldLink RX0 15 "NumberFieldFactors$Extension" "size" "I") (by decide +kernel)) (fun _ h9 => h9) rfl (by decide +kernel) rfl rfl (Nat.le_of_ble_eq_true rfl) dX0_become_73 (fun H locs hP hD hS => ?_)
            have hP := cs_E1 hP
            refine lv_aload_n hx hb dX0_become_76 rfl (lv_at hl 0 rfl) ?_
            refine lv_iload_n hx hb dX0_become_77 rfl (lv_at hl 2 rfl) ?_
            refine va_put (ci := 0) (v := .int p1) (ty := .int) (C := RX0) (T := TX0) (N := 8) hx hb hts (by decide +kernel) tyX0 tyX0_ok nmX0 hown hK hP (ww_D hj) hS 40 cc_ext rfl 2 (by decide) (hts (.fieldLink RX0 18 "NumberFieldFactors$Extension" "low0" "I") (by decide +kernel)) (fun _ h9 => h9) rfl (by decide +kernel) rfl rfl (Nat.le_of_ble_eq_true rfl) dX0_become_78 (fun H locs hP hD hS => ?_)
            have hP := cs_E2 hP
            refine lv_aload_n hx hb dX0_become_81 rfl (lv_at hl 0 rfl) ?_
            refine lv_iload hx hb dX0_become_82 (lv_at hl 5 rfl) ?_
            refine va_put (ci := 0) (v := .int w1) (ty := .int) (C := RX0) (T := TX0) (N := 8) hx hb hts (by decide +kernel) tyX0 tyX0_ok nmX0 hown hK hP (ww_D hj) hS 40 cc_ext rfl 3 (by decide) (hts (.fieldLink RX0 21 "NumberFieldFactors$Extension" "low1" "I") (by decide +kernel)) (fun _ h9 => h9) rfl (by decide +kernel) rfl rfl (Nat.le_of_ble_eq_true rfl) dX0_become_84 (fun H locs hP hD hS => ?_)
            have hP := cs_E3 hP
            refine lv_aload_n hx hb dX0_become_87 rfl (lv_at hl 0 rfl) ?_
            refine lv_iload hx hb dX0_become_88 (lv_at hl 6 rfl) ?_
            refine va_put (ci := 0) (v := .int w3) (ty := .int) (C := RX0) (T := TX0) (N := 8) hx hb hts (by decide +kernel) tyX0 tyX0_ok nmX0 hown hK hP (ww_D hj) hS 40 cc_ext rfl 4 (by decide) (hts (.fieldLink RX0 24 "NumberFieldFactors$Extension" "low2" "I") (by decide +kernel)) (fun _ h9 => h9) rfl (by decide +kernel) rfl rfl (Nat.le_of_ble_eq_true rfl) dX0_become_90 (fun H locs hP hD hS => ?_)
            have hP := cs_E4 hP
            refine lv_aload_n hx hb dX0_become_93 rfl (lv_at hl 0 rfl) ?_
            refine lv_iload_n hx hb dX0_become_94 rfl (lv_at hl 1 rfl) ?_
            refine lv_iconst (v := 1) hx hb dX0_become_95 (by decide) ?_
            obtain ⟨w23, gw23, hf⟩ := Option.bind_eq_some_iff.mp hf
            try dsimp only at hf
            have hJ111_w23 : ∀ (H : Heap) (locs : List Loc) (ls : Array Slot), va_P D vwCl (ww 46 ad (cellC cI cR ad M (va_up (va_up (va_up (va_up (va_up E 0 p0) 1 w19) 2 p1) 3 w1) 4 w3) P C N)) H → va_S (ww_A 46 ad) s.heap H locs → lv_has ls 7 [(0, .ref (ad 40)), (1, .int p0), (2, .int p1), (3, .int p2), (4, .int p3), (5, .int w1), (6, .int w3)] → W p l e (headSpec wsX0_become { frames := 2, cells := 0, slots := 0, locals := 59 }).room s m [.ref (ad 40), .int p0, .int p1, .int p2, .int p3].toArray below meth c H locs 0 0 (MQ below (ct_Q D (ww 46 ad (cellC cI cR ad M res.2 P C N)) (ww_A 46 ad) (some (.int res.1))) [.ref (ad 40), .int p0, .int p1, .int p2, .int p3].toArray s 0 0 (ww_A 46 ad)) (F0 m 111 ls [.int w23, .ref (ad 40)]) := by
              intro H locs ls hP hS hl
              refine va_put (ci := 0) (v := .int w23) (ty := .int) (C := RX0) (T := TX0) (N := 8) hx hb hts (by decide +kernel) tyX0 tyX0_ok nmX0 hown hK hP (ww_D hj) hS 40 cc_ext rfl 5 (by decide) (hts (.fieldLink RX0 27 "NumberFieldFactors$Extension" "t" "I") (by decide +kernel)) (fun _ h9 => h9) rfl (by decide +kernel) rfl rfl (Nat.le_of_ble_eq_true rfl) dX0_become_111 (fun H locs hP hD hS => ?_)
              have hP := cs_E5 hP
              refine lv_aload_n hx hb dX0_become_114 rfl (lv_at hl 0 rfl) ?_
              refine lv_aload_n hx hb dX0_become_115 rfl (lv_at hl 0 rfl) ?_
              refine lv_aload_n hx hb dX0_become_116 rfl (lv_at hl 0 rfl) ?_
              refine va_get (ci := 0) (v := .int ((va_up (va_up (va_up (va_up (va_up (va_up E 0 p0) 1 w19) 2 p1) 3 w1) 4 w3) 5 w23) 5)) (C := RX0) (T := TX0) (N := 8) hx hb hts (by decide +kernel) hown hK hP 40 cc_ext rfl 5 (by decide) (hts (.fieldLink RX0 27 "NumberFieldFactors$Extension" "t" "I") (by decide +kernel)) (fun _ h9 => h9) rfl dX0_become_117 ?_
              refine lv_bipush (v := 101) hx hb dX0_become_120 (by decide) ?_
              obtain ⟨u25, g26, hf⟩ := Option.bind_eq_some_iff.mp hf
              try dsimp only at hf
              refine ct_call (va_runV (As := [.int ((va_up (va_up (va_up (va_up (va_up (va_up E 0 p0) 1 w19) 2 p1) 3 w1) 4 w3) 5 w23) 5), .int 101]) (rest := [.ref (ad 40)]) ⟨hx, hb, hml, hown, hts⟩ (C_X0_power l D tys nw hn hnw hj htI htR (res := u25) g26) (cwV 2 hts gX0_become_X0_power rfl rfl rfl (by decide +kernel) ⟨Nat.le_of_ble_eq_true rfl, Nat.le_of_ble_eq_true rfl⟩) (ct_preV hn hP hK hN (ci := 0) (k := 40) rfl (by decide) rfl) rfl rfl hl.1 rfl (lv_room (Nat.le_of_ble_eq_true rfl)) dX0_become_122 ⟨Nat.zero_le _, Nat.zero_le _⟩) hS (fun H locs hP hS => ?_)
              refine va_put (ci := 0) (v := .int u25) (ty := .int) (C := RX0) (T := TX0) (N := 8) hx hb hts (by decide +kernel) tyX0 tyX0_ok nmX0 hown hK hP (ww_D hj) hS 40 cc_ext rfl 6 (by decide) (hts (.fieldLink RX0 30 "NumberFieldFactors$Extension" "mateOfT" "I") (by decide +kernel)) (fun _ h9 => h9) rfl (by decide +kernel) rfl rfl (Nat.le_of_ble_eq_true rfl) dX0_become_125 (fun H locs hP hD hS => ?_)
              have hP := cs_E6 hP
              refine lv_aload_n hx hb dX0_become_128 rfl (lv_at hl 0 rfl) ?_
              refine lv_aload_n hx hb dX0_become_129 rfl (lv_at hl 0 rfl) ?_
              refine lv_aload_n hx hb dX0_become_130 rfl (lv_at hl 0 rfl) ?_
              refine va_get (ci := 0) (v := .int ((va_up (va_up (va_up (va_up (va_up (va_up (va_up E 0 p0) 1 w19) 2 p1) 3 w1) 4 w3) 5 w23) 6 u25) 6)) (C := RX0) (T := TX0) (N := 8) hx hb hts (by decide +kernel) hown hK hP 40 cc_ext rfl 6 (by decide) (hts (.fieldLink RX0 30 "NumberFieldFactors$Extension" "mateOfT" "I") (by decide +kernel)) (fun _ h9 => h9) rfl dX0_become_131 ?_
              refine lv_aload_n hx hb dX0_become_134 rfl (lv_at hl 0 rfl) ?_
              refine va_get (ci := 0) (v := .int ((va_up (va_up (va_up (va_up (va_up (va_up (va_up E 0 p0) 1 w19) 2 p1) 3 w1) 4 w3) 5 w23) 6 u25) 6)) (C := RX0) (T := TX0) (N := 8) hx hb hts (by decide +kernel) hown hK hP 40 cc_ext rfl 6 (by decide) (hts (.fieldLink RX0 30 "NumberFieldFactors$Extension" "mateOfT" "I") (by decide +kernel)) (fun _ h9 => h9) rfl dX0_become_135 ?_
              obtain ⟨u27, g28, hf⟩ := Option.bind_eq_some_iff.mp hf
              try dsimp only at hf
              refine ct_call (va_runV (As := [.int ((va_up (va_up (va_up (va_up (va_up (va_up (va_up E 0 p0) 1 w19) 2 p1) 3 w1) 4 w3) 5 w23) 6 u25) 6), .int ((va_up (va_up (va_up (va_up (va_up (va_up (va_up E 0 p0) 1 w19) 2 p1) 3 w1) 4 w3) 5 w23) 6 u25) 6)]) (rest := [.ref (ad 40)]) ⟨hx, hb, hml, hown, hts⟩ (C_X0_times l D tys nw hn hnw hj htI htR (res := u27) g28) (cwV 2 hts gX0_become_X0_times rfl rfl rfl (by decide +kernel) ⟨Nat.le_of_ble_eq_true rfl, Nat.le_of_ble_eq_true rfl⟩) (ct_preV hn hP hK hN (ci := 0) (k := 40) rfl (by decide) rfl) rfl rfl hl.1 rfl (lv_room (Nat.le_of_ble_eq_true rfl)) dX0_become_138 ⟨Nat.zero_le _, Nat.zero_le _⟩) hS (fun H locs hP hS => ?_)
              refine va_put (ci := 0) (v := .int u27) (ty := .int) (C := RX0) (T := TX0) (N := 8) hx hb hts (by decide +kernel) tyX0 tyX0_ok nmX0 hown hK hP (ww_D hj) hS 40 cc_ext rfl 7 (by decide) (hts (.fieldLink RX0 33 "NumberFieldFactors$Extension" "mateOfTSquared" "I") (by decide +kernel)) (fun _ h9 => h9) rfl (by decide +kernel) rfl rfl (Nat.le_of_ble_eq_true rfl) dX0_become_141 (fun H locs hP hD hS => ?_)
              have hP := cs_E7 hP
              refine lv_iconst (v := 1) hx hb dX0_become_144 (by decide) ?_
              obtain rfl := Option.some.inj hf
              exact W.zret (v := 1) (ty := .boolean) hx hb hr (by decide) (fun t ht hW => ⟨rfl, by rw [ht]; exact hP, hS.F ht⟩) hS.2.2 dX0_become_145
            refine lv_icmp_ne (tgt := 109) hx hb dX0_become_96 (by decide) (fun c24 => ?_) (fun c24 => ?_)
            · rw [if_neg c24] at gw23
              refine lv_bipush (v := 101) hx hb dX0_become_109 (by decide) ?_
              obtain rfl := Option.some.inj gw23
              exact hJ111_w23 _ _ _ hP hS (lv_sub hl [0, 1, 2, 3, 4, 5, 6] rfl)
            · rw [if_pos c24] at gw23
              refine lv_bipush (v := 101) hx hb dX0_become_99 (by decide) ?_
              refine lv_iload_n hx hb dX0_become_101 rfl (lv_at hl 2 rfl) ?_
              refine lv_isub hx hb dX0_become_102 ?_
              refine lv_bipush (v := 101) hx hb dX0_become_103 (by decide) ?_
              refine jv_irem hx hb dX0_become_105 (by decide) ?_
              refine lv_goto (tgt := 111) hx hb dX0_become_106 (by decide) ?_
              obtain rfl := Option.some.inj gw23
              exact hJ111_w23 _ _ _ hP hS (lv_sub hl [0, 1, 2, 3, 4, 5, 6] rfl)
          refine lv_icmp_ne (tgt := 60) hx hb dX0_become_52 (by decide) (fun c20 => ?_) (fun c20 => ?_)
          · rw [if_neg c20] at gw19
            refine lv_iload_n hx hb dX0_become_60 rfl (lv_at hl 2 rfl) ?_
            refine lv_iconst (v := 2) hx hb dX0_become_61 (by decide) ?_
            obtain ⟨w21, gw21, gw19⟩ := Option.bind_eq_some_iff.mp gw19
            try dsimp only at gw19
            have hJ73_w21 : ∀ (H : Heap) (locs : List Loc) (ls : Array Slot), va_P D vwCl (ww 46 ad (cellC cI cR ad M (va_up E 0 p0) P C N)) H → va_S (ww_A 46 ad) s.heap H locs → lv_has ls 7 [(0, .ref (ad 40)), (1, .int p0), (2, .int p1), (3, .int p2), (4, .int p3), (5, .int w1), (6, .int w3)] → W p l e (headSpec wsX0_become { frames := 2, cells := 0, slots := 0, locals := 59 }).room s m [.ref (ad 40), .int p0, .int p1, .int p2, .int p3].toArray below meth c H locs 0 0 (MQ below (ct_Q D (ww 46 ad (cellC cI cR ad M res.2 P C N)) (ww_A 46 ad) (some (.int res.1))) [.ref (ad 40), .int p0, .int p1, .int p2, .int p3].toArray s 0 0 (ww_A 46 ad)) (F0 m 73 ls [.int w21, .ref (ad 40)]) := by
              intro H locs ls hP hS hl
              obtain rfl := Option.some.inj gw19
              exact hJ73_w19 _ _ _ hP hS (lv_sub hl [0, 1, 2, 3, 4, 5, 6] rfl)
            refine lv_icmp_ne (tgt := 71) hx hb dX0_become_62 (by decide) (fun c22 => ?_) (fun c22 => ?_)
            · rw [if_neg c22] at gw21
              refine lv_ldc (v := 1030301) hx hb hown (hts (.constant RX0 40 (1030301)) (by decide +kernel)) dX0_become_71 ?_
              obtain rfl := Option.some.inj gw21
              exact hJ73_w21 _ _ _ hP hS (lv_sub hl [1, 2, 3, 4, 5, 6, 0] rfl)
            · rw [if_pos c22] at gw21
              refine lv_sipush (v := 10201) hx hb dX0_become_65 (by decide) ?_
              refine lv_goto (tgt := 73) hx hb dX0_become_68 (by decide) ?_
              obtain rfl := Option.some.inj gw21
              exact hJ73_w21 _ _ _ hP hS (lv_sub hl [1, 2, 3, 4, 5, 6, 0] rfl)
          · rw [if_pos c20] at gw19
            refine lv_bipush (v := 101) hx hb dX0_become_55 (by decide) ?_
            refine lv_goto (tgt := 73) hx hb dX0_become_57 (by decide) ?_
            obtain rfl := Option.some.inj gw19
            exact hJ73_w19 _ _ _ hP hS (lv_sub hl [1, 2, 3, 4, 5, 6, 0] rfl)
        · rw [if_neg c18] at hf
          refine lv_iconst (v := 0) hx hb dX0_become_42 (by decide) ?_
          obtain rfl := Option.some.inj hf
          exact W.zret (v := 0) (ty := .boolean) hx hb hr (by decide) (fun t ht hW => ⟨rfl, by rw [ht]; exact hP, hS.F ht⟩) hS.2.2 dX0_become_43
    refine lv_icmp_le (tgt := 22) hx hb dX0_become_14 (by decide) (fun c4 => ?_) (fun c4 => ?_)
    · rw [if_pos c4] at gw3
      refine lv_iconst (v := 0) hx hb dX0_become_22 (by decide) ?_
      obtain rfl := Option.some.inj gw3
      exact hJ23_w3 _ _ _ hP hS (lv_sub hl [1, 2, 3, 4, 5, 0] rfl)
    · rw [if_neg c4] at gw3
      refine lv_iload hx hb dX0_become_17 (lv_at hl 5 rfl) ?_
      refine lv_goto (tgt := 23) hx hb dX0_become_19 (by decide) ?_
      obtain rfl := Option.some.inj gw3
      exact hJ23_w3 _ _ _ hP hS (lv_sub hl [1, 2, 3, 4, 5, 0] rfl)
  refine lv_icmp_le (tgt := 9) hx hb dX0_become_2 (by decide) (fun c2 => ?_) (fun c2 => ?_)
  · rw [if_pos c2] at gw1
    refine lv_iconst (v := 0) hx hb dX0_become_9 (by decide) ?_
    obtain rfl := Option.some.inj gw1
    exact hJ10_w1 _ _ _ hP hS (lv_sub hl [0, 1, 2, 3, 4] rfl)
  · rw [if_neg c2] at gw1
    refine lv_iload_n hx hb dX0_become_5 rfl (lv_at hl 3 rfl) ?_
    refine lv_goto (tgt := 10) hx hb dX0_become_6 (by decide) ?_
    obtain rfl := Option.some.inj gw1
    exact hJ10_w1 _ _ _ hP hS (lv_sub hl [0, 1, 2, 3, 4] rfl)
end
section
def f_X1_valueOf_l8 (k8 : Int32 → Int32 → Option (Int32)) (fu : Nat) (M : Fin 20 → Nat → Int32) (E : Nat → Int32) (x1 : Fin 20) (x2 : Int32) : Nat → Int32 → Int32 → Option (Int32)
  | 0, _, _ => none
  | n + 1, x3, x4 =>
    if x4 < 0 then
      k8 x3 x4
    else
      (f_X0_times E x3 x2).bind (fun u4 =>
      (f_X2_get M x1 x4).bind (fun u6 =>
      (f_X0_plus u4 u6).bind (fun u8 =>
      f_X1_valueOf_l8 k8 fu M E x1 x2 n u8 (x4 + (-1)))))
def f_X1_valueOf (fu : Nat) (M : Fin 20 → Nat → Int32) (E : Nat → Int32) (p0 : Fin 20) (p1 : Int32) : Option (Int32) :=
  (f_X2_degree fu M p0).bind (fun u1 =>
  f_X1_valueOf_l8 (fun y10 y11 =>
    some y10) fu M E p0 p1 fu 0 u1)
set_option maxHeartbeats 4000000 in
set_option maxRecDepth 100000 in
theorem C_X1_valueOf (l : Launch) (D : va_G) (tys : List (ClassId × FieldType)) (nw : List Cond) (hn : nw.all nw_kind = true) (hnw : ∀ w ∈ nw0, w ∈ nw) {ad : Nat → Nat} (hj : ww_inj 46 ad) {cI : ClassId} {cR : ClassId} (htI : tys[0]? = some (cI, .int)) (htR : tys[1]? = some (cR, .object RX2)) {fu : Nat} {M : Fin 20 → Nat → Int32} {E : Nat → Int32} {P : Nat → Fin 20} {C : Nat → Int32} {N : Nat → Int32} {p0 : Fin 20} {p1 : Int32} {res : Int32} (hf : f_X1_valueOf fu M E p0 p1 = some res) :
    Met l yX1_valueOf wsX1_valueOf ({ frames := 1, cells := 0, slots := 0, locals := 34 }) (va_Pc [.ref (ad 41), .ref (ra ad p0), .int p1] (ws_B D tys nw (ww 46 ad (cellC cI cR ad M E P C N)))) (ct_Q D (ww 46 ad (cellC cI cR ad M E P C N)) (ww_A 46 ad) (some (.int res))) 0 0 (ww_A 46 ad) := by
  refine Met.ofW (cc := cX1_valueOf) (maxL := 5) (ret := (some .int)) (by decide) rfl ?_
  intro p e s m args below meth c s₁ B hml hv
  obtain ⟨rfl, hP, hK, hN⟩ := hv
  have hx := B.exec
  have hb := B.bytes
  have hr := B.returns
  have hts := atoms_spec (ws := wsX1_valueOf) B.pre
  have hown : s.vm.findClass RX1 = some m.cls := findClass_of_methodNamed B.named
  have hlocks := B.notSynchronized
  have hS : va_S (ww_A 46 ad) s.heap s.heap [] := va_S.rf
  have hl := lv_entry ([.ref (ad 41), .ref (ra ad p0), .int p1]) (n := 5) (Nat.le_of_ble_eq_true rfl)
  rw [lg_entry_eq]
  generalize (lg_sl ([.ref (ad 41), .ref (ra ad p0), .int p1]) ++ List.replicate (5 - (lg_sl ([.ref (ad 41), .ref (ra ad p0), .int p1])).length) Slot.unset).toArray = ls at hl ⊢
  have hl : lv_has ls 5 [(0, .ref (ad 41)), (1, .ref (ra ad p0)), (2, .int p1)] := hl
  have L8 : ∀ (x1 : Fin 20) (x2 : Int32) (k8 : Int32 → Int32 → Option (Int32)), (∀ (x3 : Int32) (x4 : Int32) (H : Heap) (locs : List Loc) (ls : Array Slot), va_P D vwCl (ww 46 ad (cellC cI cR ad M E P C N)) H → va_S (ww_A 46 ad) s.heap H locs → lv_has ls 5 [(0, .ref (ad 41)), (1, .ref (ra ad x1)), (2, .int x2), (3, .int x3), (4, .int x4)] →  k8 x3 x4 = some res → W p l e (headSpec wsX1_valueOf { frames := 1, cells := 0, slots := 0, locals := 34 }).room s m [.ref (ad 41), .ref (ra ad p0), .int p1].toArray below meth c H locs 0 0 (MQ below (ct_Q D (ww 46 ad (cellC cI cR ad M E P C N)) (ww_A 46 ad) (some (.int res))) [.ref (ad 41), .ref (ra ad p0), .int p1].toArray s 0 0 (ww_A 46 ad)) (F0 m 42 ls [])) → ∀ (n : Nat) (x3 : Int32) (x4 : Int32) (H : Heap) (locs : List Loc) (ls : Array Slot), va_P D vwCl (ww 46 ad (cellC cI cR ad M E P C N)) H → va_S (ww_A 46 ad) s.heap H locs → lv_has ls 5 [(0, .ref (ad 41)), (1, .ref (ra ad x1)), (2, .int x2), (3, .int x3), (4, .int x4)] →  f_X1_valueOf_l8 k8 fu M E x1 x2 n x3 x4 = some res → W p l e (headSpec wsX1_valueOf { frames := 1, cells := 0, slots := 0, locals := 34 }).room s m [.ref (ad 41), .ref (ra ad p0), .int p1].toArray below meth c H locs 0 0 (MQ below (ct_Q D (ww 46 ad (cellC cI cR ad M E P C N)) (ww_A 46 ad) (some (.int res))) [.ref (ad 41), .ref (ra ad p0), .int p1].toArray s 0 0 (ww_A 46 ad)) (F0 m 8 ls []) := by
    intro x1 x2 k8 hk_8 n
    induction n with
    | zero => intro x3 x4 H locs ls hP hS hl hf; rw [f_X1_valueOf_l8] at hf; cases hf
    | succ n ih =>
      intro x3 x4 H locs ls hP hS hl hf
      rw [f_X1_valueOf_l8] at hf
      refine lv_iload hx hb dX1_valueOf_8 (lv_at hl 4 rfl) ?_
      refine lv_if_lt (tgt := 42) hx hb dX1_valueOf_10 (by decide) (fun c3 => ?_) (fun c3 => ?_)
      · rw [if_pos c3] at hf
        exact hk_8 x3 x4 _ _ _ hP hS (lv_sub hl [0, 1, 2, 3, 4] rfl) hf
      · rw [if_neg c3] at hf
        refine lv_aload_n hx hb dX1_valueOf_13 rfl (lv_at hl 0 rfl) ?_
        refine va_get (ci := 1) (v := .ref (ad 40)) (C := RX1) (T := TX1) (N := 11) hx hb hts (by decide +kernel) hown hK hP 41 cc_ring rfl 0 (by decide) (hts (.fieldLink RX1 12 "NumberFieldFactors$Ring" "extension" "LNumberFieldFactors$Extension;") (by decide +kernel)) (fun _ h9 => h9) rfl dX1_valueOf_14 ?_
        refine lv_aload_n hx hb dX1_valueOf_17 rfl (lv_at hl 0 rfl) ?_
        refine va_get (ci := 1) (v := .ref (ad 40)) (C := RX1) (T := TX1) (N := 11) hx hb hts (by decide +kernel) hown hK hP 41 cc_ring rfl 0 (by decide) (hts (.fieldLink RX1 12 "NumberFieldFactors$Ring" "extension" "LNumberFieldFactors$Extension;") (by decide +kernel)) (fun _ h9 => h9) rfl dX1_valueOf_18 ?_
        refine lv_iload_n hx hb dX1_valueOf_21 rfl (lv_at hl 3 rfl) ?_
        refine lv_iload_n hx hb dX1_valueOf_22 rfl (lv_at hl 2 rfl) ?_
        obtain ⟨u4, g5, hf⟩ := Option.bind_eq_some_iff.mp hf
        try dsimp only at hf
        refine ct_call (va_runV (As := [.int x3, .int x2]) (rest := [.ref (ad 40)]) ⟨hx, hb, hml, hown, hts⟩ (C_X0_times l D tys nw hn hnw hj htI htR (res := u4) g5) (cwV 2 hts gX1_valueOf_X0_times rfl rfl rfl (by decide +kernel) ⟨Nat.le_of_ble_eq_true rfl, Nat.le_of_ble_eq_true rfl⟩) (ct_preV hn hP hK hN (ci := 0) (k := 40) rfl (by decide) rfl) rfl rfl hl.1 rfl (lv_room (Nat.le_of_ble_eq_true rfl)) dX1_valueOf_23 ⟨Nat.zero_le _, Nat.zero_le _⟩) hS (fun H locs hP hS => ?_)
        refine lv_aload_n hx hb dX1_valueOf_26 rfl (lv_at hl 1 rfl) ?_
        refine lv_iload hx hb dX1_valueOf_27 (lv_at hl 4 rfl) ?_
        obtain ⟨u6, g7, hf⟩ := Option.bind_eq_some_iff.mp hf
        try dsimp only at hf
        refine ct_call (va_runV (As := [.int x4]) (rest := [.int u4, .ref (ad 40)]) ⟨hx, hb, hml, hown, hts⟩ (C_X2_get l D tys nw hn hnw hj htI htR (res := u6) g7) (cwV 1 hts gX1_valueOf_X2_get rfl rfl rfl (by decide +kernel) ⟨Nat.le_of_ble_eq_true rfl, Nat.le_of_ble_eq_true rfl⟩) (ct_preV hn hP hK hN (ci := 2) (k := (20 + (x1).val)) rfl (ra_lt x1) (cl_row x1)) rfl rfl hl.1 rfl (lv_room (Nat.le_of_ble_eq_true rfl)) dX1_valueOf_29 ⟨Nat.zero_le _, Nat.zero_le _⟩) hS (fun H locs hP hS => ?_)
        obtain ⟨u8, g9, hf⟩ := Option.bind_eq_some_iff.mp hf
        try dsimp only at hf
        refine ct_call (va_runV (As := [.int u4, .int u6]) (rest := []) ⟨hx, hb, hml, hown, hts⟩ (C_X0_plus l D tys nw hn hnw hj htI htR (res := u8) g9) (cwV 2 hts gX1_valueOf_X0_plus rfl rfl rfl (by decide +kernel) ⟨Nat.le_of_ble_eq_true rfl, Nat.le_of_ble_eq_true rfl⟩) (ct_preV hn hP hK hN (ci := 0) (k := 40) rfl (by decide) rfl) rfl rfl hl.1 rfl (lv_room (Nat.le_of_ble_eq_true rfl)) dX1_valueOf_32 ⟨Nat.zero_le _, Nat.zero_le _⟩) hS (fun H locs hP hS => ?_)
        refine lv_istore_n (lv' := [(3, .int u8), (0, .ref (ad 41)), (1, .ref (ra ad x1)), (2, .int x2), (4, .int x4)]) hx hb dX1_valueOf_35 rfl hl (by decide) rfl (fun ls hl => ?_)
        refine lv_iinc (v := x4 + (-1)) (lv' := [(4, .int (x4 + (-1))), (3, .int u8), (0, .ref (ad 41)), (1, .ref (ra ad x1)), (2, .int x2)]) hx hb dX1_valueOf_36 hl (k := 4) rfl rfl (by decide) rfl (fun ls hl => ?_)
        refine lv_goto (tgt := 8) hx hb dX1_valueOf_39 (by decide) ?_
        exact ih u8 (x4 + (-1)) _ _ _ hP hS (lv_sub hl [2, 3, 4, 1, 0] rfl) hf
  unfold f_X1_valueOf at hf
  refine lv_iconst (v := 0) hx hb dX1_valueOf_0 (by decide) ?_
  refine lv_istore_n (lv' := [(3, .int 0), (0, .ref (ad 41)), (1, .ref (ra ad p0)), (2, .int p1)]) hx hb dX1_valueOf_1 rfl hl (by decide) rfl (fun ls hl => ?_)
  refine lv_aload_n hx hb dX1_valueOf_2 rfl (lv_at hl 2 rfl) ?_
  obtain ⟨u1, g2, hf⟩ := Option.bind_eq_some_iff.mp hf
  try dsimp only at hf
  refine ct_call (va_runV (As := []) (rest := []) ⟨hx, hb, hml, hown, hts⟩ (C_X2_degree l D tys nw hn hnw hj htI htR (res := u1) g2) (cwV 0 hts gX1_valueOf_X2_degree rfl rfl rfl (by decide +kernel) ⟨Nat.le_of_ble_eq_true rfl, Nat.le_of_ble_eq_true rfl⟩) (ct_preV hn hP hK hN (ci := 2) (k := (20 + (p0).val)) rfl (ra_lt p0) (cl_row p0)) rfl rfl hl.1 rfl (lv_room (Nat.le_of_ble_eq_true rfl)) dX1_valueOf_3 ⟨Nat.zero_le _, Nat.zero_le _⟩) hS (fun H locs hP hS => ?_)
  refine lv_istore (lv' := [(4, .int u1), (3, .int 0), (0, .ref (ad 41)), (1, .ref (ra ad p0)), (2, .int p1)]) hx hb dX1_valueOf_6 hl (by decide) rfl (fun ls hl => ?_)
  refine L8 p0 p1 _ (fun y10 y11 H locs ls hP hS hl hf => ?_) fu 0 u1 _ _ _ hP hS (lv_sub hl [2, 3, 4, 1, 0] rfl) hf
  try dsimp only at hf
  refine lv_iload_n hx hb dX1_valueOf_42 rfl (lv_at hl 3 rfl) ?_
  obtain rfl := Option.some.inj hf
  exact W.iret (v := y10) hx hb hr (fun t ht hW => ⟨rfl, by rw [ht]; exact hP, hS.F ht⟩) hS.2.2 dX1_valueOf_43
def f_X1_displace_l19 (k19 : Int32 → (Fin 20 → Nat → Int32) → Option ((Fin 20 → Nat → Int32))) (fu : Nat) (E : Nat → Int32) (x1 : Fin 20) (x2 : Int32) (x3 : Int32) (x4 : Int32) : Nat → Int32 → (Fin 20 → Nat → Int32) → Option ((Fin 20 → Nat → Int32))
  | 0, _, _ => none
  | n + 1, x5, M =>
    if x5 < x4 then
      k19 x5 M
    else
      (f_X2_get M x1 x5).bind (fun u6 =>
      (f_X2_get M x1 (x5 + 1)).bind (fun u8 =>
      (f_X0_times E x2 u8).bind (fun u10 =>
      (f_X0_plus u6 u10).bind (fun u12 =>
      (f_X2_set M x1 x5 u12).bind (fun u14 =>
      f_X1_displace_l19 k19 fu E x1 x2 x3 x4 n (x5 + (-1)) u14)))))
def f_X1_displace_l8 (k8 : Int32 → (Fin 20 → Nat → Int32) → Option ((Fin 20 → Nat → Int32))) (fu : Nat) (E : Nat → Int32) (x1 : Fin 20) (x2 : Int32) (x3 : Int32) : Nat → Int32 → (Fin 20 → Nat → Int32) → Option ((Fin 20 → Nat → Int32))
  | 0, _, _ => none
  | n + 1, x4, M =>
    if x3 ≤ x4 then
      k8 x4 M
    else
      nm (x3 - 1) (fun v4 =>
      f_X1_displace_l19 (fun y16 M17 =>
        f_X1_displace_l8 k8 fu E x1 x2 x3 n (x4 + 1) M17) fu E x1 x2 x3 x4 fu v4 M)
def f_X1_displace (fu : Nat) (M : Fin 20 → Nat → Int32) (E : Nat → Int32) (p0 : Fin 20) (p1 : Int32) : Option ((Fin 20 → Nat → Int32)) :=
  (f_X2_degree fu M p0).bind (fun u1 =>
  f_X1_displace_l8 (fun y18 M19 =>
    some M19) fu E p0 p1 u1 fu 0 M)
set_option maxHeartbeats 4000000 in
set_option maxRecDepth 100000 in
theorem C_X1_displace (l : Launch) (D : va_G) (tys : List (ClassId × FieldType)) (nw : List Cond) (hn : nw.all nw_kind = true) (hnw : ∀ w ∈ nw0, w ∈ nw) {ad : Nat → Nat} (hj : ww_inj 46 ad) {cI : ClassId} {cR : ClassId} (htI : tys[0]? = some (cI, .int)) (htR : tys[1]? = some (cR, .object RX2)) {fu : Nat} {M : Fin 20 → Nat → Int32} {E : Nat → Int32} {P : Nat → Fin 20} {C : Nat → Int32} {N : Nat → Int32} {p0 : Fin 20} {p1 : Int32} {res : (Fin 20 → Nat → Int32)} (hf : f_X1_displace fu M E p0 p1 = some res) :
    Met l yX1_displace wsX1_displace ({ frames := 1, cells := 0, slots := 0, locals := 34 }) (va_Pc [.ref (ad 41), .ref (ra ad p0), .int p1] (ws_B D tys nw (ww 46 ad (cellC cI cR ad M E P C N)))) (ct_Q D (ww 46 ad (cellC cI cR ad res E P C N)) (ww_A 46 ad) (none)) 0 0 (ww_A 46 ad) := by
  refine Met.ofW (cc := cX1_displace) (maxL := 6) (ret := none) (by decide) rfl ?_
  intro p e s m args below meth c s₁ B hml hv
  obtain ⟨rfl, hP, hK, hN⟩ := hv
  have hx := B.exec
  have hb := B.bytes
  have hr := B.returns
  have hts := atoms_spec (ws := wsX1_displace) B.pre
  have hown : s.vm.findClass RX1 = some m.cls := findClass_of_methodNamed B.named
  have hlocks := B.notSynchronized
  have hS : va_S (ww_A 46 ad) s.heap s.heap [] := va_S.rf
  have hl := lv_entry ([.ref (ad 41), .ref (ra ad p0), .int p1]) (n := 6) (Nat.le_of_ble_eq_true rfl)
  rw [lg_entry_eq]
  generalize (lg_sl ([.ref (ad 41), .ref (ra ad p0), .int p1]) ++ List.replicate (6 - (lg_sl ([.ref (ad 41), .ref (ra ad p0), .int p1])).length) Slot.unset).toArray = ls at hl ⊢
  have hl : lv_has ls 6 [(0, .ref (ad 41)), (1, .ref (ra ad p0)), (2, .int p1)] := hl
  have L19 : ∀ (x1 : Fin 20) (x2 : Int32) (x3 : Int32) (x4 : Int32) (k19 : Int32 → (Fin 20 → Nat → Int32) → Option ((Fin 20 → Nat → Int32))), (∀ (x5 : Int32) (M : Fin 20 → Nat → Int32) (H : Heap) (locs : List Loc) (ls : Array Slot), va_P D vwCl (ww 46 ad (cellC cI cR ad M E P C N)) H → va_S (ww_A 46 ad) s.heap H locs → lv_has ls 6 [(0, .ref (ad 41)), (1, .ref (ra ad x1)), (2, .int x2), (3, .int x3), (4, .int x4), (5, .int x5)] →  k19 x5 M = some res → W p l e (headSpec wsX1_displace { frames := 1, cells := 0, slots := 0, locals := 34 }).room s m [.ref (ad 41), .ref (ra ad p0), .int p1].toArray below meth c H locs 0 0 (MQ below (ct_Q D (ww 46 ad (cellC cI cR ad res E P C N)) (ww_A 46 ad) (none)) [.ref (ad 41), .ref (ra ad p0), .int p1].toArray s 0 0 (ww_A 46 ad)) (F0 m 67 ls [])) → ∀ (n : Nat) (x5 : Int32) (M : Fin 20 → Nat → Int32) (H : Heap) (locs : List Loc) (ls : Array Slot), va_P D vwCl (ww 46 ad (cellC cI cR ad M E P C N)) H → va_S (ww_A 46 ad) s.heap H locs → lv_has ls 6 [(0, .ref (ad 41)), (1, .ref (ra ad x1)), (2, .int x2), (3, .int x3), (4, .int x4), (5, .int x5)] →  f_X1_displace_l19 k19 fu E x1 x2 x3 x4 n x5 M = some res → W p l e (headSpec wsX1_displace { frames := 1, cells := 0, slots := 0, locals := 34 }).room s m [.ref (ad 41), .ref (ra ad p0), .int p1].toArray below meth c H locs 0 0 (MQ below (ct_Q D (ww 46 ad (cellC cI cR ad res E P C N)) (ww_A 46 ad) (none)) [.ref (ad 41), .ref (ra ad p0), .int p1].toArray s 0 0 (ww_A 46 ad)) (F0 m 19 ls []) := by
    intro x1 x2 x3 x4 k19 hk_19 n
    induction n with
    | zero => intro x5 M H locs ls hP hS hl hf; rw [f_X1_displace_l19] at hf; cases hf
    | succ n ih =>
      intro x5 M H locs ls hP hS hl hf
      rw [f_X1_displace_l19] at hf
      refine lv_iload hx hb dX1_displace_19 (lv_at hl 5 rfl) ?_
      refine lv_iload hx hb dX1_displace_21 (lv_at hl 4 rfl) ?_
      refine lv_icmp_lt (tgt := 67) hx hb dX1_displace_23 (by decide) (fun c5 => ?_) (fun c5 => ?_)
      · rw [if_pos c5] at hf
        exact hk_19 x5 M _ _ _ hP hS (lv_sub hl [0, 1, 2, 3, 4, 5] rfl) hf
      · rw [if_neg c5] at hf
        refine lv_aload_n hx hb dX1_displace_26 rfl (lv_at hl 1 rfl) ?_
        refine lv_iload hx hb dX1_displace_27 (lv_at hl 5 rfl) ?_
        refine lv_aload_n hx hb dX1_displace_29 rfl (lv_at hl 0 rfl) ?_
        refine va_get (ci := 1) (v := .ref (ad 40)) (C := RX1) (T := TX1) (N := 11) hx hb hts (by decide +kernel) hown hK hP 41 cc_ring rfl 0 (by decide) (hts (.fieldLink RX1 12 "NumberFieldFactors$Ring" "extension" "LNumberFieldFactors$Extension;") (by decide +kernel)) (fun _ h9 => h9) rfl dX1_displace_30 ?_
        refine lv_aload_n hx hb dX1_displace_33 rfl (lv_at hl 1 rfl) ?_
        refine lv_iload hx hb dX1_displace_34 (lv_at hl 5 rfl) ?_
        obtain ⟨u6, g7, hf⟩ := Option.bind_eq_some_iff.mp hf
        try dsimp only at hf
        refine ct_call (va_runV (As := [.int x5]) (rest := [.ref (ad 40), .int x5, .ref (ra ad x1)]) ⟨hx, hb, hml, hown, hts⟩ (C_X2_get l D tys nw hn hnw hj htI htR (res := u6) g7) (cwV 1 hts gX1_displace_X2_get rfl rfl rfl (by decide +kernel) ⟨Nat.le_of_ble_eq_true rfl, Nat.le_of_ble_eq_true rfl⟩) (ct_preV hn hP hK hN (ci := 2) (k := (20 + (x1).val)) rfl (ra_lt x1) (cl_row x1)) rfl rfl hl.1 rfl (lv_room (Nat.le_of_ble_eq_true rfl)) dX1_displace_36 ⟨Nat.zero_le _, Nat.zero_le _⟩) hS (fun H locs hP hS => ?_)
        refine lv_aload_n hx hb dX1_displace_39 rfl (lv_at hl 0 rfl) ?_
        refine va_get (ci := 1) (v := .ref (ad 40)) (C := RX1) (T := TX1) (N := 11) hx hb hts (by decide +kernel) hown hK hP 41 cc_ring rfl 0 (by decide) (hts (.fieldLink RX1 12 "NumberFieldFactors$Ring" "extension" "LNumberFieldFactors$Extension;") (by decide +kernel)) (fun _ h9 => h9) rfl dX1_displace_40 ?_
        refine lv_iload_n hx hb dX1_displace_43 rfl (lv_at hl 2 rfl) ?_
        refine lv_aload_n hx hb dX1_displace_44 rfl (lv_at hl 1 rfl) ?_
        refine lv_iload hx hb dX1_displace_45 (lv_at hl 5 rfl) ?_
        refine lv_iconst (v := 1) hx hb dX1_displace_47 (by decide) ?_
        refine lv_iadd hx hb dX1_displace_48 ?_
        obtain ⟨u8, g9, hf⟩ := Option.bind_eq_some_iff.mp hf
        try dsimp only at hf
        refine ct_call (va_runV (As := [.int (x5 + 1)]) (rest := [.int x2, .ref (ad 40), .int u6, .ref (ad 40), .int x5, .ref (ra ad x1)]) ⟨hx, hb, hml, hown, hts⟩ (C_X2_get l D tys nw hn hnw hj htI htR (res := u8) g9) (cwV 1 hts gX1_displace_X2_get rfl rfl rfl (by decide +kernel) ⟨Nat.le_of_ble_eq_true rfl, Nat.le_of_ble_eq_true rfl⟩) (ct_preV hn hP hK hN (ci := 2) (k := (20 + (x1).val)) rfl (ra_lt x1) (cl_row x1)) rfl rfl hl.1 rfl (lv_room (Nat.le_of_ble_eq_true rfl)) dX1_displace_49 ⟨Nat.zero_le _, Nat.zero_le _⟩) hS (fun H locs hP hS => ?_)
        obtain ⟨u10, g11, hf⟩ := Option.bind_eq_some_iff.mp hf
        try dsimp only at hf
        refine ct_call (va_runV (As := [.int x2, .int u8]) (rest := [.int u6, .ref (ad 40), .int x5, .ref (ra ad x1)]) ⟨hx, hb, hml, hown, hts⟩ (C_X0_times l D tys nw hn hnw hj htI htR (res := u10) g11) (cwV 2 hts gX1_displace_X0_times rfl rfl rfl (by decide +kernel) ⟨Nat.le_of_ble_eq_true rfl, Nat.le_of_ble_eq_true rfl⟩) (ct_preV hn hP hK hN (ci := 0) (k := 40) rfl (by decide) rfl) rfl rfl hl.1 rfl (lv_room (Nat.le_of_ble_eq_true rfl)) dX1_displace_52 ⟨Nat.zero_le _, Nat.zero_le _⟩) hS (fun H locs hP hS => ?_)
        obtain ⟨u12, g13, hf⟩ := Option.bind_eq_some_iff.mp hf
        try dsimp only at hf
        refine ct_call (va_runV (As := [.int u6, .int u10]) (rest := [.int x5, .ref (ra ad x1)]) ⟨hx, hb, hml, hown, hts⟩ (C_X0_plus l D tys nw hn hnw hj htI htR (res := u12) g13) (cwV 2 hts gX1_displace_X0_plus rfl rfl rfl (by decide +kernel) ⟨Nat.le_of_ble_eq_true rfl, Nat.le_of_ble_eq_true rfl⟩) (ct_preV hn hP hK hN (ci := 0) (k := 40) rfl (by decide) rfl) rfl rfl hl.1 rfl (lv_room (Nat.le_of_ble_eq_true rfl)) dX1_displace_55 ⟨Nat.zero_le _, Nat.zero_le _⟩) hS (fun H locs hP hS => ?_)
        obtain ⟨u14, g15, hf⟩ := Option.bind_eq_some_iff.mp hf
        try dsimp only at hf
        refine ct_call (va_runV (As := [.int x5, .int u12]) (rest := []) ⟨hx, hb, hml, hown, hts⟩ (C_X2_set l D tys nw hn hnw hj htI htR (res := u14) g15) (cwV 2 hts gX1_displace_X2_set rfl rfl rfl (by decide +kernel) ⟨Nat.le_of_ble_eq_true rfl, Nat.le_of_ble_eq_true rfl⟩) (ct_preV hn hP hK hN (ci := 2) (k := (20 + (x1).val)) rfl (ra_lt x1) (cl_row x1)) rfl rfl hl.1 rfl (lv_room (Nat.le_of_ble_eq_true rfl)) dX1_displace_58 ⟨Nat.zero_le _, Nat.zero_le _⟩) hS (fun H locs hP hS => ?_)
        refine lv_iinc (v := x5 + (-1)) (lv' := [(5, .int (x5 + (-1))), (0, .ref (ad 41)), (1, .ref (ra ad x1)), (2, .int x2), (3, .int x3), (4, .int x4)]) hx hb dX1_displace_61 hl (k := 5) rfl rfl (by decide) rfl (fun ls hl => ?_)
        refine lv_goto (tgt := 19) hx hb dX1_displace_64 (by decide) ?_
        exact ih (x5 + (-1)) u14 _ _ _ hP hS (lv_sub hl [1, 2, 3, 4, 5, 0] rfl) hf
  have L8 : ∀ (x1 : Fin 20) (x2 : Int32) (x3 : Int32) (k8 : Int32 → (Fin 20 → Nat → Int32) → Option ((Fin 20 → Nat → Int32))), (∀ (x4 : Int32) (M : Fin 20 → Nat → Int32) (H : Heap) (locs : List Loc) (ls : Array Slot), va_P D vwCl (ww 46 ad (cellC cI cR ad M E P C N)) H → va_S (ww_A 46 ad) s.heap H locs → lv_has ls 6 [(0, .ref (ad 41)), (1, .ref (ra ad x1)), (2, .int x2), (3, .int x3), (4, .int x4)] →  k8 x4 M = some res → W p l e (headSpec wsX1_displace { frames := 1, cells := 0, slots := 0, locals := 34 }).room s m [.ref (ad 41), .ref (ra ad p0), .int p1].toArray below meth c H locs 0 0 (MQ below (ct_Q D (ww 46 ad (cellC cI cR ad res E P C N)) (ww_A 46 ad) (none)) [.ref (ad 41), .ref (ra ad p0), .int p1].toArray s 0 0 (ww_A 46 ad)) (F0 m 73 ls [])) → ∀ (n : Nat) (x4 : Int32) (M : Fin 20 → Nat → Int32) (H : Heap) (locs : List Loc) (ls : Array Slot), va_P D vwCl (ww 46 ad (cellC cI cR ad M E P C N)) H → va_S (ww_A 46 ad) s.heap H locs → lv_has ls 6 [(0, .ref (ad 41)), (1, .ref (ra ad x1)), (2, .int x2), (3, .int x3), (4, .int x4)] →  f_X1_displace_l8 k8 fu E x1 x2 x3 n x4 M = some res → W p l e (headSpec wsX1_displace { frames := 1, cells := 0, slots := 0, locals := 34 }).room s m [.ref (ad 41), .ref (ra ad p0), .int p1].toArray below meth c H locs 0 0 (MQ below (ct_Q D (ww 46 ad (cellC cI cR ad res E P C N)) (ww_A 46 ad) (none)) [.ref (ad 41), .ref (ra ad p0), .int p1].toArray s 0 0 (ww_A 46 ad)) (F0 m 8 ls []) := by
    intro x1 x2 x3 k8 hk_8 n
    induction n with
    | zero => intro x4 M H locs ls hP hS hl hf; rw [f_X1_displace_l8] at hf; cases hf
    | succ n ih =>
      intro x4 M H locs ls hP hS hl hf
      rw [f_X1_displace_l8] at hf
      refine lv_iload hx hb dX1_displace_8 (lv_at hl 4 rfl) ?_
      refine lv_iload_n hx hb dX1_displace_10 rfl (lv_at hl 3 rfl) ?_
      refine lv_icmp_ge (tgt := 73) hx hb dX1_displace_11 (by decide) (fun c3 => ?_) (fun c3 => ?_)
      · rw [if_pos c3] at hf
        exact hk_8 x4 M _ _ _ hP hS (lv_sub hl [0, 1, 2, 3, 4] rfl) hf
      · rw [if_neg c3] at hf
        refine lv_iload_n hx hb dX1_displace_14 rfl (lv_at hl 3 rfl) ?_
        refine lv_iconst (v := 1) hx hb dX1_displace_15 (by decide) ?_
        refine lv_isub hx hb dX1_displace_16 ?_
        obtain ⟨v4, ev4, hf⟩ := nm_elim hf
        try dsimp only at hf
        refine tp_I ev4 ?_
        refine lv_istore (lv' := [(5, .int v4), (0, .ref (ad 41)), (1, .ref (ra ad x1)), (2, .int x2), (3, .int x3), (4, .int x4)]) hx hb dX1_displace_17 hl (by decide) rfl (fun ls hl => ?_)
        refine L19 x1 x2 x3 x4 _ (fun y16 M17 H locs ls hP hS hl hf => ?_) fu v4 M _ _ _ hP hS (lv_sub hl [1, 2, 3, 4, 5, 0] rfl) hf
        try dsimp only at hf
        refine lv_iinc (v := x4 + 1) (lv' := [(4, .int (x4 + 1)), (0, .ref (ad 41)), (1, .ref (ra ad x1)), (2, .int x2), (3, .int x3), (5, .int y16)]) hx hb dX1_displace_67 hl (k := 4) rfl rfl (by decide) rfl (fun ls hl => ?_)
        refine lv_goto (tgt := 8) hx hb dX1_displace_70 (by decide) ?_
        exact ih (x4 + 1) M17 _ _ _ hP hS (lv_sub hl [1, 2, 3, 4, 0] rfl) hf
  unfold f_X1_displace at hf
  refine lv_aload_n hx hb dX1_displace_0 rfl (lv_at hl 1 rfl) ?_
  obtain ⟨u1, g2, hf⟩ := Option.bind_eq_some_iff.mp hf
  try dsimp only at hf
  refine ct_call (va_runV (As := []) (rest := []) ⟨hx, hb, hml, hown, hts⟩ (C_X2_degree l D tys nw hn hnw hj htI htR (res := u1) g2) (cwV 0 hts gX1_displace_X2_degree rfl rfl rfl (by decide +kernel) ⟨Nat.le_of_ble_eq_true rfl, Nat.le_of_ble_eq_true rfl⟩) (ct_preV hn hP hK hN (ci := 2) (k := (20 + (p0).val)) rfl (ra_lt p0) (cl_row p0)) rfl rfl hl.1 rfl (lv_room (Nat.le_of_ble_eq_true rfl)) dX1_displace_1 ⟨Nat.zero_le _, Nat.zero_le _⟩) hS (fun H locs hP hS => ?_)
  refine lv_istore_n (lv' := [(3, .int u1), (0, .ref (ad 41)), (1, .ref (ra ad p0)), (2, .int p1)]) hx hb dX1_displace_4 rfl hl (by decide) rfl (fun ls hl => ?_)
  refine lv_iconst (v := 0) hx hb dX1_displace_5 (by decide) ?_
  refine lv_istore (lv' := [(4, .int 0), (3, .int u1), (0, .ref (ad 41)), (1, .ref (ra ad p0)), (2, .int p1)]) hx hb dX1_displace_6 hl (by decide) rfl (fun ls hl => ?_)
  refine L8 p0 p1 u1 _ (fun y18 M19 H locs ls hP hS hl hf => ?_) fu 0 M _ _ _ hP hS (lv_sub hl [2, 3, 4, 1, 0] rfl) hf
  try dsimp only at hf
  obtain rfl := Option.some.inj hf
  exact W.vret hx hb hr (fun t ht hW => ⟨rfl, by rw [ht]; exact hP, hS.F ht⟩) hS.2.2 dX1_displace_73
def f_X1_multiply_l38 (k38 : Int32 → (Fin 20 → Nat → Int32) → Option ((Fin 20 → Nat → Int32))) (fu : Nat) (E : Nat → Int32) (x1 : Fin 20) (x2 : Fin 20) (x3 : Int32) (x4 : Int32) (x5 : Int32) (x6 : Int32) : Nat → Int32 → (Fin 20 → Nat → Int32) → Option ((Fin 20 → Nat → Int32))
  | 0, _, _ => none
  | n + 1, x7, M =>
    if x6 = 0 then
      k38 x7 M
    else
      if x4 < x7 then
        k38 x7 M
      else
        (f_X2_get M (1 : Fin 20) (x5 + x7)).bind (fun u12 =>
        (f_X2_get M x2 x7).bind (fun u14 =>
        (f_X0_times E x6 u14).bind (fun u16 =>
        (f_X0_plus u12 u16).bind (fun u18 =>
        (f_X2_set M (1 : Fin 20) (x5 + x7) u18).bind (fun u20 =>
        f_X1_multiply_l38 k38 fu E x1 x2 x3 x4 x5 x6 n (x7 + 1) u20)))))
def f_X1_multiply_l21 (k21 : Int32 → (Fin 20 → Nat → Int32) → Option ((Fin 20 → Nat → Int32))) (fu : Nat) (E : Nat → Int32) (x1 : Fin 20) (x2 : Fin 20) (x3 : Int32) (x4 : Int32) : Nat → Int32 → (Fin 20 → Nat → Int32) → Option ((Fin 20 → Nat → Int32))
  | 0, _, _ => none
  | n + 1, x5, M =>
    if x3 < x5 then
      k21 x5 M
    else
      (f_X2_get M x1 x5).bind (fun u8 =>
      f_X1_multiply_l38 (fun y22 M23 =>
        f_X1_multiply_l21 k21 fu E x1 x2 x3 x4 n (x5 + 1) M23) fu E x1 x2 x3 x4 x5 u8 fu 0 M)
def f_X1_multiply (fu : Nat) (M : Fin 20 → Nat → Int32) (E : Nat → Int32) (p0 : Fin 20) (p1 : Fin 20) : Option ((Fin 20 → Nat → Int32)) :=
  (f_X2_degree fu M p0).bind (fun u1 =>
  (f_X2_degree fu M p1).bind (fun u3 =>
  (f_X2_clear fu M (1 : Fin 20)).bind (fun u5 =>
  f_X1_multiply_l21 (fun y24 M25 =>
    (f_X2_copy fu M25 p0 (1 : Fin 20)).bind (fun u26 =>
    some u26)) fu E p0 p1 u1 u3 fu 0 u5)))
set_option maxHeartbeats 4000000 in
set_option maxRecDepth 100000 in
theorem C_X1_multiply (l : Launch) (D : va_G) (tys : List (ClassId × FieldType)) (nw : List Cond) (hn : nw.all nw_kind = true) (hnw : ∀ w ∈ nw0, w ∈ nw) {ad : Nat → Nat} (hj : ww_inj 46 ad) {cI : ClassId} {cR : ClassId} (htI : tys[0]? = some (cI, .int)) (htR : tys[1]? = some (cR, .object RX2)) {fu : Nat} {M : Fin 20 → Nat → Int32} {E : Nat → Int32} {P : Nat → Fin 20} {C : Nat → Int32} {N : Nat → Int32} {p0 : Fin 20} {p1 : Fin 20} {res : (Fin 20 → Nat → Int32)} (hf : f_X1_multiply fu M E p0 p1 = some res) :
    Met l yX1_multiply wsX1_multiply ({ frames := 2, cells := 0, slots := 0, locals := 43 }) (va_Pc [.ref (ad 41), .ref (ra ad p0), .ref (ra ad p1)] (ws_B D tys nw (ww 46 ad (cellC cI cR ad M E P C N)))) (ct_Q D (ww 46 ad (cellC cI cR ad res E P C N)) (ww_A 46 ad) (none)) 0 0 (ww_A 46 ad) := by
  refine Met.ofW (cc := cX1_multiply) (maxL := 8) (ret := none) (by decide) rfl ?_
  intro p e s m args below meth c s₁ B hml hv
  obtain ⟨rfl, hP, hK, hN⟩ := hv
  have hx := B.exec
  have hb := B.bytes
  have hr := B.returns
  have hts := atoms_spec (ws := wsX1_multiply) B.pre
  have hown : s.vm.findClass RX1 = some m.cls := findClass_of_methodNamed B.named
  have hlocks := B.notSynchronized
  have hS : va_S (ww_A 46 ad) s.heap s.heap [] := va_S.rf
  have hl := lv_entry ([.ref (ad 41), .ref (ra ad p0), .ref (ra ad p1)]) (n := 8) (Nat.le_of_ble_eq_true rfl)
  rw [lg_entry_eq]
  generalize (lg_sl ([.ref (ad 41), .ref (ra ad p0), .ref (ra ad p1)]) ++ List.replicate (8 - (lg_sl ([.ref (ad 41), .ref (ra ad p0), .ref (ra ad p1)])).length) Slot.unset).toArray = ls at hl ⊢
  have hl : lv_has ls 8 [(0, .ref (ad 41)), (1, .ref (ra ad p0)), (2, .ref (ra ad p1))] := hl
  have L38 : ∀ (x1 : Fin 20) (x2 : Fin 20) (x3 : Int32) (x4 : Int32) (x5 : Int32) (x6 : Int32) (k38 : Int32 → (Fin 20 → Nat → Int32) → Option ((Fin 20 → Nat → Int32))), (∀ (x7 : Int32) (M : Fin 20 → Nat → Int32) (H : Heap) (locs : List Loc) (ls : Array Slot), va_P D vwCl (ww 46 ad (cellC cI cR ad M E P C N)) H → va_S (ww_A 46 ad) s.heap H locs → lv_has ls 8 [(0, .ref (ad 41)), (1, .ref (ra ad x1)), (2, .ref (ra ad x2)), (3, .int x3), (4, .int x4), (5, .int x5), (6, .int x6), (7, .int x7)] →  k38 x7 M = some res → W p l e (headSpec wsX1_multiply { frames := 2, cells := 0, slots := 0, locals := 43 }).room s m [.ref (ad 41), .ref (ra ad p0), .ref (ra ad p1)].toArray below meth c H locs 0 0 (MQ below (ct_Q D (ww 46 ad (cellC cI cR ad res E P C N)) (ww_A 46 ad) (none)) [.ref (ad 41), .ref (ra ad p0), .ref (ra ad p1)].toArray s 0 0 (ww_A 46 ad)) (F0 m 102 ls [])) → ∀ (n : Nat) (x7 : Int32) (M : Fin 20 → Nat → Int32) (H : Heap) (locs : List Loc) (ls : Array Slot), va_P D vwCl (ww 46 ad (cellC cI cR ad M E P C N)) H → va_S (ww_A 46 ad) s.heap H locs → lv_has ls 8 [(0, .ref (ad 41)), (1, .ref (ra ad x1)), (2, .ref (ra ad x2)), (3, .int x3), (4, .int x4), (5, .int x5), (6, .int x6), (7, .int x7)] →  f_X1_multiply_l38 k38 fu E x1 x2 x3 x4 x5 x6 n x7 M = some res → W p l e (headSpec wsX1_multiply { frames := 2, cells := 0, slots := 0, locals := 43 }).room s m [.ref (ad 41), .ref (ra ad p0), .ref (ra ad p1)].toArray below meth c H locs 0 0 (MQ below (ct_Q D (ww 46 ad (cellC cI cR ad res E P C N)) (ww_A 46 ad) (none)) [.ref (ad 41), .ref (ra ad p0), .ref (ra ad p1)].toArray s 0 0 (ww_A 46 ad)) (F0 m 38 ls []) := by
    intro x1 x2 x3 x4 x5 x6 k38 hk_38 n
    induction n with
    | zero => intro x7 M H locs ls hP hS hl hf; rw [f_X1_multiply_l38] at hf; cases hf
    | succ n ih =>
      intro x7 M H locs ls hP hS hl hf
      rw [f_X1_multiply_l38] at hf
      refine lv_iload hx hb dX1_multiply_38 (lv_at hl 6 rfl) ?_
      refine lv_if_eq (tgt := 102) hx hb dX1_multiply_40 (by decide) (fun c10 => ?_) (fun c10 => ?_)
      · rw [if_pos c10] at hf
        exact hk_38 x7 M _ _ _ hP hS (lv_sub hl [0, 1, 2, 3, 4, 5, 6, 7] rfl) hf
      · rw [if_neg c10] at hf
        refine lv_iload hx hb dX1_multiply_43 (lv_at hl 7 rfl) ?_
        refine lv_iload hx hb dX1_multiply_45 (lv_at hl 4 rfl) ?_
        refine lv_icmp_gt (tgt := 102) hx hb dX1_multiply_47 (by decide) (fun c11 => ?_) (fun c11 => ?_)
        · rw [if_pos c11] at hf
          exact hk_38 x7 M _ _ _ hP hS (lv_sub hl [0, 1, 2, 3, 4, 5, 6, 7] rfl) hf
        · rw [if_neg c11] at hf
          refine lv_aload_n hx hb dX1_multiply_50 rfl (lv_at hl 0 rfl) ?_
          refine va_get (ci := 1) (v := .ref (ra ad (1 : Fin 20))) (C := RX1) (T := TX1) (N := 11) hx hb hts (by decide +kernel) hown hK hP 41 cc_ring rfl 1 (by decide) (hts (.fieldLink RX1 21 "NumberFieldFactors$Ring" "wide" "LNumberFieldFactors$Row;") (by decide +kernel)) (fun _ h9 => h9) rfl dX1_multiply_51 ?_
          refine lv_iload hx hb dX1_multiply_54 (lv_at hl 5 rfl) ?_
          refine lv_iload hx hb dX1_multiply_56 (lv_at hl 7 rfl) ?_
          refine lv_iadd hx hb dX1_multiply_58 ?_
          refine lv_aload_n hx hb dX1_multiply_59 rfl (lv_at hl 0 rfl) ?_
          refine va_get (ci := 1) (v := .ref (ad 40)) (C := RX1) (T := TX1) (N := 11) hx hb hts (by decide +kernel) hown hK hP 41 cc_ring rfl 0 (by decide) (hts (.fieldLink RX1 12 "NumberFieldFactors$Ring" "extension" "LNumberFieldFactors$Extension;") (by decide +kernel)) (fun _ h9 => h9) rfl dX1_multiply_60 ?_
          refine lv_aload_n hx hb dX1_multiply_63 rfl (lv_at hl 0 rfl) ?_
          refine va_get (ci := 1) (v := .ref (ra ad (1 : Fin 20))) (C := RX1) (T := TX1) (N := 11) hx hb hts (by decide +kernel) hown hK hP 41 cc_ring rfl 1 (by decide) (hts (.fieldLink RX1 21 "NumberFieldFactors$Ring" "wide" "LNumberFieldFactors$Row;") (by decide +kernel)) (fun _ h9 => h9) rfl dX1_multiply_64 ?_
          refine lv_iload hx hb dX1_multiply_67 (lv_at hl 5 rfl) ?_
          refine lv_iload hx hb dX1_multiply_69 (lv_at hl 7 rfl) ?_
          refine lv_iadd hx hb dX1_multiply_71 ?_
          obtain ⟨u12, g13, hf⟩ := Option.bind_eq_some_iff.mp hf
          try dsimp only at hf
          refine ct_call (va_runV (As := [.int (x5 + x7)]) (rest := [.ref (ad 40), .int (x5 + x7), .ref (ra ad (1 : Fin 20))]) ⟨hx, hb, hml, hown, hts⟩ (C_X2_get l D tys nw hn hnw hj htI htR (res := u12) g13) (cwV 1 hts gX1_multiply_X2_get rfl rfl rfl (by decide +kernel) ⟨Nat.le_of_ble_eq_true rfl, Nat.le_of_ble_eq_true rfl⟩) (ct_preV hn hP hK hN (ci := 2) (k := (20 + ((1 : Fin 20)).val)) rfl (ra_lt (1 : Fin 20)) (cl_row (1 : Fin 20))) rfl rfl hl.1 rfl (lv_room (Nat.le_of_ble_eq_true rfl)) dX1_multiply_72 ⟨Nat.zero_le _, Nat.zero_le _⟩) hS (fun H locs hP hS => ?_)
          refine lv_aload_n hx hb dX1_multiply_75 rfl (lv_at hl 0 rfl) ?_
          refine va_get (ci := 1) (v := .ref (ad 40)) (C := RX1) (T := TX1) (N := 11) hx hb hts (by decide +kernel) hown hK hP 41 cc_ring rfl 0 (by decide) (hts (.fieldLink RX1 12 "NumberFieldFactors$Ring" "extension" "LNumberFieldFactors$Extension;") (by decide +kernel)) (fun _ h9 => h9) rfl dX1_multiply_76 ?_
          refine lv_iload hx hb dX1_multiply_79 (lv_at hl 6 rfl) ?_
          refine lv_aload_n hx hb dX1_multiply_81 rfl (lv_at hl 2 rfl) ?_
          refine lv_iload hx hb dX1_multiply_82 (lv_at hl 7 rfl) ?_
          obtain ⟨u14, g15, hf⟩ := Option.bind_eq_some_iff.mp hf
          try dsimp only at hf
          refine ct_call (va_runV (As := [.int x7]) (rest := [.int x6, .ref (ad 40), .int u12, .ref (ad 40), .int (x5 + x7), .ref (ra ad (1 : Fin 20))]) ⟨hx, hb, hml, hown, hts⟩ (C_X2_get l D tys nw hn hnw hj htI htR (res := u14) g15) (cwV 1 hts gX1_multiply_X2_get rfl rfl rfl (by decide +kernel) ⟨Nat.le_of_ble_eq_true rfl, Nat.le_of_ble_eq_true rfl⟩) (ct_preV hn hP hK hN (ci := 2) (k := (20 + (x2).val)) rfl (ra_lt x2) (cl_row x2)) rfl rfl hl.1 rfl (lv_room (Nat.le_of_ble_eq_true rfl)) dX1_multiply_84 ⟨Nat.zero_le _, Nat.zero_le _⟩) hS (fun H locs hP hS => ?_)
          obtain ⟨u16, g17, hf⟩ := Option.bind_eq_some_iff.mp hf
          try dsimp only at hf
          refine ct_call (va_runV (As := [.int x6, .int u14]) (rest := [.int u12, .ref (ad 40), .int (x5 + x7), .ref (ra ad (1 : Fin 20))]) ⟨hx, hb, hml, hown, hts⟩ (C_X0_times l D tys nw hn hnw hj htI htR (res := u16) g17) (cwV 2 hts gX1_multiply_X0_times rfl rfl rfl (by decide +kernel) ⟨Nat.le_of_ble_eq_true rfl, Nat.le_of_ble_eq_true rfl⟩) (ct_preV hn hP hK hN (ci := 0) (k := 40) rfl (by decide) rfl) rfl rfl hl.1 rfl (lv_room (Nat.le_of_ble_eq_true rfl)) dX1_multiply_87 ⟨Nat.zero_le _, Nat.zero_le _⟩) hS (fun H locs hP hS => ?_)
          obtain ⟨u18, g19, hf⟩ := Option.bind_eq_some_iff.mp hf
          try dsimp only at hf
          refine ct_call (va_runV (As := [.int u12, .int u16]) (rest := [.int (x5 + x7), .ref (ra ad (1 : Fin 20))]) ⟨hx, hb, hml, hown, hts⟩ (C_X0_plus l D tys nw hn hnw hj htI htR (res := u18) g19) (cwV 2 hts gX1_multiply_X0_plus rfl rfl rfl (by decide +kernel) ⟨Nat.le_of_ble_eq_true rfl, Nat.le_of_ble_eq_true rfl⟩) (ct_preV hn hP hK hN (ci := 0) (k := 40) rfl (by decide) rfl) rfl rfl hl.1 rfl (lv_room (Nat.le_of_ble_eq_true rfl)) dX1_multiply_90 ⟨Nat.zero_le _, Nat.zero_le _⟩) hS (fun H locs hP hS => ?_)
          obtain ⟨u20, g21, hf⟩ := Option.bind_eq_some_iff.mp hf
          try dsimp only at hf
          refine ct_call (va_runV (As := [.int (x5 + x7), .int u18]) (rest := []) ⟨hx, hb, hml, hown, hts⟩ (C_X2_set l D tys nw hn hnw hj htI htR (res := u20) g21) (cwV 2 hts gX1_multiply_X2_set rfl rfl rfl (by decide +kernel) ⟨Nat.le_of_ble_eq_true rfl, Nat.le_of_ble_eq_true rfl⟩) (ct_preV hn hP hK hN (ci := 2) (k := (20 + ((1 : Fin 20)).val)) rfl (ra_lt (1 : Fin 20)) (cl_row (1 : Fin 20))) rfl rfl hl.1 rfl (lv_room (Nat.le_of_ble_eq_true rfl)) dX1_multiply_93 ⟨Nat.zero_le _, Nat.zero_le _⟩) hS (fun H locs hP hS => ?_)
          refine lv_iinc (v := x7 + 1) (lv' := [(7, .int (x7 + 1)), (0, .ref (ad 41)), (1, .ref (ra ad x1)), (2, .ref (ra ad x2)), (3, .int x3), (4, .int x4), (5, .int x5), (6, .int x6)]) hx hb dX1_multiply_96 hl (k := 7) rfl rfl (by decide) rfl (fun ls hl => ?_)
          refine lv_goto (tgt := 38) hx hb dX1_multiply_99 (by decide) ?_
          exact ih (x7 + 1) u20 _ _ _ hP hS (lv_sub hl [1, 2, 3, 4, 5, 6, 7, 0] rfl) hf
  have L21 : ∀ (x1 : Fin 20) (x2 : Fin 20) (x3 : Int32) (x4 : Int32) (k21 : Int32 → (Fin 20 → Nat → Int32) → Option ((Fin 20 → Nat → Int32))), (∀ (x5 : Int32) (M : Fin 20 → Nat → Int32) (H : Heap) (locs : List Loc) (ls : Array Slot), va_P D vwCl (ww 46 ad (cellC cI cR ad M E P C N)) H → va_S (ww_A 46 ad) s.heap H locs → lv_has ls 8 [(0, .ref (ad 41)), (1, .ref (ra ad x1)), (2, .ref (ra ad x2)), (3, .int x3), (4, .int x4), (5, .int x5)] →  k21 x5 M = some res → W p l e (headSpec wsX1_multiply { frames := 2, cells := 0, slots := 0, locals := 43 }).room s m [.ref (ad 41), .ref (ra ad p0), .ref (ra ad p1)].toArray below meth c H locs 0 0 (MQ below (ct_Q D (ww 46 ad (cellC cI cR ad res E P C N)) (ww_A 46 ad) (none)) [.ref (ad 41), .ref (ra ad p0), .ref (ra ad p1)].toArray s 0 0 (ww_A 46 ad)) (F0 m 108 ls [])) → ∀ (n : Nat) (x5 : Int32) (M : Fin 20 → Nat → Int32) (H : Heap) (locs : List Loc) (ls : Array Slot), va_P D vwCl (ww 46 ad (cellC cI cR ad M E P C N)) H → va_S (ww_A 46 ad) s.heap H locs → lv_has ls 8 [(0, .ref (ad 41)), (1, .ref (ra ad x1)), (2, .ref (ra ad x2)), (3, .int x3), (4, .int x4), (5, .int x5)] →  f_X1_multiply_l21 k21 fu E x1 x2 x3 x4 n x5 M = some res → W p l e (headSpec wsX1_multiply { frames := 2, cells := 0, slots := 0, locals := 43 }).room s m [.ref (ad 41), .ref (ra ad p0), .ref (ra ad p1)].toArray below meth c H locs 0 0 (MQ below (ct_Q D (ww 46 ad (cellC cI cR ad res E P C N)) (ww_A 46 ad) (none)) [.ref (ad 41), .ref (ra ad p0), .ref (ra ad p1)].toArray s 0 0 (ww_A 46 ad)) (F0 m 21 ls []) := by
    intro x1 x2 x3 x4 k21 hk_21 n
    induction n with
    | zero => intro x5 M H locs ls hP hS hl hf; rw [f_X1_multiply_l21] at hf; cases hf
    | succ n ih =>
      intro x5 M H locs ls hP hS hl hf
      rw [f_X1_multiply_l21] at hf
      refine lv_iload hx hb dX1_multiply_21 (lv_at hl 5 rfl) ?_
      refine lv_iload_n hx hb dX1_multiply_23 rfl (lv_at hl 3 rfl) ?_
      refine lv_icmp_gt (tgt := 108) hx hb dX1_multiply_24 (by decide) (fun c7 => ?_) (fun c7 => ?_)
      · rw [if_pos c7] at hf
        exact hk_21 x5 M _ _ _ hP hS (lv_sub hl [0, 1, 2, 3, 4, 5] rfl) hf
      · rw [if_neg c7] at hf
        refine lv_aload_n hx hb dX1_multiply_27 rfl (lv_at hl 1 rfl) ?_
        refine lv_iload hx hb dX1_multiply_28 (lv_at hl 5 rfl) ?_
        obtain ⟨u8, g9, hf⟩ := Option.bind_eq_some_iff.mp hf
        try dsimp only at hf
        refine ct_call (va_runV (As := [.int x5]) (rest := []) ⟨hx, hb, hml, hown, hts⟩ (C_X2_get l D tys nw hn hnw hj htI htR (res := u8) g9) (cwV 1 hts gX1_multiply_X2_get rfl rfl rfl (by decide +kernel) ⟨Nat.le_of_ble_eq_true rfl, Nat.le_of_ble_eq_true rfl⟩) (ct_preV hn hP hK hN (ci := 2) (k := (20 + (x1).val)) rfl (ra_lt x1) (cl_row x1)) rfl rfl hl.1 rfl (lv_room (Nat.le_of_ble_eq_true rfl)) dX1_multiply_30 ⟨Nat.zero_le _, Nat.zero_le _⟩) hS (fun H locs hP hS => ?_)
        refine lv_istore (lv' := [(6, .int u8), (0, .ref (ad 41)), (1, .ref (ra ad x1)), (2, .ref (ra ad x2)), (3, .int x3), (4, .int x4), (5, .int x5)]) hx hb dX1_multiply_33 hl (by decide) rfl (fun ls hl => ?_)
        refine lv_iconst (v := 0) hx hb dX1_multiply_35 (by decide) ?_
        refine lv_istore (lv' := [(7, .int 0), (6, .int u8), (0, .ref (ad 41)), (1, .ref (ra ad x1)), (2, .ref (ra ad x2)), (3, .int x3), (4, .int x4), (5, .int x5)]) hx hb dX1_multiply_36 hl (by decide) rfl (fun ls hl => ?_)
        refine L38 x1 x2 x3 x4 x5 u8 _ (fun y22 M23 H locs ls hP hS hl hf => ?_) fu 0 M _ _ _ hP hS (lv_sub hl [2, 3, 4, 5, 6, 7, 1, 0] rfl) hf
        try dsimp only at hf
        refine lv_iinc (v := x5 + 1) (lv' := [(5, .int (x5 + 1)), (0, .ref (ad 41)), (1, .ref (ra ad x1)), (2, .ref (ra ad x2)), (3, .int x3), (4, .int x4), (6, .int u8), (7, .int y22)]) hx hb dX1_multiply_102 hl (k := 5) rfl rfl (by decide) rfl (fun ls hl => ?_)
        refine lv_goto (tgt := 21) hx hb dX1_multiply_105 (by decide) ?_
        exact ih (x5 + 1) M23 _ _ _ hP hS (lv_sub hl [1, 2, 3, 4, 5, 0] rfl) hf
  unfold f_X1_multiply at hf
  refine lv_aload_n hx hb dX1_multiply_0 rfl (lv_at hl 1 rfl) ?_
  obtain ⟨u1, g2, hf⟩ := Option.bind_eq_some_iff.mp hf
  try dsimp only at hf
  refine ct_call (va_runV (As := []) (rest := []) ⟨hx, hb, hml, hown, hts⟩ (C_X2_degree l D tys nw hn hnw hj htI htR (res := u1) g2) (cwV 0 hts gX1_multiply_X2_degree rfl rfl rfl (by decide +kernel) ⟨Nat.le_of_ble_eq_true rfl, Nat.le_of_ble_eq_true rfl⟩) (ct_preV hn hP hK hN (ci := 2) (k := (20 + (p0).val)) rfl (ra_lt p0) (cl_row p0)) rfl rfl hl.1 rfl (lv_room (Nat.le_of_ble_eq_true rfl)) dX1_multiply_1 ⟨Nat.zero_le _, Nat.zero_le _⟩) hS (fun H locs hP hS => ?_)
  refine lv_istore_n (lv' := [(3, .int u1), (0, .ref (ad 41)), (1, .ref (ra ad p0)), (2, .ref (ra ad p1))]) hx hb dX1_multiply_4 rfl hl (by decide) rfl (fun ls hl => ?_)
  refine lv_aload_n hx hb dX1_multiply_5 rfl (lv_at hl 3 rfl) ?_
  obtain ⟨u3, g4, hf⟩ := Option.bind_eq_some_iff.mp hf
  try dsimp only at hf
  refine ct_call (va_runV (As := []) (rest := []) ⟨hx, hb, hml, hown, hts⟩ (C_X2_degree l D tys nw hn hnw hj htI htR (res := u3) g4) (cwV 0 hts gX1_multiply_X2_degree rfl rfl rfl (by decide +kernel) ⟨Nat.le_of_ble_eq_true rfl, Nat.le_of_ble_eq_true rfl⟩) (ct_preV hn hP hK hN (ci := 2) (k := (20 + (p1).val)) rfl (ra_lt p1) (cl_row p1)) rfl rfl hl.1 rfl (lv_room (Nat.le_of_ble_eq_true rfl)) dX1_multiply_6 ⟨Nat.zero_le _, Nat.zero_le _⟩) hS (fun H locs hP hS => ?_)
  refine lv_istore (lv' := [(4, .int u3), (3, .int u1), (0, .ref (ad 41)), (1, .ref (ra ad p0)), (2, .ref (ra ad p1))]) hx hb dX1_multiply_9 hl (by decide) rfl (fun ls hl => ?_)
  refine lv_aload_n hx hb dX1_multiply_11 rfl (lv_at hl 2 rfl) ?_
  refine va_get (ci := 1) (v := .ref (ra ad (1 : Fin 20))) (C := RX1) (T := TX1) (N := 11) hx hb hts (by decide +kernel) hown hK hP 41 cc_ring rfl 1 (by decide) (hts (.fieldLink RX1 21 "NumberFieldFactors$Ring" "wide" "LNumberFieldFactors$Row;") (by decide +kernel)) (fun _ h9 => h9) rfl dX1_multiply_12 ?_
  obtain ⟨u5, g6, hf⟩ := Option.bind_eq_some_iff.mp hf
  try dsimp only at hf
  refine ct_call (va_runV (As := []) (rest := []) ⟨hx, hb, hml, hown, hts⟩ (C_X2_clear l D tys nw hn hnw hj htI htR (res := u5) g6) (cwV 0 hts gX1_multiply_X2_clear rfl rfl rfl (by decide +kernel) ⟨Nat.le_of_ble_eq_true rfl, Nat.le_of_ble_eq_true rfl⟩) (ct_preV hn hP hK hN (ci := 2) (k := (20 + ((1 : Fin 20)).val)) rfl (ra_lt (1 : Fin 20)) (cl_row (1 : Fin 20))) rfl rfl hl.1 rfl (lv_room (Nat.le_of_ble_eq_true rfl)) dX1_multiply_15 ⟨Nat.zero_le _, Nat.zero_le _⟩) hS (fun H locs hP hS => ?_)
  refine lv_iconst (v := 0) hx hb dX1_multiply_18 (by decide) ?_
  refine lv_istore (lv' := [(5, .int 0), (4, .int u3), (3, .int u1), (0, .ref (ad 41)), (1, .ref (ra ad p0)), (2, .ref (ra ad p1))]) hx hb dX1_multiply_19 hl (by decide) rfl (fun ls hl => ?_)
  refine L21 p0 p1 u1 u3 _ (fun y24 M25 H locs ls hP hS hl hf => ?_) fu 0 u5 _ _ _ hP hS (lv_sub hl [3, 4, 5, 2, 1, 0] rfl) hf
  try dsimp only at hf
  refine lv_aload_n hx hb dX1_multiply_108 rfl (lv_at hl 1 rfl) ?_
  refine lv_aload_n hx hb dX1_multiply_109 rfl (lv_at hl 0 rfl) ?_
  refine va_get (ci := 1) (v := .ref (ra ad (1 : Fin 20))) (C := RX1) (T := TX1) (N := 11) hx hb hts (by decide +kernel) hown hK hP 41 cc_ring rfl 1 (by decide) (hts (.fieldLink RX1 21 "NumberFieldFactors$Ring" "wide" "LNumberFieldFactors$Row;") (by decide +kernel)) (fun _ h9 => h9) rfl dX1_multiply_110 ?_
  obtain ⟨u26, g27, hf⟩ := Option.bind_eq_some_iff.mp hf
  try dsimp only at hf
  refine ct_call (va_runV (As := [.ref (ra ad (1 : Fin 20))]) (rest := []) ⟨hx, hb, hml, hown, hts⟩ (C_X2_copy l D tys nw hn hnw hj htI htR (res := u26) g27) (cwV 1 hts gX1_multiply_X2_copy rfl rfl rfl (by decide +kernel) ⟨Nat.le_of_ble_eq_true rfl, Nat.le_of_ble_eq_true rfl⟩) (ct_preV hn hP hK hN (ci := 2) (k := (20 + (p0).val)) rfl (ra_lt p0) (cl_row p0)) rfl rfl hl.1 rfl (lv_room (Nat.le_of_ble_eq_true rfl)) dX1_multiply_113 ⟨Nat.zero_le _, Nat.zero_le _⟩) hS (fun H locs hP hS => ?_)
  obtain rfl := Option.some.inj hf
  exact W.vret hx hb hr (fun t ht hW => ⟨rfl, by rw [ht]; exact hP, hS.F ht⟩) hS.2.2 dX1_multiply_116
def f_X1_multiplyLinear_l7 (k7 : Int32 → (Fin 20 → Nat → Int32) → Option ((Fin 20 → Nat → Int32))) (fu : Nat) (E : Nat → Int32) (x1 : Fin 20) (x2 : Int32) : Nat → Int32 → (Fin 20 → Nat → Int32) → Option ((Fin 20 → Nat → Int32))
  | 0, _, _ => none
  | n + 1, x3, M =>
    if x3 < 0 then
      k7 x3 M
    else
      (f_X2_get M x1 (x3 - 1)).bind (fun u5 =>
      (f_X2_get M x1 x3).bind (fun u7 =>
      (f_X0_times E x2 u7).bind (fun u9 =>
      (f_X0_plus u5 u9).bind (fun u11 =>
      (f_X2_set M x1 x3 u11).bind (fun u13 =>
      f_X1_multiplyLinear_l7 k7 fu E x1 x2 n (x3 + (-1)) u13)))))
def f_X1_multiplyLinear (fu : Nat) (M : Fin 20 → Nat → Int32) (E : Nat → Int32) (p0 : Fin 20) (p1 : Int32) : Option ((Fin 20 → Nat → Int32)) :=
  (f_X2_degree fu M p0).bind (fun u1 =>
  nm (u1 + 1) (fun v3 =>
  f_X1_multiplyLinear_l7 (fun y15 M16 =>
    some M16) fu E p0 p1 fu v3 M))
set_option maxHeartbeats 4000000 in
set_option maxRecDepth 100000 in
theorem C_X1_multiplyLinear (l : Launch) (D : va_G) (tys : List (ClassId × FieldType)) (nw : List Cond) (hn : nw.all nw_kind = true) (hnw : ∀ w ∈ nw0, w ∈ nw) {ad : Nat → Nat} (hj : ww_inj 46 ad) {cI : ClassId} {cR : ClassId} (htI : tys[0]? = some (cI, .int)) (htR : tys[1]? = some (cR, .object RX2)) {fu : Nat} {M : Fin 20 → Nat → Int32} {E : Nat → Int32} {P : Nat → Fin 20} {C : Nat → Int32} {N : Nat → Int32} {p0 : Fin 20} {p1 : Int32} {res : (Fin 20 → Nat → Int32)} (hf : f_X1_multiplyLinear fu M E p0 p1 = some res) :
    Met l yX1_multiplyLinear wsX1_multiplyLinear ({ frames := 1, cells := 0, slots := 0, locals := 34 }) (va_Pc [.ref (ad 41), .ref (ra ad p0), .int p1] (ws_B D tys nw (ww 46 ad (cellC cI cR ad M E P C N)))) (ct_Q D (ww 46 ad (cellC cI cR ad res E P C N)) (ww_A 46 ad) (none)) 0 0 (ww_A 46 ad) := by
  refine Met.ofW (cc := cX1_multiplyLinear) (maxL := 4) (ret := none) (by decide) rfl ?_
  intro p e s m args below meth c s₁ B hml hv
  obtain ⟨rfl, hP, hK, hN⟩ := hv
  have hx := B.exec
  have hb := B.bytes
  have hr := B.returns
  have hts := atoms_spec (ws := wsX1_multiplyLinear) B.pre
  have hown : s.vm.findClass RX1 = some m.cls := findClass_of_methodNamed B.named
  have hlocks := B.notSynchronized
  have hS : va_S (ww_A 46 ad) s.heap s.heap [] := va_S.rf
  have hl := lv_entry ([.ref (ad 41), .ref (ra ad p0), .int p1]) (n := 4) (Nat.le_of_ble_eq_true rfl)
  rw [lg_entry_eq]
  generalize (lg_sl ([.ref (ad 41), .ref (ra ad p0), .int p1]) ++ List.replicate (4 - (lg_sl ([.ref (ad 41), .ref (ra ad p0), .int p1])).length) Slot.unset).toArray = ls at hl ⊢
  have hl : lv_has ls 4 [(0, .ref (ad 41)), (1, .ref (ra ad p0)), (2, .int p1)] := hl
  have L7 : ∀ (x1 : Fin 20) (x2 : Int32) (k7 : Int32 → (Fin 20 → Nat → Int32) → Option ((Fin 20 → Nat → Int32))), (∀ (x3 : Int32) (M : Fin 20 → Nat → Int32) (H : Heap) (locs : List Loc) (ls : Array Slot), va_P D vwCl (ww 46 ad (cellC cI cR ad M E P C N)) H → va_S (ww_A 46 ad) s.heap H locs → lv_has ls 4 [(0, .ref (ad 41)), (1, .ref (ra ad x1)), (2, .int x2), (3, .int x3)] →  k7 x3 M = some res → W p l e (headSpec wsX1_multiplyLinear { frames := 1, cells := 0, slots := 0, locals := 34 }).room s m [.ref (ad 41), .ref (ra ad p0), .int p1].toArray below meth c H locs 0 0 (MQ below (ct_Q D (ww 46 ad (cellC cI cR ad res E P C N)) (ww_A 46 ad) (none)) [.ref (ad 41), .ref (ra ad p0), .int p1].toArray s 0 0 (ww_A 46 ad)) (F0 m 49 ls [])) → ∀ (n : Nat) (x3 : Int32) (M : Fin 20 → Nat → Int32) (H : Heap) (locs : List Loc) (ls : Array Slot), va_P D vwCl (ww 46 ad (cellC cI cR ad M E P C N)) H → va_S (ww_A 46 ad) s.heap H locs → lv_has ls 4 [(0, .ref (ad 41)), (1, .ref (ra ad x1)), (2, .int x2), (3, .int x3)] →  f_X1_multiplyLinear_l7 k7 fu E x1 x2 n x3 M = some res → W p l e (headSpec wsX1_multiplyLinear { frames := 1, cells := 0, slots := 0, locals := 34 }).room s m [.ref (ad 41), .ref (ra ad p0), .int p1].toArray below meth c H locs 0 0 (MQ below (ct_Q D (ww 46 ad (cellC cI cR ad res E P C N)) (ww_A 46 ad) (none)) [.ref (ad 41), .ref (ra ad p0), .int p1].toArray s 0 0 (ww_A 46 ad)) (F0 m 7 ls []) := by
    intro x1 x2 k7 hk_7 n
    induction n with
    | zero => intro x3 M H locs ls hP hS hl hf; rw [f_X1_multiplyLinear_l7] at hf; cases hf
    | succ n ih =>
      intro x3 M H locs ls hP hS hl hf
      rw [f_X1_multiplyLinear_l7] at hf
      refine lv_iload_n hx hb dX1_multiplyLinear_7 rfl (lv_at hl 3 rfl) ?_
      refine lv_if_lt (tgt := 49) hx hb dX1_multiplyLinear_8 (by decide) (fun c4 => ?_) (fun c4 => ?_)
      · rw [if_pos c4] at hf
        exact hk_7 x3 M _ _ _ hP hS (lv_sub hl [0, 1, 2, 3] rfl) hf
      · rw [if_neg c4] at hf
        refine lv_aload_n hx hb dX1_multiplyLinear_11 rfl (lv_at hl 1 rfl) ?_
        refine lv_iload_n hx hb dX1_multiplyLinear_12 rfl (lv_at hl 3 rfl) ?_
        refine lv_aload_n hx hb dX1_multiplyLinear_13 rfl (lv_at hl 0 rfl) ?_
        refine va_get (ci := 1) (v := .ref (ad 40)) (C := RX1) (T := TX1) (N := 11) hx hb hts (by decide +kernel) hown hK hP 41 cc_ring rfl 0 (by decide) (hts (.fieldLink RX1 12 "NumberFieldFactors$Ring" "extension" "LNumberFieldFactors$Extension;") (by decide +kernel)) (fun _ h9 => h9) rfl dX1_multiplyLinear_14 ?_
        refine lv_aload_n hx hb dX1_multiplyLinear_17 rfl (lv_at hl 1 rfl) ?_
        refine lv_iload_n hx hb dX1_multiplyLinear_18 rfl (lv_at hl 3 rfl) ?_
        refine lv_iconst (v := 1) hx hb dX1_multiplyLinear_19 (by decide) ?_
        refine lv_isub hx hb dX1_multiplyLinear_20 ?_
        obtain ⟨u5, g6, hf⟩ := Option.bind_eq_some_iff.mp hf
        try dsimp only at hf
        refine ct_call (va_runV (As := [.int (x3 - 1)]) (rest := [.ref (ad 40), .int x3, .ref (ra ad x1)]) ⟨hx, hb, hml, hown, hts⟩ (C_X2_get l D tys nw hn hnw hj htI htR (res := u5) g6) (cwV 1 hts gX1_multiplyLinear_X2_get rfl rfl rfl (by decide +kernel) ⟨Nat.le_of_ble_eq_true rfl, Nat.le_of_ble_eq_true rfl⟩) (ct_preV hn hP hK hN (ci := 2) (k := (20 + (x1).val)) rfl (ra_lt x1) (cl_row x1)) rfl rfl hl.1 rfl (lv_room (Nat.le_of_ble_eq_true rfl)) dX1_multiplyLinear_21 ⟨Nat.zero_le _, Nat.zero_le _⟩) hS (fun H locs hP hS => ?_)
        refine lv_aload_n hx hb dX1_multiplyLinear_24 rfl (lv_at hl 0 rfl) ?_
        refine va_get (ci := 1) (v := .ref (ad 40)) (C := RX1) (T := TX1) (N := 11) hx hb hts (by decide +kernel) hown hK hP 41 cc_ring rfl 0 (by decide) (hts (.fieldLink RX1 12 "NumberFieldFactors$Ring" "extension" "LNumberFieldFactors$Extension;") (by decide +kernel)) (fun _ h9 => h9) rfl dX1_multiplyLinear_25 ?_
        refine lv_iload_n hx hb dX1_multiplyLinear_28 rfl (lv_at hl 2 rfl) ?_
        refine lv_aload_n hx hb dX1_multiplyLinear_29 rfl (lv_at hl 1 rfl) ?_
        refine lv_iload_n hx hb dX1_multiplyLinear_30 rfl (lv_at hl 3 rfl) ?_
        obtain ⟨u7, g8, hf⟩ := Option.bind_eq_some_iff.mp hf
        try dsimp only at hf
        refine ct_call (va_runV (As := [.int x3]) (rest := [.int x2, .ref (ad 40), .int u5, .ref (ad 40), .int x3, .ref (ra ad x1)]) ⟨hx, hb, hml, hown, hts⟩ (C_X2_get l D tys nw hn hnw hj htI htR (res := u7) g8) (cwV 1 hts gX1_multiplyLinear_X2_get rfl rfl rfl (by decide +kernel) ⟨Nat.le_of_ble_eq_true rfl, Nat.le_of_ble_eq_true rfl⟩) (ct_preV hn hP hK hN (ci := 2) (k := (20 + (x1).val)) rfl (ra_lt x1) (cl_row x1)) rfl rfl hl.1 rfl (lv_room (Nat.le_of_ble_eq_true rfl)) dX1_multiplyLinear_31 ⟨Nat.zero_le _, Nat.zero_le _⟩) hS (fun H locs hP hS => ?_)
        obtain ⟨u9, g10, hf⟩ := Option.bind_eq_some_iff.mp hf
        try dsimp only at hf
        refine ct_call (va_runV (As := [.int x2, .int u7]) (rest := [.int u5, .ref (ad 40), .int x3, .ref (ra ad x1)]) ⟨hx, hb, hml, hown, hts⟩ (C_X0_times l D tys nw hn hnw hj htI htR (res := u9) g10) (cwV 2 hts gX1_multiplyLinear_X0_times rfl rfl rfl (by decide +kernel) ⟨Nat.le_of_ble_eq_true rfl, Nat.le_of_ble_eq_true rfl⟩) (ct_preV hn hP hK hN (ci := 0) (k := 40) rfl (by decide) rfl) rfl rfl hl.1 rfl (lv_room (Nat.le_of_ble_eq_true rfl)) dX1_multiplyLinear_34 ⟨Nat.zero_le _, Nat.zero_le _⟩) hS (fun H locs hP hS => ?_)
        obtain ⟨u11, g12, hf⟩ := Option.bind_eq_some_iff.mp hf
        try dsimp only at hf
        refine ct_call (va_runV (As := [.int u5, .int u9]) (rest := [.int x3, .ref (ra ad x1)]) ⟨hx, hb, hml, hown, hts⟩ (C_X0_plus l D tys nw hn hnw hj htI htR (res := u11) g12) (cwV 2 hts gX1_multiplyLinear_X0_plus rfl rfl rfl (by decide +kernel) ⟨Nat.le_of_ble_eq_true rfl, Nat.le_of_ble_eq_true rfl⟩) (ct_preV hn hP hK hN (ci := 0) (k := 40) rfl (by decide) rfl) rfl rfl hl.1 rfl (lv_room (Nat.le_of_ble_eq_true rfl)) dX1_multiplyLinear_37 ⟨Nat.zero_le _, Nat.zero_le _⟩) hS (fun H locs hP hS => ?_)
        obtain ⟨u13, g14, hf⟩ := Option.bind_eq_some_iff.mp hf
        try dsimp only at hf
        refine ct_call (va_runV (As := [.int x3, .int u11]) (rest := []) ⟨hx, hb, hml, hown, hts⟩ (C_X2_set l D tys nw hn hnw hj htI htR (res := u13) g14) (cwV 2 hts gX1_multiplyLinear_X2_set rfl rfl rfl (by decide +kernel) ⟨Nat.le_of_ble_eq_true rfl, Nat.le_of_ble_eq_true rfl⟩) (ct_preV hn hP hK hN (ci := 2) (k := (20 + (x1).val)) rfl (ra_lt x1) (cl_row x1)) rfl rfl hl.1 rfl (lv_room (Nat.le_of_ble_eq_true rfl)) dX1_multiplyLinear_40 ⟨Nat.zero_le _, Nat.zero_le _⟩) hS (fun H locs hP hS => ?_)
        refine lv_iinc (v := x3 + (-1)) (lv' := [(3, .int (x3 + (-1))), (0, .ref (ad 41)), (1, .ref (ra ad x1)), (2, .int x2)]) hx hb dX1_multiplyLinear_43 hl (k := 3) rfl rfl (by decide) rfl (fun ls hl => ?_)
        refine lv_goto (tgt := 7) hx hb dX1_multiplyLinear_46 (by decide) ?_
        exact ih (x3 + (-1)) u13 _ _ _ hP hS (lv_sub hl [1, 2, 3, 0] rfl) hf
  unfold f_X1_multiplyLinear at hf
  refine lv_aload_n hx hb dX1_multiplyLinear_0 rfl (lv_at hl 1 rfl) ?_
  obtain ⟨u1, g2, hf⟩ := Option.bind_eq_some_iff.mp hf
  try dsimp only at hf
  refine ct_call (va_runV (As := []) (rest := []) ⟨hx, hb, hml, hown, hts⟩ (C_X2_degree l D tys nw hn hnw hj htI htR (res := u1) g2) (cwV 0 hts gX1_multiplyLinear_X2_degree rfl rfl rfl (by decide +kernel) ⟨Nat.le_of_ble_eq_true rfl, Nat.le_of_ble_eq_true rfl⟩) (ct_preV hn hP hK hN (ci := 2) (k := (20 + (p0).val)) rfl (ra_lt p0) (cl_row p0)) rfl rfl hl.1 rfl (lv_room (Nat.le_of_ble_eq_true rfl)) dX1_multiplyLinear_1 ⟨Nat.zero_le _, Nat.zero_le _⟩) hS (fun H locs hP hS => ?_)
  refine lv_iconst (v := 1) hx hb dX1_multiplyLinear_4 (by decide) ?_
  refine lv_iadd hx hb dX1_multiplyLinear_5 ?_
  obtain ⟨v3, ev3, hf⟩ := nm_elim hf
  try dsimp only at hf
  refine tp_I ev3 ?_
  refine lv_istore_n (lv' := [(3, .int v3), (0, .ref (ad 41)), (1, .ref (ra ad p0)), (2, .int p1)]) hx hb dX1_multiplyLinear_6 rfl hl (by decide) rfl (fun ls hl => ?_)
  refine L7 p0 p1 _ (fun y15 M16 H locs ls hP hS hl hf => ?_) fu v3 M _ _ _ hP hS (lv_sub hl [1, 2, 3, 0] rfl) hf
  try dsimp only at hf
  obtain rfl := Option.some.inj hf
  exact W.vret hx hb hr (fun t ht hW => ⟨rfl, by rw [ht]; exact hP, hS.F ht⟩) hS.2.2 dX1_multiplyLinear_49
def f_X1_divide_l52 (k52 : Int32 → (Fin 20 → Nat → Int32) → Option ((Fin 20 → Nat → Int32))) (fu : Nat) (E : Nat → Int32) (x1 : Fin 20) (x2 : Fin 20) (x3 : Int32) (x4 : Int32) (x5 : Int32) : Nat → Int32 → (Fin 20 → Nat → Int32) → Option ((Fin 20 → Nat → Int32))
  | 0, _, _ => none
  | n + 1, x6, M =>
    if x5 = 0 then
      k52 x6 M
    else
      if x3 < x6 then
        k52 x6 M
      else
        nm ((x4 - x3) + x6) (fun v15 =>
        (f_X2_get M x1 v15).bind (fun u16 =>
        (f_X2_get M x2 x6).bind (fun u18 =>
        (f_X0_times E x5 u18).bind (fun u20 =>
        (f_X0_minus u16 u20).bind (fun u22 =>
        (f_X2_set M x1 v15 u22).bind (fun u24 =>
        f_X1_divide_l52 k52 fu E x1 x2 x3 x4 x5 n (x6 + 1) u24))))))
def f_X1_divide_l18 (k18 : Int32 → (Fin 20 → Nat → Int32) → Option ((Fin 20 → Nat → Int32))) (fu : Nat) (E : Nat → Int32) (x1 : Fin 20) (x2 : Fin 20) (x3 : Int32) : Nat → Int32 → (Fin 20 → Nat → Int32) → Option ((Fin 20 → Nat → Int32))
  | 0, _, _ => none
  | n + 1, x4, M =>
    if x3 < 0 then
      k18 x4 M
    else
      if x4 < x3 then
        k18 x4 M
      else
        (f_X2_get M x1 x4).bind (fun u9 =>
        (f_X2_set M (2 : Fin 20) (x4 - x3) u9).bind (fun u11 =>
        f_X1_divide_l52 (fun y26 M27 =>
          f_X1_divide_l18 k18 fu E x1 x2 x3 n (x4 + (-1)) M27) fu E x1 x2 x3 x4 u9 fu 0 u11))
def f_X1_divide (fu : Nat) (M : Fin 20 → Nat → Int32) (E : Nat → Int32) (p0 : Fin 20) (p1 : Fin 20) : Option ((Fin 20 → Nat → Int32)) :=
  (f_X2_degree fu M p1).bind (fun u1 =>
  (f_X2_clear fu M (2 : Fin 20)).bind (fun u3 =>
  (f_X2_degree fu u3 p0).bind (fun u5 =>
  f_X1_divide_l18 (fun y28 M29 =>
    some M29) fu E p0 p1 u1 fu u5 u3)))
set_option maxHeartbeats 4000000 in
set_option maxRecDepth 100000 in
theorem C_X1_divide (l : Launch) (D : va_G) (tys : List (ClassId × FieldType)) (nw : List Cond) (hn : nw.all nw_kind = true) (hnw : ∀ w ∈ nw0, w ∈ nw) {ad : Nat → Nat} (hj : ww_inj 46 ad) {cI : ClassId} {cR : ClassId} (htI : tys[0]? = some (cI, .int)) (htR : tys[1]? = some (cR, .object RX2)) {fu : Nat} {M : Fin 20 → Nat → Int32} {E : Nat → Int32} {P : Nat → Fin 20} {C : Nat → Int32} {N : Nat → Int32} {p0 : Fin 20} {p1 : Fin 20} {res : (Fin 20 → Nat → Int32)} (hf : f_X1_divide fu M E p0 p1 = some res) :
    Met l yX1_divide wsX1_divide ({ frames := 1, cells := 0, slots := 0, locals := 34 }) (va_Pc [.ref (ad 41), .ref (ra ad p0), .ref (ra ad p1)] (ws_B D tys nw (ww 46 ad (cellC cI cR ad M E P C N)))) (ct_Q D (ww 46 ad (cellC cI cR ad res E P C N)) (ww_A 46 ad) (none)) 0 0 (ww_A 46 ad) := by
  refine Met.ofW (cc := cX1_divide) (maxL := 8) (ret := none) (by decide) rfl ?_
  intro p e s m args below meth c s₁ B hml hv
  obtain ⟨rfl, hP, hK, hN⟩ := hv
  have hx := B.exec
  have hb := B.bytes
  have hr := B.returns
  have hts := atoms_spec (ws := wsX1_divide) B.pre
  have hown : s.vm.findClass RX1 = some m.cls := findClass_of_methodNamed B.named
  have hlocks := B.notSynchronized
  have hS : va_S (ww_A 46 ad) s.heap s.heap [] := va_S.rf
  have hl := lv_entry ([.ref (ad 41), .ref (ra ad p0), .ref (ra ad p1)]) (n := 8) (Nat.le_of_ble_eq_true rfl)
  rw [lg_entry_eq]
  generalize (lg_sl ([.ref (ad 41), .ref (ra ad p0), .ref (ra ad p1)]) ++ List.replicate (8 - (lg_sl ([.ref (ad 41), .ref (ra ad p0), .ref (ra ad p1)])).length) Slot.unset).toArray = ls at hl ⊢
  have hl : lv_has ls 8 [(0, .ref (ad 41)), (1, .ref (ra ad p0)), (2, .ref (ra ad p1))] := hl
  have L52 : ∀ (x1 : Fin 20) (x2 : Fin 20) (x3 : Int32) (x4 : Int32) (x5 : Int32) (k52 : Int32 → (Fin 20 → Nat → Int32) → Option ((Fin 20 → Nat → Int32))), (∀ (x6 : Int32) (M : Fin 20 → Nat → Int32) (H : Heap) (locs : List Loc) (ls : Array Slot), va_P D vwCl (ww 46 ad (cellC cI cR ad M E P C N)) H → va_S (ww_A 46 ad) s.heap H locs → lv_has ls 8 [(0, .ref (ad 41)), (1, .ref (ra ad x1)), (2, .ref (ra ad x2)), (3, .int x3), (4, .int x4), (5, .int x5), (6, .int x6)] →  k52 x6 M = some res → W p l e (headSpec wsX1_divide { frames := 1, cells := 0, slots := 0, locals := 34 }).room s m [.ref (ad 41), .ref (ra ad p0), .ref (ra ad p1)].toArray below meth c H locs 0 0 (MQ below (ct_Q D (ww 46 ad (cellC cI cR ad res E P C N)) (ww_A 46 ad) (none)) [.ref (ad 41), .ref (ra ad p0), .ref (ra ad p1)].toArray s 0 0 (ww_A 46 ad)) (F0 m 112 ls [])) → ∀ (n : Nat) (x6 : Int32) (M : Fin 20 → Nat → Int32) (H : Heap) (locs : List Loc) (ls : Array Slot), va_P D vwCl (ww 46 ad (cellC cI cR ad M E P C N)) H → va_S (ww_A 46 ad) s.heap H locs → lv_has ls 8 [(0, .ref (ad 41)), (1, .ref (ra ad x1)), (2, .ref (ra ad x2)), (3, .int x3), (4, .int x4), (5, .int x5), (6, .int x6)] →  f_X1_divide_l52 k52 fu E x1 x2 x3 x4 x5 n x6 M = some res → W p l e (headSpec wsX1_divide { frames := 1, cells := 0, slots := 0, locals := 34 }).room s m [.ref (ad 41), .ref (ra ad p0), .ref (ra ad p1)].toArray below meth c H locs 0 0 (MQ below (ct_Q D (ww 46 ad (cellC cI cR ad res E P C N)) (ww_A 46 ad) (none)) [.ref (ad 41), .ref (ra ad p0), .ref (ra ad p1)].toArray s 0 0 (ww_A 46 ad)) (F0 m 52 ls []) := by
    intro x1 x2 x3 x4 x5 k52 hk_52 n
    induction n with
    | zero => intro x6 M H locs ls hP hS hl hf; rw [f_X1_divide_l52] at hf; cases hf
    | succ n ih =>
      intro x6 M H locs ls hP hS hl hf
      rw [f_X1_divide_l52] at hf
      refine lv_iload hx hb dX1_divide_52 (lv_at hl 5 rfl) ?_
      refine lv_if_eq (tgt := 112) hx hb dX1_divide_54 (by decide) (fun c13 => ?_) (fun c13 => ?_)
      · rw [if_pos c13] at hf
        exact hk_52 x6 M _ _ _ hP hS (lv_sub hl [0, 1, 2, 3, 4, 5, 6] rfl) hf
      · rw [if_neg c13] at hf
        refine lv_iload hx hb dX1_divide_57 (lv_at hl 6 rfl) ?_
        refine lv_iload_n hx hb dX1_divide_59 rfl (lv_at hl 3 rfl) ?_
        refine lv_icmp_gt (tgt := 112) hx hb dX1_divide_60 (by decide) (fun c14 => ?_) (fun c14 => ?_)
        · rw [if_pos c14] at hf
          exact hk_52 x6 M _ _ _ hP hS (lv_sub hl [0, 1, 2, 3, 4, 5, 6] rfl) hf
        · rw [if_neg c14] at hf
          refine lv_iload hx hb dX1_divide_63 (lv_at hl 4 rfl) ?_
          refine lv_iload_n hx hb dX1_divide_65 rfl (lv_at hl 3 rfl) ?_
          refine lv_isub hx hb dX1_divide_66 ?_
          refine lv_iload hx hb dX1_divide_67 (lv_at hl 6 rfl) ?_
          refine lv_iadd hx hb dX1_divide_69 ?_
          obtain ⟨v15, ev15, hf⟩ := nm_elim hf
          try dsimp only at hf
          refine tp_I ev15 ?_
          refine lv_istore (lv' := [(7, .int v15), (0, .ref (ad 41)), (1, .ref (ra ad x1)), (2, .ref (ra ad x2)), (3, .int x3), (4, .int x4), (5, .int x5), (6, .int x6)]) hx hb dX1_divide_70 hl (by decide) rfl (fun ls hl => ?_)
          refine lv_aload_n hx hb dX1_divide_72 rfl (lv_at hl 2 rfl) ?_
          refine lv_iload hx hb dX1_divide_73 (lv_at hl 0 rfl) ?_
          refine lv_aload_n hx hb dX1_divide_75 rfl (lv_at hl 1 rfl) ?_
          refine va_get (ci := 1) (v := .ref (ad 40)) (C := RX1) (T := TX1) (N := 11) hx hb hts (by decide +kernel) hown hK hP 41 cc_ring rfl 0 (by decide) (hts (.fieldLink RX1 12 "NumberFieldFactors$Ring" "extension" "LNumberFieldFactors$Extension;") (by decide +kernel)) (fun _ h9 => h9) rfl dX1_divide_76 ?_
          refine lv_aload_n hx hb dX1_divide_79 rfl (lv_at hl 2 rfl) ?_
          refine lv_iload hx hb dX1_divide_80 (lv_at hl 0 rfl) ?_
          obtain ⟨u16, g17, hf⟩ := Option.bind_eq_some_iff.mp hf
          try dsimp only at hf
          refine ct_call (va_runV (As := [.int v15]) (rest := [.ref (ad 40), .int v15, .ref (ra ad x1)]) ⟨hx, hb, hml, hown, hts⟩ (C_X2_get l D tys nw hn hnw hj htI htR (res := u16) g17) (cwV 1 hts gX1_divide_X2_get rfl rfl rfl (by decide +kernel) ⟨Nat.le_of_ble_eq_true rfl, Nat.le_of_ble_eq_true rfl⟩) (ct_preV hn hP hK hN (ci := 2) (k := (20 + (x1).val)) rfl (ra_lt x1) (cl_row x1)) rfl rfl hl.1 rfl (lv_room (Nat.le_of_ble_eq_true rfl)) dX1_divide_82 ⟨Nat.zero_le _, Nat.zero_le _⟩) hS (fun H locs hP hS => ?_)
          refine lv_aload_n hx hb dX1_divide_85 rfl (lv_at hl 1 rfl) ?_
          refine va_get (ci := 1) (v := .ref (ad 40)) (C := RX1) (T := TX1) (N := 11) hx hb hts (by decide +kernel) hown hK hP 41 cc_ring rfl 0 (by decide) (hts (.fieldLink RX1 12 "NumberFieldFactors$Ring" "extension" "LNumberFieldFactors$Extension;") (by decide +kernel)) (fun _ h9 => h9) rfl dX1_divide_86 ?_
          refine lv_iload hx hb dX1_divide_89 (lv_at hl 6 rfl) ?_
          refine lv_aload_n hx hb dX1_divide_91 rfl (lv_at hl 3 rfl) ?_
          refine lv_iload hx hb dX1_divide_92 (lv_at hl 7 rfl) ?_
          obtain ⟨u18, g19, hf⟩ := Option.bind_eq_some_iff.mp hf
          try dsimp only at hf
          refine ct_call (va_runV (As := [.int x6]) (rest := [.int x5, .ref (ad 40), .int u16, .ref (ad 40), .int v15, .ref (ra ad x1)]) ⟨hx, hb, hml, hown, hts⟩ (C_X2_get l D tys nw hn hnw hj htI htR (res := u18) g19) (cwV 1 hts gX1_divide_X2_get rfl rfl rfl (by decide +kernel) ⟨Nat.le_of_ble_eq_true rfl, Nat.le_of_ble_eq_true rfl⟩) (ct_preV hn hP hK hN (ci := 2) (k := (20 + (x2).val)) rfl (ra_lt x2) (cl_row x2)) rfl rfl hl.1 rfl (lv_room (Nat.le_of_ble_eq_true rfl)) dX1_divide_94 ⟨Nat.zero_le _, Nat.zero_le _⟩) hS (fun H locs hP hS => ?_)
          obtain ⟨u20, g21, hf⟩ := Option.bind_eq_some_iff.mp hf
          try dsimp only at hf
          refine ct_call (va_runV (As := [.int x5, .int u18]) (rest := [.int u16, .ref (ad 40), .int v15, .ref (ra ad x1)]) ⟨hx, hb, hml, hown, hts⟩ (C_X0_times l D tys nw hn hnw hj htI htR (res := u20) g21) (cwV 2 hts gX1_divide_X0_times rfl rfl rfl (by decide +kernel) ⟨Nat.le_of_ble_eq_true rfl, Nat.le_of_ble_eq_true rfl⟩) (ct_preV hn hP hK hN (ci := 0) (k := 40) rfl (by decide) rfl) rfl rfl hl.1 rfl (lv_room (Nat.le_of_ble_eq_true rfl)) dX1_divide_97 ⟨Nat.zero_le _, Nat.zero_le _⟩) hS (fun H locs hP hS => ?_)
          obtain ⟨u22, g23, hf⟩ := Option.bind_eq_some_iff.mp hf
          try dsimp only at hf
          refine ct_call (va_runV (As := [.int u16, .int u20]) (rest := [.int v15, .ref (ra ad x1)]) ⟨hx, hb, hml, hown, hts⟩ (C_X0_minus l D tys nw hn hnw hj htI htR (res := u22) g23) (cwV 2 hts gX1_divide_X0_minus rfl rfl rfl (by decide +kernel) ⟨Nat.le_of_ble_eq_true rfl, Nat.le_of_ble_eq_true rfl⟩) (ct_preV hn hP hK hN (ci := 0) (k := 40) rfl (by decide) rfl) rfl rfl hl.1 rfl (lv_room (Nat.le_of_ble_eq_true rfl)) dX1_divide_100 ⟨Nat.zero_le _, Nat.zero_le _⟩) hS (fun H locs hP hS => ?_)
          obtain ⟨u24, g25, hf⟩ := Option.bind_eq_some_iff.mp hf
          try dsimp only at hf
          refine ct_call (va_runV (As := [.int v15, .int u22]) (rest := []) ⟨hx, hb, hml, hown, hts⟩ (C_X2_set l D tys nw hn hnw hj htI htR (res := u24) g25) (cwV 2 hts gX1_divide_X2_set rfl rfl rfl (by decide +kernel) ⟨Nat.le_of_ble_eq_true rfl, Nat.le_of_ble_eq_true rfl⟩) (ct_preV hn hP hK hN (ci := 2) (k := (20 + (x1).val)) rfl (ra_lt x1) (cl_row x1)) rfl rfl hl.1 rfl (lv_room (Nat.le_of_ble_eq_true rfl)) dX1_divide_103 ⟨Nat.zero_le _, Nat.zero_le _⟩) hS (fun H locs hP hS => ?_)
          refine lv_iinc (v := x6 + 1) (lv' := [(6, .int (x6 + 1)), (7, .int v15), (0, .ref (ad 41)), (1, .ref (ra ad x1)), (2, .ref (ra ad x2)), (3, .int x3), (4, .int x4), (5, .int x5)]) hx hb dX1_divide_106 hl (k := 7) rfl rfl (by decide) rfl (fun ls hl => ?_)
          refine lv_goto (tgt := 52) hx hb dX1_divide_109 (by decide) ?_
          exact ih (x6 + 1) u24 _ _ _ hP hS (lv_sub hl [2, 3, 4, 5, 6, 7, 0] rfl) hf
  have L18 : ∀ (x1 : Fin 20) (x2 : Fin 20) (x3 : Int32) (k18 : Int32 → (Fin 20 → Nat → Int32) → Option ((Fin 20 → Nat → Int32))), (∀ (x4 : Int32) (M : Fin 20 → Nat → Int32) (H : Heap) (locs : List Loc) (ls : Array Slot), va_P D vwCl (ww 46 ad (cellC cI cR ad M E P C N)) H → va_S (ww_A 46 ad) s.heap H locs → lv_has ls 8 [(0, .ref (ad 41)), (1, .ref (ra ad x1)), (2, .ref (ra ad x2)), (3, .int x3), (4, .int x4)] →  k18 x4 M = some res → W p l e (headSpec wsX1_divide { frames := 1, cells := 0, slots := 0, locals := 34 }).room s m [.ref (ad 41), .ref (ra ad p0), .ref (ra ad p1)].toArray below meth c H locs 0 0 (MQ below (ct_Q D (ww 46 ad (cellC cI cR ad res E P C N)) (ww_A 46 ad) (none)) [.ref (ad 41), .ref (ra ad p0), .ref (ra ad p1)].toArray s 0 0 (ww_A 46 ad)) (F0 m 118 ls [])) → ∀ (n : Nat) (x4 : Int32) (M : Fin 20 → Nat → Int32) (H : Heap) (locs : List Loc) (ls : Array Slot), va_P D vwCl (ww 46 ad (cellC cI cR ad M E P C N)) H → va_S (ww_A 46 ad) s.heap H locs → lv_has ls 8 [(0, .ref (ad 41)), (1, .ref (ra ad x1)), (2, .ref (ra ad x2)), (3, .int x3), (4, .int x4)] →  f_X1_divide_l18 k18 fu E x1 x2 x3 n x4 M = some res → W p l e (headSpec wsX1_divide { frames := 1, cells := 0, slots := 0, locals := 34 }).room s m [.ref (ad 41), .ref (ra ad p0), .ref (ra ad p1)].toArray below meth c H locs 0 0 (MQ below (ct_Q D (ww 46 ad (cellC cI cR ad res E P C N)) (ww_A 46 ad) (none)) [.ref (ad 41), .ref (ra ad p0), .ref (ra ad p1)].toArray s 0 0 (ww_A 46 ad)) (F0 m 18 ls []) := by
    intro x1 x2 x3 k18 hk_18 n
    induction n with
    | zero => intro x4 M H locs ls hP hS hl hf; rw [f_X1_divide_l18] at hf; cases hf
    | succ n ih =>
      intro x4 M H locs ls hP hS hl hf
      rw [f_X1_divide_l18] at hf
      refine lv_iload_n hx hb dX1_divide_18 rfl (lv_at hl 3 rfl) ?_
      refine lv_if_lt (tgt := 118) hx hb dX1_divide_19 (by decide) (fun c7 => ?_) (fun c7 => ?_)
      · rw [if_pos c7] at hf
        exact hk_18 x4 M _ _ _ hP hS (lv_sub hl [0, 1, 2, 3, 4] rfl) hf
      · rw [if_neg c7] at hf
        refine lv_iload hx hb dX1_divide_22 (lv_at hl 4 rfl) ?_
        refine lv_iload_n hx hb dX1_divide_24 rfl (lv_at hl 3 rfl) ?_
        refine lv_icmp_lt (tgt := 118) hx hb dX1_divide_25 (by decide) (fun c8 => ?_) (fun c8 => ?_)
        · rw [if_pos c8] at hf
          exact hk_18 x4 M _ _ _ hP hS (lv_sub hl [0, 1, 2, 3, 4] rfl) hf
        · rw [if_neg c8] at hf
          refine lv_aload_n hx hb dX1_divide_28 rfl (lv_at hl 1 rfl) ?_
          refine lv_iload hx hb dX1_divide_29 (lv_at hl 4 rfl) ?_
          obtain ⟨u9, g10, hf⟩ := Option.bind_eq_some_iff.mp hf
          try dsimp only at hf
          refine ct_call (va_runV (As := [.int x4]) (rest := []) ⟨hx, hb, hml, hown, hts⟩ (C_X2_get l D tys nw hn hnw hj htI htR (res := u9) g10) (cwV 1 hts gX1_divide_X2_get rfl rfl rfl (by decide +kernel) ⟨Nat.le_of_ble_eq_true rfl, Nat.le_of_ble_eq_true rfl⟩) (ct_preV hn hP hK hN (ci := 2) (k := (20 + (x1).val)) rfl (ra_lt x1) (cl_row x1)) rfl rfl hl.1 rfl (lv_room (Nat.le_of_ble_eq_true rfl)) dX1_divide_31 ⟨Nat.zero_le _, Nat.zero_le _⟩) hS (fun H locs hP hS => ?_)
          refine lv_istore (lv' := [(5, .int u9), (0, .ref (ad 41)), (1, .ref (ra ad x1)), (2, .ref (ra ad x2)), (3, .int x3), (4, .int x4)]) hx hb dX1_divide_34 hl (by decide) rfl (fun ls hl => ?_)
          refine lv_aload_n hx hb dX1_divide_36 rfl (lv_at hl 1 rfl) ?_
          refine va_get (ci := 1) (v := .ref (ra ad (2 : Fin 20))) (C := RX1) (T := TX1) (N := 11) hx hb hts (by decide +kernel) hown hK hP 41 cc_ring rfl 2 (by decide) (hts (.fieldLink RX1 25 "NumberFieldFactors$Ring" "quotient" "LNumberFieldFactors$Row;") (by decide +kernel)) (fun _ h9 => h9) rfl dX1_divide_37 ?_
          refine lv_iload hx hb dX1_divide_40 (lv_at hl 5 rfl) ?_
          refine lv_iload_n hx hb dX1_divide_42 rfl (lv_at hl 4 rfl) ?_
          refine lv_isub hx hb dX1_divide_43 ?_
          refine lv_iload hx hb dX1_divide_44 (lv_at hl 0 rfl) ?_
          obtain ⟨u11, g12, hf⟩ := Option.bind_eq_some_iff.mp hf
          try dsimp only at hf
          refine ct_call (va_runV (As := [.int (x4 - x3), .int u9]) (rest := []) ⟨hx, hb, hml, hown, hts⟩ (C_X2_set l D tys nw hn hnw hj htI htR (res := u11) g12) (cwV 2 hts gX1_divide_X2_set rfl rfl rfl (by decide +kernel) ⟨Nat.le_of_ble_eq_true rfl, Nat.le_of_ble_eq_true rfl⟩) (ct_preV hn hP hK hN (ci := 2) (k := (20 + ((2 : Fin 20)).val)) rfl (ra_lt (2 : Fin 20)) (cl_row (2 : Fin 20))) rfl rfl hl.1 rfl (lv_room (Nat.le_of_ble_eq_true rfl)) dX1_divide_46 ⟨Nat.zero_le _, Nat.zero_le _⟩) hS (fun H locs hP hS => ?_)
          refine lv_iconst (v := 0) hx hb dX1_divide_49 (by decide) ?_
          refine lv_istore (lv' := [(6, .int 0), (5, .int u9), (0, .ref (ad 41)), (1, .ref (ra ad x1)), (2, .ref (ra ad x2)), (3, .int x3), (4, .int x4)]) hx hb dX1_divide_50 hl (by decide) rfl (fun ls hl => ?_)
          refine L52 x1 x2 x3 x4 u9 _ (fun y26 M27 H locs ls hP hS hl hf => ?_) fu 0 u11 _ _ _ hP hS (lv_sub hl [2, 3, 4, 5, 6, 1, 0] rfl) hf
          try dsimp only at hf
          refine lv_iinc (v := x4 + (-1)) (lv' := [(4, .int (x4 + (-1))), (0, .ref (ad 41)), (1, .ref (ra ad x1)), (2, .ref (ra ad x2)), (3, .int x3), (5, .int u9), (6, .int y26)]) hx hb dX1_divide_112 hl (k := 4) rfl rfl (by decide) rfl (fun ls hl => ?_)
          refine lv_goto (tgt := 18) hx hb dX1_divide_115 (by decide) ?_
          exact ih (x4 + (-1)) M27 _ _ _ hP hS (lv_sub hl [1, 2, 3, 4, 0] rfl) hf
  unfold f_X1_divide at hf
  refine lv_aload_n hx hb dX1_divide_0 rfl (lv_at hl 2 rfl) ?_
  obtain ⟨u1, g2, hf⟩ := Option.bind_eq_some_iff.mp hf
  try dsimp only at hf
  refine ct_call (va_runV (As := []) (rest := []) ⟨hx, hb, hml, hown, hts⟩ (C_X2_degree l D tys nw hn hnw hj htI htR (res := u1) g2) (cwV 0 hts gX1_divide_X2_degree rfl rfl rfl (by decide +kernel) ⟨Nat.le_of_ble_eq_true rfl, Nat.le_of_ble_eq_true rfl⟩) (ct_preV hn hP hK hN (ci := 2) (k := (20 + (p1).val)) rfl (ra_lt p1) (cl_row p1)) rfl rfl hl.1 rfl (lv_room (Nat.le_of_ble_eq_true rfl)) dX1_divide_1 ⟨Nat.zero_le _, Nat.zero_le _⟩) hS (fun H locs hP hS => ?_)
  refine lv_istore_n (lv' := [(3, .int u1), (0, .ref (ad 41)), (1, .ref (ra ad p0)), (2, .ref (ra ad p1))]) hx hb dX1_divide_4 rfl hl (by decide) rfl (fun ls hl => ?_)
  refine lv_aload_n hx hb dX1_divide_5 rfl (lv_at hl 1 rfl) ?_
  refine va_get (ci := 1) (v := .ref (ra ad (2 : Fin 20))) (C := RX1) (T := TX1) (N := 11) hx hb hts (by decide +kernel) hown hK hP 41 cc_ring rfl 2 (by decide) (hts (.fieldLink RX1 25 "NumberFieldFactors$Ring" "quotient" "LNumberFieldFactors$Row;") (by decide +kernel)) (fun _ h9 => h9) rfl dX1_divide_6 ?_
  obtain ⟨u3, g4, hf⟩ := Option.bind_eq_some_iff.mp hf
  try dsimp only at hf
  refine ct_call (va_runV (As := []) (rest := []) ⟨hx, hb, hml, hown, hts⟩ (C_X2_clear l D tys nw hn hnw hj htI htR (res := u3) g4) (cwV 0 hts gX1_divide_X2_clear rfl rfl rfl (by decide +kernel) ⟨Nat.le_of_ble_eq_true rfl, Nat.le_of_ble_eq_true rfl⟩) (ct_preV hn hP hK hN (ci := 2) (k := (20 + ((2 : Fin 20)).val)) rfl (ra_lt (2 : Fin 20)) (cl_row (2 : Fin 20))) rfl rfl hl.1 rfl (lv_room (Nat.le_of_ble_eq_true rfl)) dX1_divide_9 ⟨Nat.zero_le _, Nat.zero_le _⟩) hS (fun H locs hP hS => ?_)
  refine lv_aload_n hx hb dX1_divide_12 rfl (lv_at hl 2 rfl) ?_
  obtain ⟨u5, g6, hf⟩ := Option.bind_eq_some_iff.mp hf
  try dsimp only at hf
  refine ct_call (va_runV (As := []) (rest := []) ⟨hx, hb, hml, hown, hts⟩ (C_X2_degree l D tys nw hn hnw hj htI htR (res := u5) g6) (cwV 0 hts gX1_divide_X2_degree rfl rfl rfl (by decide +kernel) ⟨Nat.le_of_ble_eq_true rfl, Nat.le_of_ble_eq_true rfl⟩) (ct_preV hn hP hK hN (ci := 2) (k := (20 + (p0).val)) rfl (ra_lt p0) (cl_row p0)) rfl rfl hl.1 rfl (lv_room (Nat.le_of_ble_eq_true rfl)) dX1_divide_13 ⟨Nat.zero_le _, Nat.zero_le _⟩) hS (fun H locs hP hS => ?_)
  refine lv_istore (lv' := [(4, .int u5), (3, .int u1), (0, .ref (ad 41)), (1, .ref (ra ad p0)), (2, .ref (ra ad p1))]) hx hb dX1_divide_16 hl (by decide) rfl (fun ls hl => ?_)
  refine L18 p0 p1 u1 _ (fun y28 M29 H locs ls hP hS hl hf => ?_) fu u5 u3 _ _ _ hP hS (lv_sub hl [2, 3, 4, 1, 0] rfl) hf
  try dsimp only at hf
  obtain rfl := Option.some.inj hf
  exact W.vret hx hb hr (fun t ht hW => ⟨rfl, by rw [ht]; exact hP, hS.F ht⟩) hS.2.2 dX1_divide_118
def f_X1_makeMonic_l43 (k43 : Int32 → (Fin 20 → Nat → Int32) → Option ((Fin 20 → Nat → Int32))) (fu : Nat) (E : Nat → Int32) (x1 : Fin 20) (x2 : Int32) (x3 : Int32) (x4 : Int32) : Nat → Int32 → (Fin 20 → Nat → Int32) → Option ((Fin 20 → Nat → Int32))
  | 0, _, _ => none
  | n + 1, x5, M =>
    if x2 < x5 then
      k43 x5 M
    else
      (f_X2_get M x1 x5).bind (fun u10 =>
      (f_X0_times E u10 x4).bind (fun u12 =>
      (f_X2_set M x1 x5 u12).bind (fun u14 =>
      f_X1_makeMonic_l43 k43 fu E x1 x2 x3 x4 n (x5 + 1) u14)))
def f_X1_makeMonic (fu : Nat) (M : Fin 20 → Nat → Int32) (E : Nat → Int32) (p0 : Fin 20) : Option ((Fin 20 → Nat → Int32)) :=
  (f_X2_degree fu M p0).bind (fun u1 =>
  (f_X2_get M p0 u1).bind (fun u3 =>
  if u3 = 0 then
    some M
  else
    if u3 = 1 then
      some M
    else
      (f_X0_power fu E u3 ((E 1) - 2)).bind (fun u7 =>
      f_X1_makeMonic_l43 (fun y16 M17 =>
        some M17) fu E p0 u1 u3 u7 fu 0 M)))
set_option maxHeartbeats 4000000 in
set_option maxRecDepth 100000 in
theorem C_X1_makeMonic (l : Launch) (D : va_G) (tys : List (ClassId × FieldType)) (nw : List Cond) (hn : nw.all nw_kind = true) (hnw : ∀ w ∈ nw0, w ∈ nw) {ad : Nat → Nat} (hj : ww_inj 46 ad) {cI : ClassId} {cR : ClassId} (htI : tys[0]? = some (cI, .int)) (htR : tys[1]? = some (cR, .object RX2)) {fu : Nat} {M : Fin 20 → Nat → Int32} {E : Nat → Int32} {P : Nat → Fin 20} {C : Nat → Int32} {N : Nat → Int32} {p0 : Fin 20} {res : (Fin 20 → Nat → Int32)} (hf : f_X1_makeMonic fu M E p0 = some res) :
    Met l yX1_makeMonic wsX1_makeMonic ({ frames := 2, cells := 0, slots := 0, locals := 59 }) (va_Pc [.ref (ad 41), .ref (ra ad p0)] (ws_B D tys nw (ww 46 ad (cellC cI cR ad M E P C N)))) (ct_Q D (ww 46 ad (cellC cI cR ad res E P C N)) (ww_A 46 ad) (none)) 0 0 (ww_A 46 ad) := by
  refine Met.ofW (cc := cX1_makeMonic) (maxL := 6) (ret := none) (by decide) rfl ?_
  intro p e s m args below meth c s₁ B hml hv
  obtain ⟨rfl, hP, hK, hN⟩ := hv
  have hx := B.exec
  have hb := B.bytes
  have hr := B.returns
  have hts := atoms_spec (ws := wsX1_makeMonic) B.pre
  have hown : s.vm.findClass RX1 = some m.cls := findClass_of_methodNamed B.named
  have hlocks := B.notSynchronized
  have hS : va_S (ww_A 46 ad) s.heap s.heap [] := va_S.rf
  have hl := lv_entry ([.ref (ad 41), .ref (ra ad p0)]) (n := 6) (Nat.le_of_ble_eq_true rfl)
  rw [lg_entry_eq]
  generalize (lg_sl ([.ref (ad 41), .ref (ra ad p0)]) ++ List.replicate (6 - (lg_sl ([.ref (ad 41), .ref (ra ad p0)])).length) Slot.unset).toArray = ls at hl ⊢
  have hl : lv_has ls 6 [(0, .ref (ad 41)), (1, .ref (ra ad p0))] := hl
  have L43 : ∀ (x1 : Fin 20) (x2 : Int32) (x3 : Int32) (x4 : Int32) (k43 : Int32 → (Fin 20 → Nat → Int32) → Option ((Fin 20 → Nat → Int32))), (∀ (x5 : Int32) (M : Fin 20 → Nat → Int32) (H : Heap) (locs : List Loc) (ls : Array Slot), va_P D vwCl (ww 46 ad (cellC cI cR ad M E P C N)) H → va_S (ww_A 46 ad) s.heap H locs → lv_has ls 6 [(0, .ref (ad 41)), (1, .ref (ra ad x1)), (2, .int x2), (3, .int x3), (4, .int x4), (5, .int x5)] →  k43 x5 M = some res → W p l e (headSpec wsX1_makeMonic { frames := 2, cells := 0, slots := 0, locals := 59 }).room s m [.ref (ad 41), .ref (ra ad p0)].toArray below meth c H locs 0 0 (MQ below (ct_Q D (ww 46 ad (cellC cI cR ad res E P C N)) (ww_A 46 ad) (none)) [.ref (ad 41), .ref (ra ad p0)].toArray s 0 0 (ww_A 46 ad)) (F0 m 76 ls [])) → ∀ (n : Nat) (x5 : Int32) (M : Fin 20 → Nat → Int32) (H : Heap) (locs : List Loc) (ls : Array Slot), va_P D vwCl (ww 46 ad (cellC cI cR ad M E P C N)) H → va_S (ww_A 46 ad) s.heap H locs → lv_has ls 6 [(0, .ref (ad 41)), (1, .ref (ra ad x1)), (2, .int x2), (3, .int x3), (4, .int x4), (5, .int x5)] →  f_X1_makeMonic_l43 k43 fu E x1 x2 x3 x4 n x5 M = some res → W p l e (headSpec wsX1_makeMonic { frames := 2, cells := 0, slots := 0, locals := 59 }).room s m [.ref (ad 41), .ref (ra ad p0)].toArray below meth c H locs 0 0 (MQ below (ct_Q D (ww 46 ad (cellC cI cR ad res E P C N)) (ww_A 46 ad) (none)) [.ref (ad 41), .ref (ra ad p0)].toArray s 0 0 (ww_A 46 ad)) (F0 m 43 ls []) := by
    intro x1 x2 x3 x4 k43 hk_43 n
    induction n with
    | zero => intro x5 M H locs ls hP hS hl hf; rw [f_X1_makeMonic_l43] at hf; cases hf
    | succ n ih =>
      intro x5 M H locs ls hP hS hl hf
      rw [f_X1_makeMonic_l43] at hf
      refine lv_iload hx hb dX1_makeMonic_43 (lv_at hl 5 rfl) ?_
      refine lv_iload_n hx hb dX1_makeMonic_45 rfl (lv_at hl 2 rfl) ?_
      refine lv_icmp_gt (tgt := 76) hx hb dX1_makeMonic_46 (by decide) (fun c9 => ?_) (fun c9 => ?_)
      · rw [if_pos c9] at hf
        exact hk_43 x5 M _ _ _ hP hS (lv_sub hl [0, 1, 2, 3, 4, 5] rfl) hf
      · rw [if_neg c9] at hf
        refine lv_aload_n hx hb dX1_makeMonic_49 rfl (lv_at hl 1 rfl) ?_
        refine lv_iload hx hb dX1_makeMonic_50 (lv_at hl 5 rfl) ?_
        refine lv_aload_n hx hb dX1_makeMonic_52 rfl (lv_at hl 0 rfl) ?_
        refine va_get (ci := 1) (v := .ref (ad 40)) (C := RX1) (T := TX1) (N := 11) hx hb hts (by decide +kernel) hown hK hP 41 cc_ring rfl 0 (by decide) (hts (.fieldLink RX1 12 "NumberFieldFactors$Ring" "extension" "LNumberFieldFactors$Extension;") (by decide +kernel)) (fun _ h9 => h9) rfl dX1_makeMonic_53 ?_
        refine lv_aload_n hx hb dX1_makeMonic_56 rfl (lv_at hl 1 rfl) ?_
        refine lv_iload hx hb dX1_makeMonic_57 (lv_at hl 5 rfl) ?_
        obtain ⟨u10, g11, hf⟩ := Option.bind_eq_some_iff.mp hf
        try dsimp only at hf
        refine ct_call (va_runV (As := [.int x5]) (rest := [.ref (ad 40), .int x5, .ref (ra ad x1)]) ⟨hx, hb, hml, hown, hts⟩ (C_X2_get l D tys nw hn hnw hj htI htR (res := u10) g11) (cwV 1 hts gX1_makeMonic_X2_get rfl rfl rfl (by decide +kernel) ⟨Nat.le_of_ble_eq_true rfl, Nat.le_of_ble_eq_true rfl⟩) (ct_preV hn hP hK hN (ci := 2) (k := (20 + (x1).val)) rfl (ra_lt x1) (cl_row x1)) rfl rfl hl.1 rfl (lv_room (Nat.le_of_ble_eq_true rfl)) dX1_makeMonic_59 ⟨Nat.zero_le _, Nat.zero_le _⟩) hS (fun H locs hP hS => ?_)
        refine lv_iload hx hb dX1_makeMonic_62 (lv_at hl 4 rfl) ?_
        obtain ⟨u12, g13, hf⟩ := Option.bind_eq_some_iff.mp hf
        try dsimp only at hf
        refine ct_call (va_runV (As := [.int u10, .int x4]) (rest := [.int x5, .ref (ra ad x1)]) ⟨hx, hb, hml, hown, hts⟩ (C_X0_times l D tys nw hn hnw hj htI htR (res := u12) g13) (cwV 2 hts gX1_makeMonic_X0_times rfl rfl rfl (by decide +kernel) ⟨Nat.le_of_ble_eq_true rfl, Nat.le_of_ble_eq_true rfl⟩) (ct_preV hn hP hK hN (ci := 0) (k := 40) rfl (by decide) rfl) rfl rfl hl.1 rfl (lv_room (Nat.le_of_ble_eq_true rfl)) dX1_makeMonic_64 ⟨Nat.zero_le _, Nat.zero_le _⟩) hS (fun H locs hP hS => ?_)
        obtain ⟨u14, g15, hf⟩ := Option.bind_eq_some_iff.mp hf
        try dsimp only at hf
        refine ct_call (va_runV (As := [.int x5, .int u12]) (rest := []) ⟨hx, hb, hml, hown, hts⟩ (C_X2_set l D tys nw hn hnw hj htI htR (res := u14) g15) (cwV 2 hts gX1_makeMonic_X2_set rfl rfl rfl (by decide +kernel) ⟨Nat.le_of_ble_eq_true rfl, Nat.le_of_ble_eq_true rfl⟩) (ct_preV hn hP hK hN (ci := 2) (k := (20 + (x1).val)) rfl (ra_lt x1) (cl_row x1)) rfl rfl hl.1 rfl (lv_room (Nat.le_of_ble_eq_true rfl)) dX1_makeMonic_67 ⟨Nat.zero_le _, Nat.zero_le _⟩) hS (fun H locs hP hS => ?_)
        refine lv_iinc (v := x5 + 1) (lv' := [(5, .int (x5 + 1)), (0, .ref (ad 41)), (1, .ref (ra ad x1)), (2, .int x2), (3, .int x3), (4, .int x4)]) hx hb dX1_makeMonic_70 hl (k := 5) rfl rfl (by decide) rfl (fun ls hl => ?_)
        refine lv_goto (tgt := 43) hx hb dX1_makeMonic_73 (by decide) ?_
        exact ih (x5 + 1) u14 _ _ _ hP hS (lv_sub hl [1, 2, 3, 4, 5, 0] rfl) hf
  unfold f_X1_makeMonic at hf
  refine lv_aload_n hx hb dX1_makeMonic_0 rfl (lv_at hl 1 rfl) ?_
  obtain ⟨u1, g2, hf⟩ := Option.bind_eq_some_iff.mp hf
  try dsimp only at hf
  refine ct_call (va_runV (As := []) (rest := []) ⟨hx, hb, hml, hown, hts⟩ (C_X2_degree l D tys nw hn hnw hj htI htR (res := u1) g2) (cwV 0 hts gX1_makeMonic_X2_degree rfl rfl rfl (by decide +kernel) ⟨Nat.le_of_ble_eq_true rfl, Nat.le_of_ble_eq_true rfl⟩) (ct_preV hn hP hK hN (ci := 2) (k := (20 + (p0).val)) rfl (ra_lt p0) (cl_row p0)) rfl rfl hl.1 rfl (lv_room (Nat.le_of_ble_eq_true rfl)) dX1_makeMonic_1 ⟨Nat.zero_le _, Nat.zero_le _⟩) hS (fun H locs hP hS => ?_)
  refine lv_istore_n (lv' := [(2, .int u1), (0, .ref (ad 41)), (1, .ref (ra ad p0))]) hx hb dX1_makeMonic_4 rfl hl (by decide) rfl (fun ls hl => ?_)
  refine lv_aload_n hx hb dX1_makeMonic_5 rfl (lv_at hl 2 rfl) ?_
  refine lv_iload_n hx hb dX1_makeMonic_6 rfl (lv_at hl 0 rfl) ?_
  obtain ⟨u3, g4, hf⟩ := Option.bind_eq_some_iff.mp hf
  try dsimp only at hf
  refine ct_call (va_runV (As := [.int u1]) (rest := []) ⟨hx, hb, hml, hown, hts⟩ (C_X2_get l D tys nw hn hnw hj htI htR (res := u3) g4) (cwV 1 hts gX1_makeMonic_X2_get rfl rfl rfl (by decide +kernel) ⟨Nat.le_of_ble_eq_true rfl, Nat.le_of_ble_eq_true rfl⟩) (ct_preV hn hP hK hN (ci := 2) (k := (20 + (p0).val)) rfl (ra_lt p0) (cl_row p0)) rfl rfl hl.1 rfl (lv_room (Nat.le_of_ble_eq_true rfl)) dX1_makeMonic_7 ⟨Nat.zero_le _, Nat.zero_le _⟩) hS (fun H locs hP hS => ?_)
  refine lv_istore_n (lv' := [(3, .int u3), (2, .int u1), (0, .ref (ad 41)), (1, .ref (ra ad p0))]) hx hb dX1_makeMonic_10 rfl hl (by decide) rfl (fun ls hl => ?_)
  refine lv_iload_n hx hb dX1_makeMonic_11 rfl (lv_at hl 0 rfl) ?_
  refine lv_if_eq (tgt := 20) hx hb dX1_makeMonic_12 (by decide) (fun c5 => ?_) (fun c5 => ?_)
  · rw [if_pos c5] at hf
    obtain rfl := Option.some.inj hf
    exact W.vret hx hb hr (fun t ht hW => ⟨rfl, by rw [ht]; exact hP, hS.F ht⟩) hS.2.2 dX1_makeMonic_20
  · rw [if_neg c5] at hf
    refine lv_iload_n hx hb dX1_makeMonic_15 rfl (lv_at hl 0 rfl) ?_
    refine lv_iconst (v := 1) hx hb dX1_makeMonic_16 (by decide) ?_
    refine lv_icmp_ne (tgt := 21) hx hb dX1_makeMonic_17 (by decide) (fun c6 => ?_) (fun c6 => ?_)
    · rw [if_neg c6] at hf
      refine lv_aload_n hx hb dX1_makeMonic_21 rfl (lv_at hl 2 rfl) ?_
      refine va_get (ci := 1) (v := .ref (ad 40)) (C := RX1) (T := TX1) (N := 11) hx hb hts (by decide +kernel) hown hK hP 41 cc_ring rfl 0 (by decide) (hts (.fieldLink RX1 12 "NumberFieldFactors$Ring" "extension" "LNumberFieldFactors$Extension;") (by decide +kernel)) (fun _ h9 => h9) rfl dX1_makeMonic_22 ?_
      refine lv_iload_n hx hb dX1_makeMonic_25 rfl (lv_at hl 0 rfl) ?_
      refine lv_aload_n hx hb dX1_makeMonic_26 rfl (lv_at hl 2 rfl) ?_
      refine va_get (ci := 1) (v := .ref (ad 40)) (C := RX1) (T := TX1) (N := 11) hx hb hts (by decide +kernel) hown hK hP 41 cc_ring rfl 0 (by decide) (hts (.fieldLink RX1 12 "NumberFieldFactors$Ring" "extension" "LNumberFieldFactors$Extension;") (by decide +kernel)) (fun _ h9 => h9) rfl dX1_makeMonic_27 ?_
      refine va_getN (ci := 0) (v := .int (E 1)) (C := RX0) (T := TX0) (N := 8) (host := "NumberFieldFactors") hx hb hts (by decide +kernel) hown hK hP 40 cc_ext rfl 1 (by decide) (va_Nw.use rfl (hN (.fieldLinkNest RX1 81 "NumberFieldFactors$Extension" "size" "I" "NumberFieldFactors") (hnw _ (by decide +kernel)))) (fun _ h9 => h9) rfl dX1_makeMonic_30 ?_
      refine lv_iconst (v := 2) hx hb dX1_makeMonic_33 (by decide) ?_
      refine lv_isub hx hb dX1_makeMonic_34 ?_
      obtain ⟨u7, g8, hf⟩ := Option.bind_eq_some_iff.mp hf
      try dsimp only at hf
      refine ct_call (va_runV (As := [.int u3, .int ((E 1) - 2)]) (rest := []) ⟨hx, hb, hml, hown, hts⟩ (C_X0_power l D tys nw hn hnw hj htI htR (res := u7) g8) (cwV 2 hts gX1_makeMonic_X0_power rfl rfl rfl (by decide +kernel) ⟨Nat.le_of_ble_eq_true rfl, Nat.le_of_ble_eq_true rfl⟩) (ct_preV hn hP hK hN (ci := 0) (k := 40) rfl (by decide) rfl) rfl rfl hl.1 rfl (lv_room (Nat.le_of_ble_eq_true rfl)) dX1_makeMonic_35 ⟨Nat.zero_le _, Nat.zero_le _⟩) hS (fun H locs hP hS => ?_)
      refine lv_istore (lv' := [(4, .int u7), (3, .int u3), (2, .int u1), (0, .ref (ad 41)), (1, .ref (ra ad p0))]) hx hb dX1_makeMonic_38 hl (by decide) rfl (fun ls hl => ?_)
      refine lv_iconst (v := 0) hx hb dX1_makeMonic_40 (by decide) ?_
      refine lv_istore (lv' := [(5, .int 0), (4, .int u7), (3, .int u3), (2, .int u1), (0, .ref (ad 41)), (1, .ref (ra ad p0))]) hx hb dX1_makeMonic_41 hl (by decide) rfl (fun ls hl => ?_)
      refine L43 p0 u1 u3 u7 _ (fun y16 M17 H locs ls hP hS hl hf => ?_) fu 0 M _ _ _ hP hS (lv_sub hl [4, 5, 3, 2, 1, 0] rfl) hf
      try dsimp only at hf
      obtain rfl := Option.some.inj hf
      exact W.vret hx hb hr (fun t ht hW => ⟨rfl, by rw [ht]; exact hP, hS.F ht⟩) hS.2.2 dX1_makeMonic_76
    · rw [if_pos c6] at hf
      obtain rfl := Option.some.inj hf
      exact W.vret hx hb hr (fun t ht hW => ⟨rfl, by rw [ht]; exact hP, hS.F ht⟩) hS.2.2 dX1_makeMonic_20
def f_X1_findCommon_l31 (k31 : Fin 20 → Fin 20 → Int32 → (Fin 20 → Nat → Int32) → Option ((Fin 20 → Nat → Int32))) (fu : Nat) (E : Nat → Int32) (x1 : Fin 20) (x2 : Fin 20) (x3 : Fin 20) : Nat → Fin 20 → Fin 20 → Int32 → (Fin 20 → Nat → Int32) → Option ((Fin 20 → Nat → Int32))
  | 0, _, _, _, _ => none
  | n + 1, x4, x5, x6, M =>
    if 17 < x6 then
      k31 x4 x5 x6 M
    else
      (f_X2_degree fu M x5).bind (fun u6 =>
      if u6 < 0 then
        k31 x4 x5 x6 M
      else
        (f_X1_makeMonic fu M E x5).bind (fun u9 =>
        (f_X1_divide fu u9 E x4 x5).bind (fun u11 =>
        f_X1_findCommon_l31 k31 fu E x1 x2 x3 n x5 x4 (x6 + 1) u11)))
def f_X1_findCommon (fu : Nat) (M : Fin 20 → Nat → Int32) (E : Nat → Int32) (p0 : Fin 20) (p1 : Fin 20) (p2 : Fin 20) : Option ((Fin 20 → Nat → Int32)) :=
  (f_X2_copy fu M (3 : Fin 20) p0).bind (fun u1 =>
  (f_X2_copy fu u1 (4 : Fin 20) p1).bind (fun u3 =>
  f_X1_findCommon_l31 (fun y13 y14 y15 M16 =>
    (f_X1_makeMonic fu M16 E y13).bind (fun u17 =>
    (f_X2_copy fu u17 p2 y13).bind (fun u19 =>
    some u19))) fu E p0 p1 p2 fu (3 : Fin 20) (4 : Fin 20) 0 u3))
set_option maxHeartbeats 4000000 in
set_option maxRecDepth 100000 in
theorem C_X1_findCommon (l : Launch) (D : va_G) (tys : List (ClassId × FieldType)) (nw : List Cond) (hn : nw.all nw_kind = true) (hnw : ∀ w ∈ nw0, w ∈ nw) {ad : Nat → Nat} (hj : ww_inj 46 ad) {cI : ClassId} {cR : ClassId} (htI : tys[0]? = some (cI, .int)) (htR : tys[1]? = some (cR, .object RX2)) {fu : Nat} {M : Fin 20 → Nat → Int32} {E : Nat → Int32} {P : Nat → Fin 20} {C : Nat → Int32} {N : Nat → Int32} {p0 : Fin 20} {p1 : Fin 20} {p2 : Fin 20} {res : (Fin 20 → Nat → Int32)} (hf : f_X1_findCommon fu M E p0 p1 p2 = some res) :
    Met l yX1_findCommon wsX1_findCommon ({ frames := 3, cells := 0, slots := 0, locals := 84 }) (va_Pc [.ref (ad 41), .ref (ra ad p0), .ref (ra ad p1), .ref (ra ad p2)] (ws_B D tys nw (ww 46 ad (cellC cI cR ad M E P C N)))) (ct_Q D (ww 46 ad (cellC cI cR ad res E P C N)) (ww_A 46 ad) (none)) 0 0 (ww_A 46 ad) := by
  refine Met.ofW (cc := cX1_findCommon) (maxL := 8) (ret := none) (by decide) rfl ?_
  intro p e s m args below meth c s₁ B hml hv
  obtain ⟨rfl, hP, hK, hN⟩ := hv
  have hx := B.exec
  have hb := B.bytes
  have hr := B.returns
  have hts := atoms_spec (ws := wsX1_findCommon) B.pre
  have hown : s.vm.findClass RX1 = some m.cls := findClass_of_methodNamed B.named
  have hlocks := B.notSynchronized
  have hS : va_S (ww_A 46 ad) s.heap s.heap [] := va_S.rf
  have hl := lv_entry ([.ref (ad 41), .ref (ra ad p0), .ref (ra ad p1), .ref (ra ad p2)]) (n := 8) (Nat.le_of_ble_eq_true rfl)
  rw [lg_entry_eq]
  generalize (lg_sl ([.ref (ad 41), .ref (ra ad p0), .ref (ra ad p1), .ref (ra ad p2)]) ++ List.replicate (8 - (lg_sl ([.ref (ad 41), .ref (ra ad p0), .ref (ra ad p1), .ref (ra ad p2)])).length) Slot.unset).toArray = ls at hl ⊢
  have hl : lv_has ls 8 [(0, .ref (ad 41)), (1, .ref (ra ad p0)), (2, .ref (ra ad p1)), (3, .ref (ra ad p2))] := hl
  have L31 : ∀ (x1 : Fin 20) (x2 : Fin 20) (x3 : Fin 20) (k31 : Fin 20 → Fin 20 → Int32 → (Fin 20 → Nat → Int32) → Option ((Fin 20 → Nat → Int32))), (∀ (x4 : Fin 20) (x5 : Fin 20) (x6 : Int32) (M : Fin 20 → Nat → Int32) (H : Heap) (locs : List Loc) (ls : Array Slot), va_P D vwCl (ww 46 ad (cellC cI cR ad M E P C N)) H → va_S (ww_A 46 ad) s.heap H locs → lv_has ls 8 [(0, .ref (ad 41)), (1, .ref (ra ad x1)), (2, .ref (ra ad x2)), (3, .ref (ra ad x3)), (4, .ref (ra ad x4)), (5, .ref (ra ad x5)), (6, .int x6)] →  k31 x4 x5 x6 M = some res → W p l e (headSpec wsX1_findCommon { frames := 3, cells := 0, slots := 0, locals := 84 }).room s m [.ref (ad 41), .ref (ra ad p0), .ref (ra ad p1), .ref (ra ad p2)].toArray below meth c H locs 0 0 (MQ below (ct_Q D (ww 46 ad (cellC cI cR ad res E P C N)) (ww_A 46 ad) (none)) [.ref (ad 41), .ref (ra ad p0), .ref (ra ad p1), .ref (ra ad p2)].toArray s 0 0 (ww_A 46 ad)) (F0 m 78 ls [])) → ∀ (n : Nat) (x4 : Fin 20) (x5 : Fin 20) (x6 : Int32) (M : Fin 20 → Nat → Int32) (H : Heap) (locs : List Loc) (ls : Array Slot), va_P D vwCl (ww 46 ad (cellC cI cR ad M E P C N)) H → va_S (ww_A 46 ad) s.heap H locs → lv_has ls 8 [(0, .ref (ad 41)), (1, .ref (ra ad x1)), (2, .ref (ra ad x2)), (3, .ref (ra ad x3)), (4, .ref (ra ad x4)), (5, .ref (ra ad x5)), (6, .int x6)] →  f_X1_findCommon_l31 k31 fu E x1 x2 x3 n x4 x5 x6 M = some res → W p l e (headSpec wsX1_findCommon { frames := 3, cells := 0, slots := 0, locals := 84 }).room s m [.ref (ad 41), .ref (ra ad p0), .ref (ra ad p1), .ref (ra ad p2)].toArray below meth c H locs 0 0 (MQ below (ct_Q D (ww 46 ad (cellC cI cR ad res E P C N)) (ww_A 46 ad) (none)) [.ref (ad 41), .ref (ra ad p0), .ref (ra ad p1), .ref (ra ad p2)].toArray s 0 0 (ww_A 46 ad)) (F0 m 31 ls []) := by
    intro x1 x2 x3 k31 hk_31 n
    induction n with
    | zero => intro x4 x5 x6 M H locs ls hP hS hl hf; rw [f_X1_findCommon_l31] at hf; cases hf
    | succ n ih =>
      intro x4 x5 x6 M H locs ls hP hS hl hf
      rw [f_X1_findCommon_l31] at hf
      refine lv_iload hx hb dX1_findCommon_31 (lv_at hl 6 rfl) ?_
      refine lv_bipush (v := 17) hx hb dX1_findCommon_33 (by decide) ?_
      refine lv_icmp_gt (tgt := 78) hx hb dX1_findCommon_35 (by decide) (fun c5 => ?_) (fun c5 => ?_)
      · rw [if_pos c5] at hf
        exact hk_31 x4 x5 x6 M _ _ _ hP hS (lv_sub hl [0, 1, 2, 3, 4, 5, 6] rfl) hf
      · rw [if_neg c5] at hf
        refine lv_aload hx hb dX1_findCommon_38 (lv_at hl 5 rfl) ?_
        obtain ⟨u6, g7, hf⟩ := Option.bind_eq_some_iff.mp hf
        try dsimp only at hf
        refine ct_call (va_runV (As := []) (rest := []) ⟨hx, hb, hml, hown, hts⟩ (C_X2_degree l D tys nw hn hnw hj htI htR (res := u6) g7) (cwV 0 hts gX1_findCommon_X2_degree rfl rfl rfl (by decide +kernel) ⟨Nat.le_of_ble_eq_true rfl, Nat.le_of_ble_eq_true rfl⟩) (ct_preV hn hP hK hN (ci := 2) (k := (20 + (x5).val)) rfl (ra_lt x5) (cl_row x5)) rfl rfl hl.1 rfl (lv_room (Nat.le_of_ble_eq_true rfl)) dX1_findCommon_40 ⟨Nat.zero_le _, Nat.zero_le _⟩) hS (fun H locs hP hS => ?_)
        refine lv_if_lt (tgt := 78) hx hb dX1_findCommon_43 (by decide) (fun c8 => ?_) (fun c8 => ?_)
        · rw [if_pos c8] at hf
          exact hk_31 x4 x5 x6 M _ _ _ hP hS (lv_sub hl [0, 1, 2, 3, 4, 5, 6] rfl) hf
        · rw [if_neg c8] at hf
          refine lv_aload_n hx hb dX1_findCommon_46 rfl (lv_at hl 0 rfl) ?_
          refine lv_aload hx hb dX1_findCommon_47 (lv_at hl 5 rfl) ?_
          obtain ⟨u9, g10, hf⟩ := Option.bind_eq_some_iff.mp hf
          try dsimp only at hf
          refine ct_call (va_runV (As := [.ref (ra ad x5)]) (rest := []) ⟨hx, hb, hml, hown, hts⟩ (C_X1_makeMonic l D tys nw hn hnw hj htI htR (res := u9) g10) (cwV 1 hts gX1_findCommon_X1_makeMonic rfl rfl rfl (by decide +kernel) ⟨Nat.le_of_ble_eq_true rfl, Nat.le_of_ble_eq_true rfl⟩) (ct_preV hn hP hK hN (ci := 1) (k := 41) rfl (by decide) rfl) rfl rfl hl.1 rfl (lv_room (Nat.le_of_ble_eq_true rfl)) dX1_findCommon_49 ⟨Nat.zero_le _, Nat.zero_le _⟩) hS (fun H locs hP hS => ?_)
          refine lv_aload_n hx hb dX1_findCommon_52 rfl (lv_at hl 0 rfl) ?_
          refine lv_aload hx hb dX1_findCommon_53 (lv_at hl 4 rfl) ?_
          refine lv_aload hx hb dX1_findCommon_55 (lv_at hl 5 rfl) ?_
          obtain ⟨u11, g12, hf⟩ := Option.bind_eq_some_iff.mp hf
          try dsimp only at hf
          refine ct_call (va_runV (As := [.ref (ra ad x4), .ref (ra ad x5)]) (rest := []) ⟨hx, hb, hml, hown, hts⟩ (C_X1_divide l D tys nw hn hnw hj htI htR (res := u11) g12) (cwV 2 hts gX1_findCommon_X1_divide rfl rfl rfl (by decide +kernel) ⟨Nat.le_of_ble_eq_true rfl, Nat.le_of_ble_eq_true rfl⟩) (ct_preV hn hP hK hN (ci := 1) (k := 41) rfl (by decide) rfl) rfl rfl hl.1 rfl (lv_room (Nat.le_of_ble_eq_true rfl)) dX1_findCommon_57 ⟨Nat.zero_le _, Nat.zero_le _⟩) hS (fun H locs hP hS => ?_)
          refine lv_aload hx hb dX1_findCommon_60 (lv_at hl 4 rfl) ?_
          refine lv_astore (lv' := [(7, .ref (ra ad x4)), (0, .ref (ad 41)), (1, .ref (ra ad x1)), (2, .ref (ra ad x2)), (3, .ref (ra ad x3)), (4, .ref (ra ad x4)), (5, .ref (ra ad x5)), (6, .int x6)]) hx hb dX1_findCommon_62 hl (by decide) rfl (fun ls hl => ?_)
          refine lv_aload hx hb dX1_findCommon_64 (lv_at hl 6 rfl) ?_
          refine lv_astore (lv' := [(4, .ref (ra ad x5)), (7, .ref (ra ad x4)), (0, .ref (ad 41)), (1, .ref (ra ad x1)), (2, .ref (ra ad x2)), (3, .ref (ra ad x3)), (5, .ref (ra ad x5)), (6, .int x6)]) hx hb dX1_findCommon_66 hl (by decide) rfl (fun ls hl => ?_)
          refine lv_aload hx hb dX1_findCommon_68 (lv_at hl 1 rfl) ?_
          refine lv_astore (lv' := [(5, .ref (ra ad x4)), (4, .ref (ra ad x5)), (7, .ref (ra ad x4)), (0, .ref (ad 41)), (1, .ref (ra ad x1)), (2, .ref (ra ad x2)), (3, .ref (ra ad x3)), (6, .int x6)]) hx hb dX1_findCommon_70 hl (by decide) rfl (fun ls hl => ?_)
          refine lv_iinc (v := x6 + 1) (lv' := [(6, .int (x6 + 1)), (5, .ref (ra ad x4)), (4, .ref (ra ad x5)), (7, .ref (ra ad x4)), (0, .ref (ad 41)), (1, .ref (ra ad x1)), (2, .ref (ra ad x2)), (3, .ref (ra ad x3))]) hx hb dX1_findCommon_72 hl (k := 7) rfl rfl (by decide) rfl (fun ls hl => ?_)
          refine lv_goto (tgt := 31) hx hb dX1_findCommon_75 (by decide) ?_
          exact ih x5 x4 (x6 + 1) u11 _ _ _ hP hS (lv_sub hl [4, 5, 6, 7, 2, 1, 0] rfl) hf
  unfold f_X1_findCommon at hf
  refine lv_aload_n hx hb dX1_findCommon_0 rfl (lv_at hl 0 rfl) ?_
  refine va_get (ci := 1) (v := .ref (ra ad (3 : Fin 20))) (C := RX1) (T := TX1) (N := 11) hx hb hts (by decide +kernel) hown hK hP 41 cc_ring rfl 3 (by decide) (hts (.fieldLink RX1 28 "NumberFieldFactors$Ring" "older" "LNumberFieldFactors$Row;") (by decide +kernel)) (fun _ h9 => h9) rfl dX1_findCommon_1 ?_
  refine lv_aload_n hx hb dX1_findCommon_4 rfl (lv_at hl 1 rfl) ?_
  obtain ⟨u1, g2, hf⟩ := Option.bind_eq_some_iff.mp hf
  try dsimp only at hf
  refine ct_call (va_runV (As := [.ref (ra ad p0)]) (rest := []) ⟨hx, hb, hml, hown, hts⟩ (C_X2_copy l D tys nw hn hnw hj htI htR (res := u1) g2) (cwV 1 hts gX1_findCommon_X2_copy rfl rfl rfl (by decide +kernel) ⟨Nat.le_of_ble_eq_true rfl, Nat.le_of_ble_eq_true rfl⟩) (ct_preV hn hP hK hN (ci := 2) (k := (20 + ((3 : Fin 20)).val)) rfl (ra_lt (3 : Fin 20)) (cl_row (3 : Fin 20))) rfl rfl hl.1 rfl (lv_room (Nat.le_of_ble_eq_true rfl)) dX1_findCommon_5 ⟨Nat.zero_le _, Nat.zero_le _⟩) hS (fun H locs hP hS => ?_)
  refine lv_aload_n hx hb dX1_findCommon_8 rfl (lv_at hl 0 rfl) ?_
  refine va_get (ci := 1) (v := .ref (ra ad (4 : Fin 20))) (C := RX1) (T := TX1) (N := 11) hx hb hts (by decide +kernel) hown hK hP 41 cc_ring rfl 4 (by decide) (hts (.fieldLink RX1 31 "NumberFieldFactors$Ring" "newer" "LNumberFieldFactors$Row;") (by decide +kernel)) (fun _ h9 => h9) rfl dX1_findCommon_9 ?_
  refine lv_aload_n hx hb dX1_findCommon_12 rfl (lv_at hl 2 rfl) ?_
  obtain ⟨u3, g4, hf⟩ := Option.bind_eq_some_iff.mp hf
  try dsimp only at hf
  refine ct_call (va_runV (As := [.ref (ra ad p1)]) (rest := []) ⟨hx, hb, hml, hown, hts⟩ (C_X2_copy l D tys nw hn hnw hj htI htR (res := u3) g4) (cwV 1 hts gX1_findCommon_X2_copy rfl rfl rfl (by decide +kernel) ⟨Nat.le_of_ble_eq_true rfl, Nat.le_of_ble_eq_true rfl⟩) (ct_preV hn hP hK hN (ci := 2) (k := (20 + ((4 : Fin 20)).val)) rfl (ra_lt (4 : Fin 20)) (cl_row (4 : Fin 20))) rfl rfl hl.1 rfl (lv_room (Nat.le_of_ble_eq_true rfl)) dX1_findCommon_13 ⟨Nat.zero_le _, Nat.zero_le _⟩) hS (fun H locs hP hS => ?_)
  refine lv_aload_n hx hb dX1_findCommon_16 rfl (lv_at hl 0 rfl) ?_
  refine va_get (ci := 1) (v := .ref (ra ad (3 : Fin 20))) (C := RX1) (T := TX1) (N := 11) hx hb hts (by decide +kernel) hown hK hP 41 cc_ring rfl 3 (by decide) (hts (.fieldLink RX1 28 "NumberFieldFactors$Ring" "older" "LNumberFieldFactors$Row;") (by decide +kernel)) (fun _ h9 => h9) rfl dX1_findCommon_17 ?_
  refine lv_astore (lv' := [(4, .ref (ra ad (3 : Fin 20))), (0, .ref (ad 41)), (1, .ref (ra ad p0)), (2, .ref (ra ad p1)), (3, .ref (ra ad p2))]) hx hb dX1_findCommon_20 hl (by decide) rfl (fun ls hl => ?_)
  refine lv_aload_n hx hb dX1_findCommon_22 rfl (lv_at hl 1 rfl) ?_
  refine va_get (ci := 1) (v := .ref (ra ad (4 : Fin 20))) (C := RX1) (T := TX1) (N := 11) hx hb hts (by decide +kernel) hown hK hP 41 cc_ring rfl 4 (by decide) (hts (.fieldLink RX1 31 "NumberFieldFactors$Ring" "newer" "LNumberFieldFactors$Row;") (by decide +kernel)) (fun _ h9 => h9) rfl dX1_findCommon_23 ?_
  refine lv_astore (lv' := [(5, .ref (ra ad (4 : Fin 20))), (4, .ref (ra ad (3 : Fin 20))), (0, .ref (ad 41)), (1, .ref (ra ad p0)), (2, .ref (ra ad p1)), (3, .ref (ra ad p2))]) hx hb dX1_findCommon_26 hl (by decide) rfl (fun ls hl => ?_)
  refine lv_iconst (v := 0) hx hb dX1_findCommon_28 (by decide) ?_
  refine lv_istore (lv' := [(6, .int 0), (5, .ref (ra ad (4 : Fin 20))), (4, .ref (ra ad (3 : Fin 20))), (0, .ref (ad 41)), (1, .ref (ra ad p0)), (2, .ref (ra ad p1)), (3, .ref (ra ad p2))]) hx hb dX1_findCommon_29 hl (by decide) rfl (fun ls hl => ?_)
  refine L31 p0 p1 p2 _ (fun y13 y14 y15 M16 H locs ls hP hS hl hf => ?_) fu (3 : Fin 20) (4 : Fin 20) 0 u3 _ _ _ hP hS (lv_sub hl [3, 4, 5, 6, 2, 1, 0] rfl) hf
  try dsimp only at hf
  refine lv_aload_n hx hb dX1_findCommon_78 rfl (lv_at hl 0 rfl) ?_
  refine lv_aload hx hb dX1_findCommon_79 (lv_at hl 4 rfl) ?_
  obtain ⟨u17, g18, hf⟩ := Option.bind_eq_some_iff.mp hf
  try dsimp only at hf
  refine ct_call (va_runV (As := [.ref (ra ad y13)]) (rest := []) ⟨hx, hb, hml, hown, hts⟩ (C_X1_makeMonic l D tys nw hn hnw hj htI htR (res := u17) g18) (cwV 1 hts gX1_findCommon_X1_makeMonic rfl rfl rfl (by decide +kernel) ⟨Nat.le_of_ble_eq_true rfl, Nat.le_of_ble_eq_true rfl⟩) (ct_preV hn hP hK hN (ci := 1) (k := 41) rfl (by decide) rfl) rfl rfl hl.1 rfl (lv_room (Nat.le_of_ble_eq_true rfl)) dX1_findCommon_81 ⟨Nat.zero_le _, Nat.zero_le _⟩) hS (fun H locs hP hS => ?_)
  refine lv_aload_n hx hb dX1_findCommon_84 rfl (lv_at hl 3 rfl) ?_
  refine lv_aload hx hb dX1_findCommon_85 (lv_at hl 4 rfl) ?_
  obtain ⟨u19, g20, hf⟩ := Option.bind_eq_some_iff.mp hf
  try dsimp only at hf
  refine ct_call (va_runV (As := [.ref (ra ad y13)]) (rest := []) ⟨hx, hb, hml, hown, hts⟩ (C_X2_copy l D tys nw hn hnw hj htI htR (res := u19) g20) (cwV 1 hts gX1_findCommon_X2_copy rfl rfl rfl (by decide +kernel) ⟨Nat.le_of_ble_eq_true rfl, Nat.le_of_ble_eq_true rfl⟩) (ct_preV hn hP hK hN (ci := 2) (k := (20 + (p2).val)) rfl (ra_lt p2) (cl_row p2)) rfl rfl hl.1 rfl (lv_room (Nat.le_of_ble_eq_true rfl)) dX1_findCommon_87 ⟨Nat.zero_le _, Nat.zero_le _⟩) hS (fun H locs hP hS => ?_)
  obtain rfl := Option.some.inj hf
  exact W.vret hx hb hr (fun t ht hW => ⟨rfl, by rw [ht]; exact hP, hS.F ht⟩) hS.2.2 dX1_findCommon_90
def f_X1_findSquares_l12 (k12 : Int32 → (Fin 20 → Nat → Int32) → Option ((Fin 20 → Nat → Int32))) (fu : Nat) (E : Nat → Int32) (x1 : Fin 20) (x2 : Fin 20) : Nat → Int32 → (Fin 20 → Nat → Int32) → Option ((Fin 20 → Nat → Int32))
  | 0, _, _ => none
  | n + 1, x3, M =>
    if x3 ≤ 0 then
      k12 x3 M
    else
      (f_X2_get M x1 x3).bind (fun u6 =>
      (f_X0_times E x3 u6).bind (fun u8 =>
      (f_X2_set M (5 : Fin 20) (x3 - 1) u8).bind (fun u10 =>
      f_X1_findSquares_l12 k12 fu E x1 x2 n (x3 + (-1)) u10)))
def f_X1_findSquares (fu : Nat) (M : Fin 20 → Nat → Int32) (E : Nat → Int32) (p0 : Fin 20) (p1 : Fin 20) : Option ((Fin 20 → Nat → Int32)) :=
  (f_X2_clear fu M (5 : Fin 20)).bind (fun u1 =>
  (f_X2_degree fu u1 p0).bind (fun u3 =>
  f_X1_findSquares_l12 (fun y12 M13 =>
    (f_X1_findCommon fu M13 E p0 (5 : Fin 20) p1).bind (fun u14 =>
    some u14)) fu E p0 p1 fu u3 u1))
set_option maxHeartbeats 4000000 in
set_option maxRecDepth 100000 in
theorem C_X1_findSquares (l : Launch) (D : va_G) (tys : List (ClassId × FieldType)) (nw : List Cond) (hn : nw.all nw_kind = true) (hnw : ∀ w ∈ nw0, w ∈ nw) {ad : Nat → Nat} (hj : ww_inj 46 ad) {cI : ClassId} {cR : ClassId} (htI : tys[0]? = some (cI, .int)) (htR : tys[1]? = some (cR, .object RX2)) {fu : Nat} {M : Fin 20 → Nat → Int32} {E : Nat → Int32} {P : Nat → Fin 20} {C : Nat → Int32} {N : Nat → Int32} {p0 : Fin 20} {p1 : Fin 20} {res : (Fin 20 → Nat → Int32)} (hf : f_X1_findSquares fu M E p0 p1 = some res) :
    Met l yX1_findSquares wsX1_findSquares ({ frames := 4, cells := 0, slots := 0, locals := 111 }) (va_Pc [.ref (ad 41), .ref (ra ad p0), .ref (ra ad p1)] (ws_B D tys nw (ww 46 ad (cellC cI cR ad M E P C N)))) (ct_Q D (ww 46 ad (cellC cI cR ad res E P C N)) (ww_A 46 ad) (none)) 0 0 (ww_A 46 ad) := by
  refine Met.ofW (cc := cX1_findSquares) (maxL := 4) (ret := none) (by decide) rfl ?_
  intro p e s m args below meth c s₁ B hml hv
  obtain ⟨rfl, hP, hK, hN⟩ := hv
  have hx := B.exec
  have hb := B.bytes
  have hr := B.returns
  have hts := atoms_spec (ws := wsX1_findSquares) B.pre
  have hown : s.vm.findClass RX1 = some m.cls := findClass_of_methodNamed B.named
  have hlocks := B.notSynchronized
  have hS : va_S (ww_A 46 ad) s.heap s.heap [] := va_S.rf
  have hl := lv_entry ([.ref (ad 41), .ref (ra ad p0), .ref (ra ad p1)]) (n := 4) (Nat.le_of_ble_eq_true rfl)
  rw [lg_entry_eq]
  generalize (lg_sl ([.ref (ad 41), .ref (ra ad p0), .ref (ra ad p1)]) ++ List.replicate (4 - (lg_sl ([.ref (ad 41), .ref (ra ad p0), .ref (ra ad p1)])).length) Slot.unset).toArray = ls at hl ⊢
  have hl : lv_has ls 4 [(0, .ref (ad 41)), (1, .ref (ra ad p0)), (2, .ref (ra ad p1))] := hl
  have L12 : ∀ (x1 : Fin 20) (x2 : Fin 20) (k12 : Int32 → (Fin 20 → Nat → Int32) → Option ((Fin 20 → Nat → Int32))), (∀ (x3 : Int32) (M : Fin 20 → Nat → Int32) (H : Heap) (locs : List Loc) (ls : Array Slot), va_P D vwCl (ww 46 ad (cellC cI cR ad M E P C N)) H → va_S (ww_A 46 ad) s.heap H locs → lv_has ls 4 [(0, .ref (ad 41)), (1, .ref (ra ad x1)), (2, .ref (ra ad x2)), (3, .int x3)] →  k12 x3 M = some res → W p l e (headSpec wsX1_findSquares { frames := 4, cells := 0, slots := 0, locals := 111 }).room s m [.ref (ad 41), .ref (ra ad p0), .ref (ra ad p1)].toArray below meth c H locs 0 0 (MQ below (ct_Q D (ww 46 ad (cellC cI cR ad res E P C N)) (ww_A 46 ad) (none)) [.ref (ad 41), .ref (ra ad p0), .ref (ra ad p1)].toArray s 0 0 (ww_A 46 ad)) (F0 m 45 ls [])) → ∀ (n : Nat) (x3 : Int32) (M : Fin 20 → Nat → Int32) (H : Heap) (locs : List Loc) (ls : Array Slot), va_P D vwCl (ww 46 ad (cellC cI cR ad M E P C N)) H → va_S (ww_A 46 ad) s.heap H locs → lv_has ls 4 [(0, .ref (ad 41)), (1, .ref (ra ad x1)), (2, .ref (ra ad x2)), (3, .int x3)] →  f_X1_findSquares_l12 k12 fu E x1 x2 n x3 M = some res → W p l e (headSpec wsX1_findSquares { frames := 4, cells := 0, slots := 0, locals := 111 }).room s m [.ref (ad 41), .ref (ra ad p0), .ref (ra ad p1)].toArray below meth c H locs 0 0 (MQ below (ct_Q D (ww 46 ad (cellC cI cR ad res E P C N)) (ww_A 46 ad) (none)) [.ref (ad 41), .ref (ra ad p0), .ref (ra ad p1)].toArray s 0 0 (ww_A 46 ad)) (F0 m 12 ls []) := by
    intro x1 x2 k12 hk_12 n
    induction n with
    | zero => intro x3 M H locs ls hP hS hl hf; rw [f_X1_findSquares_l12] at hf; cases hf
    | succ n ih =>
      intro x3 M H locs ls hP hS hl hf
      rw [f_X1_findSquares_l12] at hf
      refine lv_iload_n hx hb dX1_findSquares_12 rfl (lv_at hl 3 rfl) ?_
      refine lv_if_le (tgt := 45) hx hb dX1_findSquares_13 (by decide) (fun c5 => ?_) (fun c5 => ?_)
      · rw [if_pos c5] at hf
        exact hk_12 x3 M _ _ _ hP hS (lv_sub hl [0, 1, 2, 3] rfl) hf
      · rw [if_neg c5] at hf
        refine lv_aload_n hx hb dX1_findSquares_16 rfl (lv_at hl 0 rfl) ?_
        refine va_get (ci := 1) (v := .ref (ra ad (5 : Fin 20))) (C := RX1) (T := TX1) (N := 11) hx hb hts (by decide +kernel) hown hK hP 41 cc_ring rfl 5 (by decide) (hts (.fieldLink RX1 34 "NumberFieldFactors$Ring" "derived" "LNumberFieldFactors$Row;") (by decide +kernel)) (fun _ h9 => h9) rfl dX1_findSquares_17 ?_
        refine lv_iload_n hx hb dX1_findSquares_20 rfl (lv_at hl 3 rfl) ?_
        refine lv_iconst (v := 1) hx hb dX1_findSquares_21 (by decide) ?_
        refine lv_isub hx hb dX1_findSquares_22 ?_
        refine lv_aload_n hx hb dX1_findSquares_23 rfl (lv_at hl 0 rfl) ?_
        refine va_get (ci := 1) (v := .ref (ad 40)) (C := RX1) (T := TX1) (N := 11) hx hb hts (by decide +kernel) hown hK hP 41 cc_ring rfl 0 (by decide) (hts (.fieldLink RX1 12 "NumberFieldFactors$Ring" "extension" "LNumberFieldFactors$Extension;") (by decide +kernel)) (fun _ h9 => h9) rfl dX1_findSquares_24 ?_
        refine lv_iload_n hx hb dX1_findSquares_27 rfl (lv_at hl 3 rfl) ?_
        refine lv_aload_n hx hb dX1_findSquares_28 rfl (lv_at hl 1 rfl) ?_
        refine lv_iload_n hx hb dX1_findSquares_29 rfl (lv_at hl 3 rfl) ?_
        obtain ⟨u6, g7, hf⟩ := Option.bind_eq_some_iff.mp hf
        try dsimp only at hf
        refine ct_call (va_runV (As := [.int x3]) (rest := [.int x3, .ref (ad 40), .int (x3 - 1), .ref (ra ad (5 : Fin 20))]) ⟨hx, hb, hml, hown, hts⟩ (C_X2_get l D tys nw hn hnw hj htI htR (res := u6) g7) (cwV 1 hts gX1_findSquares_X2_get rfl rfl rfl (by decide +kernel) ⟨Nat.le_of_ble_eq_true rfl, Nat.le_of_ble_eq_true rfl⟩) (ct_preV hn hP hK hN (ci := 2) (k := (20 + (x1).val)) rfl (ra_lt x1) (cl_row x1)) rfl rfl hl.1 rfl (lv_room (Nat.le_of_ble_eq_true rfl)) dX1_findSquares_30 ⟨Nat.zero_le _, Nat.zero_le _⟩) hS (fun H locs hP hS => ?_)
        obtain ⟨u8, g9, hf⟩ := Option.bind_eq_some_iff.mp hf
        try dsimp only at hf
        refine ct_call (va_runV (As := [.int x3, .int u6]) (rest := [.int (x3 - 1), .ref (ra ad (5 : Fin 20))]) ⟨hx, hb, hml, hown, hts⟩ (C_X0_times l D tys nw hn hnw hj htI htR (res := u8) g9) (cwV 2 hts gX1_findSquares_X0_times rfl rfl rfl (by decide +kernel) ⟨Nat.le_of_ble_eq_true rfl, Nat.le_of_ble_eq_true rfl⟩) (ct_preV hn hP hK hN (ci := 0) (k := 40) rfl (by decide) rfl) rfl rfl hl.1 rfl (lv_room (Nat.le_of_ble_eq_true rfl)) dX1_findSquares_33 ⟨Nat.zero_le _, Nat.zero_le _⟩) hS (fun H locs hP hS => ?_)
        obtain ⟨u10, g11, hf⟩ := Option.bind_eq_some_iff.mp hf
        try dsimp only at hf
        refine ct_call (va_runV (As := [.int (x3 - 1), .int u8]) (rest := []) ⟨hx, hb, hml, hown, hts⟩ (C_X2_set l D tys nw hn hnw hj htI htR (res := u10) g11) (cwV 2 hts gX1_findSquares_X2_set rfl rfl rfl (by decide +kernel) ⟨Nat.le_of_ble_eq_true rfl, Nat.le_of_ble_eq_true rfl⟩) (ct_preV hn hP hK hN (ci := 2) (k := (20 + ((5 : Fin 20)).val)) rfl (ra_lt (5 : Fin 20)) (cl_row (5 : Fin 20))) rfl rfl hl.1 rfl (lv_room (Nat.le_of_ble_eq_true rfl)) dX1_findSquares_36 ⟨Nat.zero_le _, Nat.zero_le _⟩) hS (fun H locs hP hS => ?_)
        refine lv_iinc (v := x3 + (-1)) (lv' := [(3, .int (x3 + (-1))), (0, .ref (ad 41)), (1, .ref (ra ad x1)), (2, .ref (ra ad x2))]) hx hb dX1_findSquares_39 hl (k := 3) rfl rfl (by decide) rfl (fun ls hl => ?_)
        refine lv_goto (tgt := 12) hx hb dX1_findSquares_42 (by decide) ?_
        exact ih (x3 + (-1)) u10 _ _ _ hP hS (lv_sub hl [1, 2, 3, 0] rfl) hf
  unfold f_X1_findSquares at hf
  refine lv_aload_n hx hb dX1_findSquares_0 rfl (lv_at hl 0 rfl) ?_
  refine va_get (ci := 1) (v := .ref (ra ad (5 : Fin 20))) (C := RX1) (T := TX1) (N := 11) hx hb hts (by decide +kernel) hown hK hP 41 cc_ring rfl 5 (by decide) (hts (.fieldLink RX1 34 "NumberFieldFactors$Ring" "derived" "LNumberFieldFactors$Row;") (by decide +kernel)) (fun _ h9 => h9) rfl dX1_findSquares_1 ?_
  obtain ⟨u1, g2, hf⟩ := Option.bind_eq_some_iff.mp hf
  try dsimp only at hf
  refine ct_call (va_runV (As := []) (rest := []) ⟨hx, hb, hml, hown, hts⟩ (C_X2_clear l D tys nw hn hnw hj htI htR (res := u1) g2) (cwV 0 hts gX1_findSquares_X2_clear rfl rfl rfl (by decide +kernel) ⟨Nat.le_of_ble_eq_true rfl, Nat.le_of_ble_eq_true rfl⟩) (ct_preV hn hP hK hN (ci := 2) (k := (20 + ((5 : Fin 20)).val)) rfl (ra_lt (5 : Fin 20)) (cl_row (5 : Fin 20))) rfl rfl hl.1 rfl (lv_room (Nat.le_of_ble_eq_true rfl)) dX1_findSquares_4 ⟨Nat.zero_le _, Nat.zero_le _⟩) hS (fun H locs hP hS => ?_)
  refine lv_aload_n hx hb dX1_findSquares_7 rfl (lv_at hl 1 rfl) ?_
  obtain ⟨u3, g4, hf⟩ := Option.bind_eq_some_iff.mp hf
  try dsimp only at hf
  refine ct_call (va_runV (As := []) (rest := []) ⟨hx, hb, hml, hown, hts⟩ (C_X2_degree l D tys nw hn hnw hj htI htR (res := u3) g4) (cwV 0 hts gX1_findSquares_X2_degree rfl rfl rfl (by decide +kernel) ⟨Nat.le_of_ble_eq_true rfl, Nat.le_of_ble_eq_true rfl⟩) (ct_preV hn hP hK hN (ci := 2) (k := (20 + (p0).val)) rfl (ra_lt p0) (cl_row p0)) rfl rfl hl.1 rfl (lv_room (Nat.le_of_ble_eq_true rfl)) dX1_findSquares_8 ⟨Nat.zero_le _, Nat.zero_le _⟩) hS (fun H locs hP hS => ?_)
  refine lv_istore_n (lv' := [(3, .int u3), (0, .ref (ad 41)), (1, .ref (ra ad p0)), (2, .ref (ra ad p1))]) hx hb dX1_findSquares_11 rfl hl (by decide) rfl (fun ls hl => ?_)
  refine L12 p0 p1 _ (fun y12 M13 H locs ls hP hS hl hf => ?_) fu u3 u1 _ _ _ hP hS (lv_sub hl [1, 2, 3, 0] rfl) hf
  try dsimp only at hf
  refine lv_aload_n hx hb dX1_findSquares_45 rfl (lv_at hl 0 rfl) ?_
  refine lv_aload_n hx hb dX1_findSquares_46 rfl (lv_at hl 1 rfl) ?_
  refine lv_aload_n hx hb dX1_findSquares_47 rfl (lv_at hl 0 rfl) ?_
  refine va_get (ci := 1) (v := .ref (ra ad (5 : Fin 20))) (C := RX1) (T := TX1) (N := 11) hx hb hts (by decide +kernel) hown hK hP 41 cc_ring rfl 5 (by decide) (hts (.fieldLink RX1 34 "NumberFieldFactors$Ring" "derived" "LNumberFieldFactors$Row;") (by decide +kernel)) (fun _ h9 => h9) rfl dX1_findSquares_48 ?_
  refine lv_aload_n hx hb dX1_findSquares_51 rfl (lv_at hl 2 rfl) ?_
  obtain ⟨u14, g15, hf⟩ := Option.bind_eq_some_iff.mp hf
  try dsimp only at hf
  refine ct_call (va_runV (As := [.ref (ra ad p0), .ref (ra ad (5 : Fin 20)), .ref (ra ad p1)]) (rest := []) ⟨hx, hb, hml, hown, hts⟩ (C_X1_findCommon l D tys nw hn hnw hj htI htR (res := u14) g15) (cwV 3 hts gX1_findSquares_X1_findCommon rfl rfl rfl (by decide +kernel) ⟨Nat.le_of_ble_eq_true rfl, Nat.le_of_ble_eq_true rfl⟩) (ct_preV hn hP hK hN (ci := 1) (k := 41) rfl (by decide) rfl) rfl rfl hl.1 rfl (lv_room (Nat.le_of_ble_eq_true rfl)) dX1_findSquares_52 ⟨Nat.zero_le _, Nat.zero_le _⟩) hS (fun H locs hP hS => ?_)
  obtain rfl := Option.some.inj hf
  exact W.vret hx hb hr (fun t ht hW => ⟨rfl, by rw [ht]; exact hP, hS.F ht⟩) hS.2.2 dX1_findSquares_55
def f_X1_raiseLinear_l9 (k9 : Int32 → (Fin 20 → Nat → Int32) → Option ((Fin 20 → Nat → Int32))) (fu : Nat) (E : Nat → Int32) (x1 : Int32) (x2 : Int64) (x4 : Fin 20) (x5 : Fin 20) : Nat → Int32 → (Fin 20 → Nat → Int32) → Option ((Fin 20 → Nat → Int32))
  | 0, _, _ => none
  | n + 1, x6, M =>
    if x6 < 0 then
      k9 x6 M
    else
      ((
        if (lg_cmp (x2 >>> (x6.toInt64 &&& 63)) 0) = 0 then
          some M
        else
          (f_X1_multiply fu M E x5 x5).bind (fun u6 =>
          ((
            if (lg_cmp ((x2 >>> (x6.toInt64 &&& 63)) &&& 1) 1) = 0 then
              (f_X1_multiplyLinear fu u6 E x5 x1).bind (fun u10 =>
              some u10)
            else
              some u6 : Option ((Fin 20 → Nat → Int32)))).bind (fun w8 =>
          (f_X1_divide fu w8 E x5 x4).bind (fun u12 =>
          some u12))) : Option ((Fin 20 → Nat → Int32)))).bind (fun w4 =>
      f_X1_raiseLinear_l9 k9 fu E x1 x2 x4 x5 n (x6 + (-1)) w4)
def f_X1_raiseLinear (fu : Nat) (M : Fin 20 → Nat → Int32) (E : Nat → Int32) (p0 : Int32) (p1 : Int64) (p2 : Fin 20) (p3 : Fin 20) : Option ((Fin 20 → Nat → Int32)) :=
  (f_X2_becomeOne fu M p3).bind (fun u1 =>
  f_X1_raiseLinear_l9 (fun y14 M15 =>
    some M15) fu E p0 p1 p2 p3 fu 40 u1)
set_option maxHeartbeats 4000000 in
set_option maxRecDepth 100000 in
theorem C_X1_raiseLinear (l : Launch) (D : va_G) (tys : List (ClassId × FieldType)) (nw : List Cond) (hn : nw.all nw_kind = true) (hnw : ∀ w ∈ nw0, w ∈ nw) {ad : Nat → Nat} (hj : ww_inj 46 ad) {cI : ClassId} {cR : ClassId} (htI : tys[0]? = some (cI, .int)) (htR : tys[1]? = some (cR, .object RX2)) {fu : Nat} {M : Fin 20 → Nat → Int32} {E : Nat → Int32} {P : Nat → Fin 20} {C : Nat → Int32} {N : Nat → Int32} {p0 : Int32} {p1 : Int64} {p2 : Fin 20} {p3 : Fin 20} {res : (Fin 20 → Nat → Int32)} (hf : f_X1_raiseLinear fu M E p0 p1 p2 p3 = some res) :
    Met l yX1_raiseLinear wsX1_raiseLinear ({ frames := 3, cells := 0, slots := 0, locals := 70 }) (va_Pc [.ref (ad 41), .int p0, .long p1, .ref (ra ad p2), .ref (ra ad p3)] (ws_B D tys nw (ww 46 ad (cellC cI cR ad M E P C N)))) (ct_Q D (ww 46 ad (cellC cI cR ad res E P C N)) (ww_A 46 ad) (none)) 0 0 (ww_A 46 ad) := by
  refine Met.ofW (cc := cX1_raiseLinear) (maxL := 7) (ret := none) (by decide) rfl ?_
  intro p e s m args below meth c s₁ B hml hv
  obtain ⟨rfl, hP, hK, hN⟩ := hv
  have hx := B.exec
  have hb := B.bytes
  have hr := B.returns
  have hts := atoms_spec (ws := wsX1_raiseLinear) B.pre
  have hown : s.vm.findClass RX1 = some m.cls := findClass_of_methodNamed B.named
  have hlocks := B.notSynchronized
  have hS : va_S (ww_A 46 ad) s.heap s.heap [] := va_S.rf
  have hl := lv_entry ([.ref (ad 41), .int p0, .long p1, .ref (ra ad p2), .ref (ra ad p3)]) (n := 7) (Nat.le_of_ble_eq_true rfl)
  rw [lg_entry_eq]
  generalize (lg_sl ([.ref (ad 41), .int p0, .long p1, .ref (ra ad p2), .ref (ra ad p3)]) ++ List.replicate (7 - (lg_sl ([.ref (ad 41), .int p0, .long p1, .ref (ra ad p2), .ref (ra ad p3)])).length) Slot.unset).toArray = ls at hl ⊢
  have hl : lv_has ls 7 [(0, .ref (ad 41)), (1, .int p0), (2, .long p1), (4, .ref (ra ad p2)), (5, .ref (ra ad p3))] := hl
  have L9 : ∀ (x1 : Int32) (x2 : Int64) (x4 : Fin 20) (x5 : Fin 20) (k9 : Int32 → (Fin 20 → Nat → Int32) → Option ((Fin 20 → Nat → Int32))), (∀ (x6 : Int32) (M : Fin 20 → Nat → Int32) (H : Heap) (locs : List Loc) (ls : Array Slot), va_P D vwCl (ww 46 ad (cellC cI cR ad M E P C N)) H → va_S (ww_A 46 ad) s.heap H locs → lv_has ls 7 [(0, .ref (ad 41)), (1, .int x1), (2, .long x2), (4, .ref (ra ad x4)), (5, .ref (ra ad x5)), (6, .int x6)] →  k9 x6 M = some res → W p l e (headSpec wsX1_raiseLinear { frames := 3, cells := 0, slots := 0, locals := 70 }).room s m [.ref (ad 41), .int p0, .long p1, .ref (ra ad p2), .ref (ra ad p3)].toArray below meth c H locs 0 0 (MQ below (ct_Q D (ww 46 ad (cellC cI cR ad res E P C N)) (ww_A 46 ad) (none)) [.ref (ad 41), .int p0, .long p1, .ref (ra ad p2), .ref (ra ad p3)].toArray s 0 0 (ww_A 46 ad)) (F0 m 66 ls [])) → ∀ (n : Nat) (x6 : Int32) (M : Fin 20 → Nat → Int32) (H : Heap) (locs : List Loc) (ls : Array Slot), va_P D vwCl (ww 46 ad (cellC cI cR ad M E P C N)) H → va_S (ww_A 46 ad) s.heap H locs → lv_has ls 7 [(0, .ref (ad 41)), (1, .int x1), (2, .long x2), (4, .ref (ra ad x4)), (5, .ref (ra ad x5)), (6, .int x6)] →  f_X1_raiseLinear_l9 k9 fu E x1 x2 x4 x5 n x6 M = some res → W p l e (headSpec wsX1_raiseLinear { frames := 3, cells := 0, slots := 0, locals := 70 }).room s m [.ref (ad 41), .int p0, .long p1, .ref (ra ad p2), .ref (ra ad p3)].toArray below meth c H locs 0 0 (MQ below (ct_Q D (ww 46 ad (cellC cI cR ad res E P C N)) (ww_A 46 ad) (none)) [.ref (ad 41), .int p0, .long p1, .ref (ra ad p2), .ref (ra ad p3)].toArray s 0 0 (ww_A 46 ad)) (F0 m 9 ls []) := by
    intro x1 x2 x4 x5 k9 hk_9 n
    induction n with
    | zero => intro x6 M H locs ls hP hS hl hf; rw [f_X1_raiseLinear_l9] at hf; cases hf
    | succ n ih =>
      intro x6 M H locs ls hP hS hl hf
      rw [f_X1_raiseLinear_l9] at hf
      refine lv_iload hx hb dX1_raiseLinear_9 (lv_at hl 5 rfl) ?_
      refine lv_if_lt (tgt := 66) hx hb dX1_raiseLinear_11 (by decide) (fun c3 => ?_) (fun c3 => ?_)
      · rw [if_pos c3] at hf
        exact hk_9 x6 M _ _ _ hP hS (lv_sub hl [0, 1, 2, 3, 4, 5] rfl) hf
      · rw [if_neg c3] at hf
        refine lv_lload_n hx hb dX1_raiseLinear_14 rfl (lv_at hl 2 rfl) ?_
        refine lv_iload hx hb dX1_raiseLinear_15 (lv_at hl 5 rfl) ?_
        refine lv_lshr hx hb dX1_raiseLinear_17 rfl ?_
        refine lv_lconst (v := 0) hx hb dX1_raiseLinear_18 (by decide) ?_
        refine W.lcmp hx hb dX1_raiseLinear_19 ?_
        obtain ⟨w4, gw4, hf⟩ := Option.bind_eq_some_iff.mp hf
        try dsimp only at hf
        have hJ60_w4 : ∀ (H : Heap) (locs : List Loc) (ls : Array Slot), va_P D vwCl (ww 46 ad (cellC cI cR ad w4 E P C N)) H → va_S (ww_A 46 ad) s.heap H locs → lv_has ls 7 [(0, .ref (ad 41)), (1, .int x1), (2, .long x2), (4, .ref (ra ad x4)), (5, .ref (ra ad x5)), (6, .int x6)] → W p l e (headSpec wsX1_raiseLinear { frames := 3, cells := 0, slots := 0, locals := 70 }).room s m [.ref (ad 41), .int p0, .long p1, .ref (ra ad p2), .ref (ra ad p3)].toArray below meth c H locs 0 0 (MQ below (ct_Q D (ww 46 ad (cellC cI cR ad res E P C N)) (ww_A 46 ad) (none)) [.ref (ad 41), .int p0, .long p1, .ref (ra ad p2), .ref (ra ad p3)].toArray s 0 0 (ww_A 46 ad)) (F0 m 60 ls []) := by
          intro H locs ls hP hS hl
          refine lv_iinc (v := x6 + (-1)) (lv' := [(6, .int (x6 + (-1))), (0, .ref (ad 41)), (1, .int x1), (2, .long x2), (4, .ref (ra ad x4)), (5, .ref (ra ad x5))]) hx hb dX1_raiseLinear_60 hl (k := 5) rfl rfl (by decide) rfl (fun ls hl => ?_)
          refine lv_goto (tgt := 9) hx hb dX1_raiseLinear_63 (by decide) ?_
          exact ih (x6 + (-1)) w4 _ _ _ hP hS (lv_sub hl [1, 2, 3, 4, 5, 0] rfl) hf
        refine lv_if_ne (tgt := 26) hx hb dX1_raiseLinear_20 (by decide) (fun c5 => ?_) (fun c5 => ?_)
        · rw [if_neg c5] at gw4
          refine lv_aload_n hx hb dX1_raiseLinear_26 rfl (lv_at hl 0 rfl) ?_
          refine lv_aload hx hb dX1_raiseLinear_27 (lv_at hl 4 rfl) ?_
          refine lv_aload hx hb dX1_raiseLinear_29 (lv_at hl 4 rfl) ?_
          obtain ⟨u6, g7, gw4⟩ := Option.bind_eq_some_iff.mp gw4
          try dsimp only at gw4
          refine ct_call (va_runV (As := [.ref (ra ad x5), .ref (ra ad x5)]) (rest := []) ⟨hx, hb, hml, hown, hts⟩ (C_X1_multiply l D tys nw hn hnw hj htI htR (res := u6) g7) (cwV 2 hts gX1_raiseLinear_X1_multiply rfl rfl rfl (by decide +kernel) ⟨Nat.le_of_ble_eq_true rfl, Nat.le_of_ble_eq_true rfl⟩) (ct_preV hn hP hK hN (ci := 1) (k := 41) rfl (by decide) rfl) rfl rfl hl.1 rfl (lv_room (Nat.le_of_ble_eq_true rfl)) dX1_raiseLinear_31 ⟨Nat.zero_le _, Nat.zero_le _⟩) hS (fun H locs hP hS => ?_)
          refine lv_lload_n hx hb dX1_raiseLinear_34 rfl (lv_at hl 2 rfl) ?_
          refine lv_iload hx hb dX1_raiseLinear_35 (lv_at hl 5 rfl) ?_
          refine lv_lshr hx hb dX1_raiseLinear_37 rfl ?_
          refine lv_lconst (v := 1) hx hb dX1_raiseLinear_38 (by decide) ?_
          refine lv_land hx hb dX1_raiseLinear_39 ?_
          refine lv_lconst (v := 1) hx hb dX1_raiseLinear_40 (by decide) ?_
          refine W.lcmp hx hb dX1_raiseLinear_41 ?_
          obtain ⟨w8, gw8, gw4⟩ := Option.bind_eq_some_iff.mp gw4
          try dsimp only at gw4
          have hJ52_w8 : ∀ (H : Heap) (locs : List Loc) (ls : Array Slot), va_P D vwCl (ww 46 ad (cellC cI cR ad w8 E P C N)) H → va_S (ww_A 46 ad) s.heap H locs → lv_has ls 7 [(0, .ref (ad 41)), (1, .int x1), (2, .long x2), (4, .ref (ra ad x4)), (5, .ref (ra ad x5)), (6, .int x6)] → W p l e (headSpec wsX1_raiseLinear { frames := 3, cells := 0, slots := 0, locals := 70 }).room s m [.ref (ad 41), .int p0, .long p1, .ref (ra ad p2), .ref (ra ad p3)].toArray below meth c H locs 0 0 (MQ below (ct_Q D (ww 46 ad (cellC cI cR ad res E P C N)) (ww_A 46 ad) (none)) [.ref (ad 41), .int p0, .long p1, .ref (ra ad p2), .ref (ra ad p3)].toArray s 0 0 (ww_A 46 ad)) (F0 m 52 ls []) := by
            intro H locs ls hP hS hl
            refine lv_aload_n hx hb dX1_raiseLinear_52 rfl (lv_at hl 0 rfl) ?_
            refine lv_aload hx hb dX1_raiseLinear_53 (lv_at hl 4 rfl) ?_
            refine lv_aload hx hb dX1_raiseLinear_55 (lv_at hl 3 rfl) ?_
            obtain ⟨u12, g13, gw4⟩ := Option.bind_eq_some_iff.mp gw4
            try dsimp only at gw4
            refine ct_call (va_runV (As := [.ref (ra ad x5), .ref (ra ad x4)]) (rest := []) ⟨hx, hb, hml, hown, hts⟩ (C_X1_divide l D tys nw hn hnw hj htI htR (res := u12) g13) (cwV 2 hts gX1_raiseLinear_X1_divide rfl rfl rfl (by decide +kernel) ⟨Nat.le_of_ble_eq_true rfl, Nat.le_of_ble_eq_true rfl⟩) (ct_preV hn hP hK hN (ci := 1) (k := 41) rfl (by decide) rfl) rfl rfl hl.1 rfl (lv_room (Nat.le_of_ble_eq_true rfl)) dX1_raiseLinear_57 ⟨Nat.zero_le _, Nat.zero_le _⟩) hS (fun H locs hP hS => ?_)
            obtain rfl := Option.some.inj gw4
            exact hJ60_w4 _ _ _ hP hS (lv_sub hl [0, 1, 2, 3, 4, 5] rfl)
          refine lv_if_ne (tgt := 52) hx hb dX1_raiseLinear_42 (by decide) (fun c9 => ?_) (fun c9 => ?_)
          · rw [if_neg c9] at gw8
            obtain rfl := Option.some.inj gw8
            exact hJ52_w8 _ _ _ hP hS (lv_sub hl [0, 1, 2, 3, 4, 5] rfl)
          · rw [if_pos c9] at gw8
            refine lv_aload_n hx hb dX1_raiseLinear_45 rfl (lv_at hl 0 rfl) ?_
            refine lv_aload hx hb dX1_raiseLinear_46 (lv_at hl 4 rfl) ?_
            refine lv_iload_n hx hb dX1_raiseLinear_48 rfl (lv_at hl 1 rfl) ?_
            obtain ⟨u10, g11, gw8⟩ := Option.bind_eq_some_iff.mp gw8
            try dsimp only at gw8
            refine ct_call (va_runV (As := [.ref (ra ad x5), .int x1]) (rest := []) ⟨hx, hb, hml, hown, hts⟩ (C_X1_multiplyLinear l D tys nw hn hnw hj htI htR (res := u10) g11) (cwV 2 hts gX1_raiseLinear_X1_multiplyLinear rfl rfl rfl (by decide +kernel) ⟨Nat.le_of_ble_eq_true rfl, Nat.le_of_ble_eq_true rfl⟩) (ct_preV hn hP hK hN (ci := 1) (k := 41) rfl (by decide) rfl) rfl rfl hl.1 rfl (lv_room (Nat.le_of_ble_eq_true rfl)) dX1_raiseLinear_49 ⟨Nat.zero_le _, Nat.zero_le _⟩) hS (fun H locs hP hS => ?_)
            obtain rfl := Option.some.inj gw8
            exact hJ52_w8 _ _ _ hP hS (lv_sub hl [0, 1, 2, 3, 4, 5] rfl)
        · rw [if_pos c5] at gw4
          refine lv_goto (tgt := 60) hx hb dX1_raiseLinear_23 (by decide) ?_
          obtain rfl := Option.some.inj gw4
          exact hJ60_w4 _ _ _ hP hS (lv_sub hl [0, 1, 2, 3, 4, 5] rfl)
  unfold f_X1_raiseLinear at hf
  refine lv_aload hx hb dX1_raiseLinear_0 (lv_at hl 4 rfl) ?_
  obtain ⟨u1, g2, hf⟩ := Option.bind_eq_some_iff.mp hf
  try dsimp only at hf
  refine ct_call (va_runV (As := []) (rest := []) ⟨hx, hb, hml, hown, hts⟩ (C_X2_becomeOne l D tys nw hn hnw hj htI htR (res := u1) g2) (cwV 0 hts gX1_raiseLinear_X2_becomeOne rfl rfl rfl (by decide +kernel) ⟨Nat.le_of_ble_eq_true rfl, Nat.le_of_ble_eq_true rfl⟩) (ct_preV hn hP hK hN (ci := 2) (k := (20 + (p3).val)) rfl (ra_lt p3) (cl_row p3)) rfl rfl hl.1 rfl (lv_room (Nat.le_of_ble_eq_true rfl)) dX1_raiseLinear_2 ⟨Nat.zero_le _, Nat.zero_le _⟩) hS (fun H locs hP hS => ?_)
  refine lv_bipush (v := 40) hx hb dX1_raiseLinear_5 (by decide) ?_
  refine lv_istore (lv' := [(6, .int 40), (0, .ref (ad 41)), (1, .int p0), (2, .long p1), (4, .ref (ra ad p2)), (5, .ref (ra ad p3))]) hx hb dX1_raiseLinear_7 hl (by decide) rfl (fun ls hl => ?_)
  refine L9 p0 p1 p2 p3 _ (fun y14 M15 H locs ls hP hS hl hf => ?_) fu 40 u1 _ _ _ hP hS (lv_sub hl [1, 2, 3, 4, 5, 0] rfl) hf
  try dsimp only at hf
  obtain rfl := Option.some.inj hf
  exact W.vret hx hb hr (fun t ht hW => ⟨rfl, by rw [ht]; exact hP, hS.F ht⟩) hS.2.2 dX1_raiseLinear_66
def f_X1_normOf_l37 (k37 : Int32 → (Fin 20 → Nat → Int32) → Option (Fin 20 × (Fin 20 → Nat → Int32))) (fu : Nat) (E : Nat → Int32) (x1 : Fin 20) (x2 : Int32) (x3 : Int32) : Nat → Int32 → (Fin 20 → Nat → Int32) → Option (Fin 20 × (Fin 20 → Nat → Int32))
  | 0, _, _ => none
  | n + 1, x4, M =>
    if x2 < x4 then
      k37 x4 M
    else
      (f_X2_get M (6 : Fin 20) x4).bind (fun u9 =>
      (f_X0_mate E u9).bind (fun u11 =>
      (f_X2_set M (6 : Fin 20) x4 u11).bind (fun u13 =>
      f_X1_normOf_l37 k37 fu E x1 x2 x3 n (x4 + 1) u13)))
def f_X1_normOf_l23 (k23 : Int32 → (Fin 20 → Nat → Int32) → Option (Fin 20 × (Fin 20 → Nat → Int32))) (fu : Nat) (E : Nat → Int32) (x1 : Fin 20) (x2 : Int32) : Nat → Int32 → (Fin 20 → Nat → Int32) → Option (Fin 20 × (Fin 20 → Nat → Int32))
  | 0, _, _ => none
  | n + 1, x3, M =>
    if (E 0) ≤ x3 then
      k23 x3 M
    else
      f_X1_normOf_l37 (fun y15 M16 =>
        (f_X1_multiply fu M16 E (7 : Fin 20) (6 : Fin 20)).bind (fun u17 =>
        f_X1_normOf_l23 k23 fu E x1 x2 n (x3 + 1) u17)) fu E x1 x2 x3 fu 0 M
def f_X1_normOf (fu : Nat) (M : Fin 20 → Nat → Int32) (E : Nat → Int32) (p0 : Fin 20) : Option (Fin 20 × (Fin 20 → Nat → Int32)) :=
  (f_X2_copy fu M (7 : Fin 20) p0).bind (fun u1 =>
  (f_X2_copy fu u1 (6 : Fin 20) p0).bind (fun u3 =>
  (f_X2_degree fu u3 p0).bind (fun u5 =>
  f_X1_normOf_l23 (fun y19 M20 =>
    some ((7 : Fin 20), M20)) fu E p0 u5 fu 1 u3)))
set_option maxHeartbeats 4000000 in
set_option maxRecDepth 100000 in
theorem C_X1_normOf (l : Launch) (D : va_G) (tys : List (ClassId × FieldType)) (nw : List Cond) (hn : nw.all nw_kind = true) (hnw : ∀ w ∈ nw0, w ∈ nw) {ad : Nat → Nat} (hj : ww_inj 46 ad) {cI : ClassId} {cR : ClassId} (htI : tys[0]? = some (cI, .int)) (htR : tys[1]? = some (cR, .object RX2)) {fu : Nat} {M : Fin 20 → Nat → Int32} {E : Nat → Int32} {P : Nat → Fin 20} {C : Nat → Int32} {N : Nat → Int32} {p0 : Fin 20} {res : Fin 20 × (Fin 20 → Nat → Int32)} (hf : f_X1_normOf fu M E p0 = some res) :
    Met l yX1_normOf wsX1_normOf ({ frames := 3, cells := 0, slots := 0, locals := 70 }) (va_Pc [.ref (ad 41), .ref (ra ad p0)] (ws_B D tys nw (ww 46 ad (cellC cI cR ad M E P C N)))) (ct_Q D (ww 46 ad (cellC cI cR ad res.2 E P C N)) (ww_A 46 ad) (some (.ref (ra ad res.1)))) 0 0 (ww_A 46 ad) := by
  refine Met.ofW (cc := cX1_normOf) (maxL := 5) (ret := (some (.object "NumberFieldFactors$Row"))) (by decide) rfl ?_
  intro p e s m args below meth c s₁ B hml hv
  obtain ⟨rfl, hP, hK, hN⟩ := hv
  have hx := B.exec
  have hb := B.bytes
  have hr := B.returns
  have hts := atoms_spec (ws := wsX1_normOf) B.pre
  have hown : s.vm.findClass RX1 = some m.cls := findClass_of_methodNamed B.named
  have hlocks := B.notSynchronized
  have hS : va_S (ww_A 46 ad) s.heap s.heap [] := va_S.rf
  have hl := lv_entry ([.ref (ad 41), .ref (ra ad p0)]) (n := 5) (Nat.le_of_ble_eq_true rfl)
  rw [lg_entry_eq]
  generalize (lg_sl ([.ref (ad 41), .ref (ra ad p0)]) ++ List.replicate (5 - (lg_sl ([.ref (ad 41), .ref (ra ad p0)])).length) Slot.unset).toArray = ls at hl ⊢
  have hl : lv_has ls 5 [(0, .ref (ad 41)), (1, .ref (ra ad p0))] := hl
  have L37 : ∀ (x1 : Fin 20) (x2 : Int32) (x3 : Int32) (k37 : Int32 → (Fin 20 → Nat → Int32) → Option (Fin 20 × (Fin 20 → Nat → Int32))), (∀ (x4 : Int32) (M : Fin 20 → Nat → Int32) (H : Heap) (locs : List Loc) (ls : Array Slot), va_P D vwCl (ww 46 ad (cellC cI cR ad M E P C N)) H → va_S (ww_A 46 ad) s.heap H locs → lv_has ls 5 [(0, .ref (ad 41)), (1, .ref (ra ad x1)), (2, .int x2), (3, .int x3), (4, .int x4)] →  k37 x4 M = some res → W p l e (headSpec wsX1_normOf { frames := 3, cells := 0, slots := 0, locals := 70 }).room s m [.ref (ad 41), .ref (ra ad p0)].toArray below meth c H locs 0 0 (MQ below (ct_Q D (ww 46 ad (cellC cI cR ad res.2 E P C N)) (ww_A 46 ad) (some (.ref (ra ad res.1)))) [.ref (ad 41), .ref (ra ad p0)].toArray s 0 0 (ww_A 46 ad)) (F0 m 74 ls [])) → ∀ (n : Nat) (x4 : Int32) (M : Fin 20 → Nat → Int32) (H : Heap) (locs : List Loc) (ls : Array Slot), va_P D vwCl (ww 46 ad (cellC cI cR ad M E P C N)) H → va_S (ww_A 46 ad) s.heap H locs → lv_has ls 5 [(0, .ref (ad 41)), (1, .ref (ra ad x1)), (2, .int x2), (3, .int x3), (4, .int x4)] →  f_X1_normOf_l37 k37 fu E x1 x2 x3 n x4 M = some res → W p l e (headSpec wsX1_normOf { frames := 3, cells := 0, slots := 0, locals := 70 }).room s m [.ref (ad 41), .ref (ra ad p0)].toArray below meth c H locs 0 0 (MQ below (ct_Q D (ww 46 ad (cellC cI cR ad res.2 E P C N)) (ww_A 46 ad) (some (.ref (ra ad res.1)))) [.ref (ad 41), .ref (ra ad p0)].toArray s 0 0 (ww_A 46 ad)) (F0 m 37 ls []) := by
    intro x1 x2 x3 k37 hk_37 n
    induction n with
    | zero => intro x4 M H locs ls hP hS hl hf; rw [f_X1_normOf_l37] at hf; cases hf
    | succ n ih =>
      intro x4 M H locs ls hP hS hl hf
      rw [f_X1_normOf_l37] at hf
      refine lv_iload hx hb dX1_normOf_37 (lv_at hl 4 rfl) ?_
      refine lv_iload_n hx hb dX1_normOf_39 rfl (lv_at hl 2 rfl) ?_
      refine lv_icmp_gt (tgt := 74) hx hb dX1_normOf_40 (by decide) (fun c8 => ?_) (fun c8 => ?_)
      · rw [if_pos c8] at hf
        exact hk_37 x4 M _ _ _ hP hS (lv_sub hl [0, 1, 2, 3, 4] rfl) hf
      · rw [if_neg c8] at hf
        refine lv_aload_n hx hb dX1_normOf_43 rfl (lv_at hl 0 rfl) ?_
        refine va_get (ci := 1) (v := .ref (ra ad (6 : Fin 20))) (C := RX1) (T := TX1) (N := 11) hx hb hts (by decide +kernel) hown hK hP 41 cc_ring rfl 6 (by decide) (hts (.fieldLink RX1 37 "NumberFieldFactors$Ring" "mates" "LNumberFieldFactors$Row;") (by decide +kernel)) (fun _ h9 => h9) rfl dX1_normOf_44 ?_
        refine lv_iload hx hb dX1_normOf_47 (lv_at hl 4 rfl) ?_
        refine lv_aload_n hx hb dX1_normOf_49 rfl (lv_at hl 0 rfl) ?_
        refine va_get (ci := 1) (v := .ref (ad 40)) (C := RX1) (T := TX1) (N := 11) hx hb hts (by decide +kernel) hown hK hP 41 cc_ring rfl 0 (by decide) (hts (.fieldLink RX1 12 "NumberFieldFactors$Ring" "extension" "LNumberFieldFactors$Extension;") (by decide +kernel)) (fun _ h9 => h9) rfl dX1_normOf_50 ?_
        refine lv_aload_n hx hb dX1_normOf_53 rfl (lv_at hl 0 rfl) ?_
        refine va_get (ci := 1) (v := .ref (ra ad (6 : Fin 20))) (C := RX1) (T := TX1) (N := 11) hx hb hts (by decide +kernel) hown hK hP 41 cc_ring rfl 6 (by decide) (hts (.fieldLink RX1 37 "NumberFieldFactors$Ring" "mates" "LNumberFieldFactors$Row;") (by decide +kernel)) (fun _ h9 => h9) rfl dX1_normOf_54 ?_
        refine lv_iload hx hb dX1_normOf_57 (lv_at hl 4 rfl) ?_
        obtain ⟨u9, g10, hf⟩ := Option.bind_eq_some_iff.mp hf
        try dsimp only at hf
        refine ct_call (va_runV (As := [.int x4]) (rest := [.ref (ad 40), .int x4, .ref (ra ad (6 : Fin 20))]) ⟨hx, hb, hml, hown, hts⟩ (C_X2_get l D tys nw hn hnw hj htI htR (res := u9) g10) (cwV 1 hts gX1_normOf_X2_get rfl rfl rfl (by decide +kernel) ⟨Nat.le_of_ble_eq_true rfl, Nat.le_of_ble_eq_true rfl⟩) (ct_preV hn hP hK hN (ci := 2) (k := (20 + ((6 : Fin 20)).val)) rfl (ra_lt (6 : Fin 20)) (cl_row (6 : Fin 20))) rfl rfl hl.1 rfl (lv_room (Nat.le_of_ble_eq_true rfl)) dX1_normOf_59 ⟨Nat.zero_le _, Nat.zero_le _⟩) hS (fun H locs hP hS => ?_)
        obtain ⟨u11, g12, hf⟩ := Option.bind_eq_some_iff.mp hf
        try dsimp only at hf
        refine ct_call (va_runV (As := [.int u9]) (rest := [.int x4, .ref (ra ad (6 : Fin 20))]) ⟨hx, hb, hml, hown, hts⟩ (C_X0_mate l D tys nw hn hnw hj htI htR (res := u11) g12) (cwV 1 hts gX1_normOf_X0_mate rfl rfl rfl (by decide +kernel) ⟨Nat.le_of_ble_eq_true rfl, Nat.le_of_ble_eq_true rfl⟩) (ct_preV hn hP hK hN (ci := 0) (k := 40) rfl (by decide) rfl) rfl rfl hl.1 rfl (lv_room (Nat.le_of_ble_eq_true rfl)) dX1_normOf_62 ⟨Nat.zero_le _, Nat.zero_le _⟩) hS (fun H locs hP hS => ?_)
        obtain ⟨u13, g14, hf⟩ := Option.bind_eq_some_iff.mp hf
        try dsimp only at hf
        refine ct_call (va_runV (As := [.int x4, .int u11]) (rest := []) ⟨hx, hb, hml, hown, hts⟩ (C_X2_set l D tys nw hn hnw hj htI htR (res := u13) g14) (cwV 2 hts gX1_normOf_X2_set rfl rfl rfl (by decide +kernel) ⟨Nat.le_of_ble_eq_true rfl, Nat.le_of_ble_eq_true rfl⟩) (ct_preV hn hP hK hN (ci := 2) (k := (20 + ((6 : Fin 20)).val)) rfl (ra_lt (6 : Fin 20)) (cl_row (6 : Fin 20))) rfl rfl hl.1 rfl (lv_room (Nat.le_of_ble_eq_true rfl)) dX1_normOf_65 ⟨Nat.zero_le _, Nat.zero_le _⟩) hS (fun H locs hP hS => ?_)
        refine lv_iinc (v := x4 + 1) (lv' := [(4, .int (x4 + 1)), (0, .ref (ad 41)), (1, .ref (ra ad x1)), (2, .int x2), (3, .int x3)]) hx hb dX1_normOf_68 hl (k := 4) rfl rfl (by decide) rfl (fun ls hl => ?_)
        refine lv_goto (tgt := 37) hx hb dX1_normOf_71 (by decide) ?_
        exact ih (x4 + 1) u13 _ _ _ hP hS (lv_sub hl [1, 2, 3, 4, 0] rfl) hf
  have L23 : ∀ (x1 : Fin 20) (x2 : Int32) (k23 : Int32 → (Fin 20 → Nat → Int32) → Option (Fin 20 × (Fin 20 → Nat → Int32))), (∀ (x3 : Int32) (M : Fin 20 → Nat → Int32) (H : Heap) (locs : List Loc) (ls : Array Slot), va_P D vwCl (ww 46 ad (cellC cI cR ad M E P C N)) H → va_S (ww_A 46 ad) s.heap H locs → lv_has ls 5 [(0, .ref (ad 41)), (1, .ref (ra ad x1)), (2, .int x2), (3, .int x3)] →  k23 x3 M = some res → W p l e (headSpec wsX1_normOf { frames := 3, cells := 0, slots := 0, locals := 70 }).room s m [.ref (ad 41), .ref (ra ad p0)].toArray below meth c H locs 0 0 (MQ below (ct_Q D (ww 46 ad (cellC cI cR ad res.2 E P C N)) (ww_A 46 ad) (some (.ref (ra ad res.1)))) [.ref (ad 41), .ref (ra ad p0)].toArray s 0 0 (ww_A 46 ad)) (F0 m 92 ls [])) → ∀ (n : Nat) (x3 : Int32) (M : Fin 20 → Nat → Int32) (H : Heap) (locs : List Loc) (ls : Array Slot), va_P D vwCl (ww 46 ad (cellC cI cR ad M E P C N)) H → va_S (ww_A 46 ad) s.heap H locs → lv_has ls 5 [(0, .ref (ad 41)), (1, .ref (ra ad x1)), (2, .int x2), (3, .int x3)] →  f_X1_normOf_l23 k23 fu E x1 x2 n x3 M = some res → W p l e (headSpec wsX1_normOf { frames := 3, cells := 0, slots := 0, locals := 70 }).room s m [.ref (ad 41), .ref (ra ad p0)].toArray below meth c H locs 0 0 (MQ below (ct_Q D (ww 46 ad (cellC cI cR ad res.2 E P C N)) (ww_A 46 ad) (some (.ref (ra ad res.1)))) [.ref (ad 41), .ref (ra ad p0)].toArray s 0 0 (ww_A 46 ad)) (F0 m 23 ls []) := by
    intro x1 x2 k23 hk_23 n
    induction n with
    | zero => intro x3 M H locs ls hP hS hl hf; rw [f_X1_normOf_l23] at hf; cases hf
    | succ n ih =>
      intro x3 M H locs ls hP hS hl hf
      rw [f_X1_normOf_l23] at hf
      refine lv_iload_n hx hb dX1_normOf_23 rfl (lv_at hl 3 rfl) ?_
      refine lv_aload_n hx hb dX1_normOf_24 rfl (lv_at hl 0 rfl) ?_
      refine va_get (ci := 1) (v := .ref (ad 40)) (C := RX1) (T := TX1) (N := 11) hx hb hts (by decide +kernel) hown hK hP 41 cc_ring rfl 0 (by decide) (hts (.fieldLink RX1 12 "NumberFieldFactors$Ring" "extension" "LNumberFieldFactors$Extension;") (by decide +kernel)) (fun _ h9 => h9) rfl dX1_normOf_25 ?_
      refine va_getN (ci := 0) (v := .int (E 0)) (C := RX0) (T := TX0) (N := 8) (host := "NumberFieldFactors") hx hb hts (by decide +kernel) hown hK hP 40 cc_ext rfl 0 (by decide) (va_Nw.use rfl (hN (.fieldLinkNest RX1 109 "NumberFieldFactors$Extension" "degree" "I" "NumberFieldFactors") (hnw _ (by decide +kernel)))) (fun _ h9 => h9) rfl dX1_normOf_28 ?_
      refine lv_icmp_ge (tgt := 92) hx hb dX1_normOf_31 (by decide) (fun c7 => ?_) (fun c7 => ?_)
      · rw [if_pos c7] at hf
        exact hk_23 x3 M _ _ _ hP hS (lv_sub hl [0, 1, 2, 3] rfl) hf
      · rw [if_neg c7] at hf
        refine lv_iconst (v := 0) hx hb dX1_normOf_34 (by decide) ?_
        refine lv_istore (lv' := [(4, .int 0), (0, .ref (ad 41)), (1, .ref (ra ad x1)), (2, .int x2), (3, .int x3)]) hx hb dX1_normOf_35 hl (by decide) rfl (fun ls hl => ?_)
        refine L37 x1 x2 x3 _ (fun y15 M16 H locs ls hP hS hl hf => ?_) fu 0 M _ _ _ hP hS (lv_sub hl [1, 2, 3, 4, 0] rfl) hf
        try dsimp only at hf
        refine lv_aload_n hx hb dX1_normOf_74 rfl (lv_at hl 0 rfl) ?_
        refine lv_aload_n hx hb dX1_normOf_75 rfl (lv_at hl 0 rfl) ?_
        refine va_get (ci := 1) (v := .ref (ra ad (7 : Fin 20))) (C := RX1) (T := TX1) (N := 11) hx hb hts (by decide +kernel) hown hK hP 41 cc_ring rfl 7 (by decide) (hts (.fieldLink RX1 40 "NumberFieldFactors$Ring" "product" "LNumberFieldFactors$Row;") (by decide +kernel)) (fun _ h9 => h9) rfl dX1_normOf_76 ?_
        refine lv_aload_n hx hb dX1_normOf_79 rfl (lv_at hl 0 rfl) ?_
        refine va_get (ci := 1) (v := .ref (ra ad (6 : Fin 20))) (C := RX1) (T := TX1) (N := 11) hx hb hts (by decide +kernel) hown hK hP 41 cc_ring rfl 6 (by decide) (hts (.fieldLink RX1 37 "NumberFieldFactors$Ring" "mates" "LNumberFieldFactors$Row;") (by decide +kernel)) (fun _ h9 => h9) rfl dX1_normOf_80 ?_
        obtain ⟨u17, g18, hf⟩ := Option.bind_eq_some_iff.mp hf
        try dsimp only at hf
        refine ct_call (va_runV (As := [.ref (ra ad (7 : Fin 20)), .ref (ra ad (6 : Fin 20))]) (rest := []) ⟨hx, hb, hml, hown, hts⟩ (C_X1_multiply l D tys nw hn hnw hj htI htR (res := u17) g18) (cwV 2 hts gX1_normOf_X1_multiply rfl rfl rfl (by decide +kernel) ⟨Nat.le_of_ble_eq_true rfl, Nat.le_of_ble_eq_true rfl⟩) (ct_preV hn hP hK hN (ci := 1) (k := 41) rfl (by decide) rfl) rfl rfl hl.1 rfl (lv_room (Nat.le_of_ble_eq_true rfl)) dX1_normOf_83 ⟨Nat.zero_le _, Nat.zero_le _⟩) hS (fun H locs hP hS => ?_)
        refine lv_iinc (v := x3 + 1) (lv' := [(3, .int (x3 + 1)), (0, .ref (ad 41)), (1, .ref (ra ad x1)), (2, .int x2), (4, .int y15)]) hx hb dX1_normOf_86 hl (k := 3) rfl rfl (by decide) rfl (fun ls hl => ?_)
        refine lv_goto (tgt := 23) hx hb dX1_normOf_89 (by decide) ?_
        exact ih (x3 + 1) u17 _ _ _ hP hS (lv_sub hl [1, 2, 3, 0] rfl) hf
  unfold f_X1_normOf at hf
  refine lv_aload_n hx hb dX1_normOf_0 rfl (lv_at hl 0 rfl) ?_
  refine va_get (ci := 1) (v := .ref (ra ad (7 : Fin 20))) (C := RX1) (T := TX1) (N := 11) hx hb hts (by decide +kernel) hown hK hP 41 cc_ring rfl 7 (by decide) (hts (.fieldLink RX1 40 "NumberFieldFactors$Ring" "product" "LNumberFieldFactors$Row;") (by decide +kernel)) (fun _ h9 => h9) rfl dX1_normOf_1 ?_
  refine lv_aload_n hx hb dX1_normOf_4 rfl (lv_at hl 1 rfl) ?_
  obtain ⟨u1, g2, hf⟩ := Option.bind_eq_some_iff.mp hf
  try dsimp only at hf
  refine ct_call (va_runV (As := [.ref (ra ad p0)]) (rest := []) ⟨hx, hb, hml, hown, hts⟩ (C_X2_copy l D tys nw hn hnw hj htI htR (res := u1) g2) (cwV 1 hts gX1_normOf_X2_copy rfl rfl rfl (by decide +kernel) ⟨Nat.le_of_ble_eq_true rfl, Nat.le_of_ble_eq_true rfl⟩) (ct_preV hn hP hK hN (ci := 2) (k := (20 + ((7 : Fin 20)).val)) rfl (ra_lt (7 : Fin 20)) (cl_row (7 : Fin 20))) rfl rfl hl.1 rfl (lv_room (Nat.le_of_ble_eq_true rfl)) dX1_normOf_5 ⟨Nat.zero_le _, Nat.zero_le _⟩) hS (fun H locs hP hS => ?_)
  refine lv_aload_n hx hb dX1_normOf_8 rfl (lv_at hl 0 rfl) ?_
  refine va_get (ci := 1) (v := .ref (ra ad (6 : Fin 20))) (C := RX1) (T := TX1) (N := 11) hx hb hts (by decide +kernel) hown hK hP 41 cc_ring rfl 6 (by decide) (hts (.fieldLink RX1 37 "NumberFieldFactors$Ring" "mates" "LNumberFieldFactors$Row;") (by decide +kernel)) (fun _ h9 => h9) rfl dX1_normOf_9 ?_
  refine lv_aload_n hx hb dX1_normOf_12 rfl (lv_at hl 1 rfl) ?_
  obtain ⟨u3, g4, hf⟩ := Option.bind_eq_some_iff.mp hf
  try dsimp only at hf
  refine ct_call (va_runV (As := [.ref (ra ad p0)]) (rest := []) ⟨hx, hb, hml, hown, hts⟩ (C_X2_copy l D tys nw hn hnw hj htI htR (res := u3) g4) (cwV 1 hts gX1_normOf_X2_copy rfl rfl rfl (by decide +kernel) ⟨Nat.le_of_ble_eq_true rfl, Nat.le_of_ble_eq_true rfl⟩) (ct_preV hn hP hK hN (ci := 2) (k := (20 + ((6 : Fin 20)).val)) rfl (ra_lt (6 : Fin 20)) (cl_row (6 : Fin 20))) rfl rfl hl.1 rfl (lv_room (Nat.le_of_ble_eq_true rfl)) dX1_normOf_13 ⟨Nat.zero_le _, Nat.zero_le _⟩) hS (fun H locs hP hS => ?_)
  refine lv_aload_n hx hb dX1_normOf_16 rfl (lv_at hl 1 rfl) ?_
  obtain ⟨u5, g6, hf⟩ := Option.bind_eq_some_iff.mp hf
  try dsimp only at hf
  refine ct_call (va_runV (As := []) (rest := []) ⟨hx, hb, hml, hown, hts⟩ (C_X2_degree l D tys nw hn hnw hj htI htR (res := u5) g6) (cwV 0 hts gX1_normOf_X2_degree rfl rfl rfl (by decide +kernel) ⟨Nat.le_of_ble_eq_true rfl, Nat.le_of_ble_eq_true rfl⟩) (ct_preV hn hP hK hN (ci := 2) (k := (20 + (p0).val)) rfl (ra_lt p0) (cl_row p0)) rfl rfl hl.1 rfl (lv_room (Nat.le_of_ble_eq_true rfl)) dX1_normOf_17 ⟨Nat.zero_le _, Nat.zero_le _⟩) hS (fun H locs hP hS => ?_)
  refine lv_istore_n (lv' := [(2, .int u5), (0, .ref (ad 41)), (1, .ref (ra ad p0))]) hx hb dX1_normOf_20 rfl hl (by decide) rfl (fun ls hl => ?_)
  refine lv_iconst (v := 1) hx hb dX1_normOf_21 (by decide) ?_
  refine lv_istore_n (lv' := [(3, .int 1), (2, .int u5), (0, .ref (ad 41)), (1, .ref (ra ad p0))]) hx hb dX1_normOf_22 rfl hl (by decide) rfl (fun ls hl => ?_)
  refine L23 p0 u5 _ (fun y19 M20 H locs ls hP hS hl hf => ?_) fu 1 u3 _ _ _ hP hS (lv_sub hl [2, 3, 1, 0] rfl) hf
  try dsimp only at hf
  refine lv_aload_n hx hb dX1_normOf_92 rfl (lv_at hl 0 rfl) ?_
  refine va_get (ci := 1) (v := .ref (ra ad (7 : Fin 20))) (C := RX1) (T := TX1) (N := 11) hx hb hts (by decide +kernel) hown hK hP 41 cc_ring rfl 7 (by decide) (hts (.fieldLink RX1 40 "NumberFieldFactors$Ring" "product" "LNumberFieldFactors$Row;") (by decide +kernel)) (fun _ h9 => h9) rfl dX1_normOf_93 ?_
  obtain rfl := Option.some.inj hf
  exact W.aret (v := .ref (ra ad (7 : Fin 20))) hx hb hr (Or.inl ⟨_, rfl⟩) (Or.inr ⟨_, rfl⟩) (fun t ht hW => ⟨rfl, by rw [ht]; exact hP, hS.F ht⟩) hS.2.2 dX1_normOf_96
def f_X1_leastPolynomial_l21 (k21 : Int32 → Int32 → (Fin 20 → Nat → Int32) → Option (Fin 20 × (Fin 20 → Nat → Int32))) (fu : Nat) (E : Nat → Int32) (x1 : Int32) (x2 : Int32) : Nat → Int32 → Int32 → (Fin 20 → Nat → Int32) → Option (Fin 20 × (Fin 20 → Nat → Int32))
  | 0, _, _, _ => none
  | n + 1, x3, x4, M =>
    if x2 ≤ x4 then
      k21 x3 x4 M
    else
      (f_X0_minus 0 x3).bind (fun u6 =>
      (f_X1_multiplyLinear fu M E (9 : Fin 20) u6).bind (fun u8 =>
      (f_X0_mate E x3).bind (fun u10 =>
      f_X1_leastPolynomial_l21 k21 fu E x1 x2 n u10 (x4 + 1) u8)))
def f_X1_leastPolynomial (fu : Nat) (M : Fin 20 → Nat → Int32) (E : Nat → Int32) (p0 : Int32) : Option (Fin 20 × (Fin 20 → Nat → Int32)) :=
  (f_X0_differentMates E p0).bind (fun u1 =>
  (f_X2_becomeOne fu M (9 : Fin 20)).bind (fun u3 =>
  f_X1_leastPolynomial_l21 (fun y12 y13 M14 =>
    some ((9 : Fin 20), M14)) fu E p0 u1 fu p0 0 u3))
set_option maxHeartbeats 4000000 in
set_option maxRecDepth 100000 in
theorem C_X1_leastPolynomial (l : Launch) (D : va_G) (tys : List (ClassId × FieldType)) (nw : List Cond) (hn : nw.all nw_kind = true) (hnw : ∀ w ∈ nw0, w ∈ nw) {ad : Nat → Nat} (hj : ww_inj 46 ad) {cI : ClassId} {cR : ClassId} (htI : tys[0]? = some (cI, .int)) (htR : tys[1]? = some (cR, .object RX2)) {fu : Nat} {M : Fin 20 → Nat → Int32} {E : Nat → Int32} {P : Nat → Fin 20} {C : Nat → Int32} {N : Nat → Int32} {p0 : Int32} {res : Fin 20 × (Fin 20 → Nat → Int32)} (hf : f_X1_leastPolynomial fu M E p0 = some res) :
    Met l yX1_leastPolynomial wsX1_leastPolynomial ({ frames := 3, cells := 0, slots := 0, locals := 78 }) (va_Pc [.ref (ad 41), .int p0] (ws_B D tys nw (ww 46 ad (cellC cI cR ad M E P C N)))) (ct_Q D (ww 46 ad (cellC cI cR ad res.2 E P C N)) (ww_A 46 ad) (some (.ref (ra ad res.1)))) 0 0 (ww_A 46 ad) := by
  refine Met.ofW (cc := cX1_leastPolynomial) (maxL := 5) (ret := (some (.object "NumberFieldFactors$Row"))) (by decide) rfl ?_
  intro p e s m args below meth c s₁ B hml hv
  obtain ⟨rfl, hP, hK, hN⟩ := hv
  have hx := B.exec
  have hb := B.bytes
  have hr := B.returns
  have hts := atoms_spec (ws := wsX1_leastPolynomial) B.pre
  have hown : s.vm.findClass RX1 = some m.cls := findClass_of_methodNamed B.named
  have hlocks := B.notSynchronized
  have hS : va_S (ww_A 46 ad) s.heap s.heap [] := va_S.rf
  have hl := lv_entry ([.ref (ad 41), .int p0]) (n := 5) (Nat.le_of_ble_eq_true rfl)
  rw [lg_entry_eq]
  generalize (lg_sl ([.ref (ad 41), .int p0]) ++ List.replicate (5 - (lg_sl ([.ref (ad 41), .int p0])).length) Slot.unset).toArray = ls at hl ⊢
  have hl : lv_has ls 5 [(0, .ref (ad 41)), (1, .int p0)] := hl
  have L21 : ∀ (x1 : Int32) (x2 : Int32) (k21 : Int32 → Int32 → (Fin 20 → Nat → Int32) → Option (Fin 20 × (Fin 20 → Nat → Int32))), (∀ (x3 : Int32) (x4 : Int32) (M : Fin 20 → Nat → Int32) (H : Heap) (locs : List Loc) (ls : Array Slot), va_P D vwCl (ww 46 ad (cellC cI cR ad M E P C N)) H → va_S (ww_A 46 ad) s.heap H locs → lv_has ls 5 [(0, .ref (ad 41)), (1, .int x1), (2, .int x2), (3, .int x3), (4, .int x4)] →  k21 x3 x4 M = some res → W p l e (headSpec wsX1_leastPolynomial { frames := 3, cells := 0, slots := 0, locals := 78 }).room s m [.ref (ad 41), .int p0].toArray below meth c H locs 0 0 (MQ below (ct_Q D (ww 46 ad (cellC cI cR ad res.2 E P C N)) (ww_A 46 ad) (some (.ref (ra ad res.1)))) [.ref (ad 41), .int p0].toArray s 0 0 (ww_A 46 ad)) (F0 m 59 ls [])) → ∀ (n : Nat) (x3 : Int32) (x4 : Int32) (M : Fin 20 → Nat → Int32) (H : Heap) (locs : List Loc) (ls : Array Slot), va_P D vwCl (ww 46 ad (cellC cI cR ad M E P C N)) H → va_S (ww_A 46 ad) s.heap H locs → lv_has ls 5 [(0, .ref (ad 41)), (1, .int x1), (2, .int x2), (3, .int x3), (4, .int x4)] →  f_X1_leastPolynomial_l21 k21 fu E x1 x2 n x3 x4 M = some res → W p l e (headSpec wsX1_leastPolynomial { frames := 3, cells := 0, slots := 0, locals := 78 }).room s m [.ref (ad 41), .int p0].toArray below meth c H locs 0 0 (MQ below (ct_Q D (ww 46 ad (cellC cI cR ad res.2 E P C N)) (ww_A 46 ad) (some (.ref (ra ad res.1)))) [.ref (ad 41), .int p0].toArray s 0 0 (ww_A 46 ad)) (F0 m 21 ls []) := by
    intro x1 x2 k21 hk_21 n
    induction n with
    | zero => intro x3 x4 M H locs ls hP hS hl hf; rw [f_X1_leastPolynomial_l21] at hf; cases hf
    | succ n ih =>
      intro x3 x4 M H locs ls hP hS hl hf
      rw [f_X1_leastPolynomial_l21] at hf
      refine lv_iload hx hb dX1_leastPolynomial_21 (lv_at hl 4 rfl) ?_
      refine lv_iload_n hx hb dX1_leastPolynomial_23 rfl (lv_at hl 2 rfl) ?_
      refine lv_icmp_ge (tgt := 59) hx hb dX1_leastPolynomial_24 (by decide) (fun c5 => ?_) (fun c5 => ?_)
      · rw [if_pos c5] at hf
        exact hk_21 x3 x4 M _ _ _ hP hS (lv_sub hl [0, 1, 2, 3, 4] rfl) hf
      · rw [if_neg c5] at hf
        refine lv_aload_n hx hb dX1_leastPolynomial_27 rfl (lv_at hl 0 rfl) ?_
        refine lv_aload_n hx hb dX1_leastPolynomial_28 rfl (lv_at hl 0 rfl) ?_
        refine va_get (ci := 1) (v := .ref (ra ad (9 : Fin 20))) (C := RX1) (T := TX1) (N := 11) hx hb hts (by decide +kernel) hown hK hP 41 cc_ring rfl 9 (by decide) (hts (.fieldLink RX1 46 "NumberFieldFactors$Ring" "least" "LNumberFieldFactors$Row;") (by decide +kernel)) (fun _ h9 => h9) rfl dX1_leastPolynomial_29 ?_
        refine lv_aload_n hx hb dX1_leastPolynomial_32 rfl (lv_at hl 0 rfl) ?_
        refine va_get (ci := 1) (v := .ref (ad 40)) (C := RX1) (T := TX1) (N := 11) hx hb hts (by decide +kernel) hown hK hP 41 cc_ring rfl 0 (by decide) (hts (.fieldLink RX1 12 "NumberFieldFactors$Ring" "extension" "LNumberFieldFactors$Extension;") (by decide +kernel)) (fun _ h9 => h9) rfl dX1_leastPolynomial_33 ?_
        refine lv_iconst (v := 0) hx hb dX1_leastPolynomial_36 (by decide) ?_
        refine lv_iload_n hx hb dX1_leastPolynomial_37 rfl (lv_at hl 3 rfl) ?_
        obtain ⟨u6, g7, hf⟩ := Option.bind_eq_some_iff.mp hf
        try dsimp only at hf
        refine ct_call (va_runV (As := [.int 0, .int x3]) (rest := [.ref (ra ad (9 : Fin 20)), .ref (ad 41)]) ⟨hx, hb, hml, hown, hts⟩ (C_X0_minus l D tys nw hn hnw hj htI htR (res := u6) g7) (cwV 2 hts gX1_leastPolynomial_X0_minus rfl rfl rfl (by decide +kernel) ⟨Nat.le_of_ble_eq_true rfl, Nat.le_of_ble_eq_true rfl⟩) (ct_preV hn hP hK hN (ci := 0) (k := 40) rfl (by decide) rfl) rfl rfl hl.1 rfl (lv_room (Nat.le_of_ble_eq_true rfl)) dX1_leastPolynomial_38 ⟨Nat.zero_le _, Nat.zero_le _⟩) hS (fun H locs hP hS => ?_)
        obtain ⟨u8, g9, hf⟩ := Option.bind_eq_some_iff.mp hf
        try dsimp only at hf
        refine ct_call (va_runV (As := [.ref (ra ad (9 : Fin 20)), .int u6]) (rest := []) ⟨hx, hb, hml, hown, hts⟩ (C_X1_multiplyLinear l D tys nw hn hnw hj htI htR (res := u8) g9) (cwV 2 hts gX1_leastPolynomial_X1_multiplyLinear rfl rfl rfl (by decide +kernel) ⟨Nat.le_of_ble_eq_true rfl, Nat.le_of_ble_eq_true rfl⟩) (ct_preV hn hP hK hN (ci := 1) (k := 41) rfl (by decide) rfl) rfl rfl hl.1 rfl (lv_room (Nat.le_of_ble_eq_true rfl)) dX1_leastPolynomial_41 ⟨Nat.zero_le _, Nat.zero_le _⟩) hS (fun H locs hP hS => ?_)
        refine lv_aload_n hx hb dX1_leastPolynomial_44 rfl (lv_at hl 0 rfl) ?_
        refine va_get (ci := 1) (v := .ref (ad 40)) (C := RX1) (T := TX1) (N := 11) hx hb hts (by decide +kernel) hown hK hP 41 cc_ring rfl 0 (by decide) (hts (.fieldLink RX1 12 "NumberFieldFactors$Ring" "extension" "LNumberFieldFactors$Extension;") (by decide +kernel)) (fun _ h9 => h9) rfl dX1_leastPolynomial_45 ?_
        refine lv_iload_n hx hb dX1_leastPolynomial_48 rfl (lv_at hl 3 rfl) ?_
        obtain ⟨u10, g11, hf⟩ := Option.bind_eq_some_iff.mp hf
        try dsimp only at hf
        refine ct_call (va_runV (As := [.int x3]) (rest := []) ⟨hx, hb, hml, hown, hts⟩ (C_X0_mate l D tys nw hn hnw hj htI htR (res := u10) g11) (cwV 1 hts gX1_leastPolynomial_X0_mate rfl rfl rfl (by decide +kernel) ⟨Nat.le_of_ble_eq_true rfl, Nat.le_of_ble_eq_true rfl⟩) (ct_preV hn hP hK hN (ci := 0) (k := 40) rfl (by decide) rfl) rfl rfl hl.1 rfl (lv_room (Nat.le_of_ble_eq_true rfl)) dX1_leastPolynomial_49 ⟨Nat.zero_le _, Nat.zero_le _⟩) hS (fun H locs hP hS => ?_)
        refine lv_istore_n (lv' := [(3, .int u10), (0, .ref (ad 41)), (1, .int x1), (2, .int x2), (4, .int x4)]) hx hb dX1_leastPolynomial_52 rfl hl (by decide) rfl (fun ls hl => ?_)
        refine lv_iinc (v := x4 + 1) (lv' := [(4, .int (x4 + 1)), (3, .int u10), (0, .ref (ad 41)), (1, .int x1), (2, .int x2)]) hx hb dX1_leastPolynomial_53 hl (k := 4) rfl rfl (by decide) rfl (fun ls hl => ?_)
        refine lv_goto (tgt := 21) hx hb dX1_leastPolynomial_56 (by decide) ?_
        exact ih u10 (x4 + 1) u8 _ _ _ hP hS (lv_sub hl [2, 3, 4, 1, 0] rfl) hf
  unfold f_X1_leastPolynomial at hf
  refine lv_aload_n hx hb dX1_leastPolynomial_0 rfl (lv_at hl 0 rfl) ?_
  refine va_get (ci := 1) (v := .ref (ad 40)) (C := RX1) (T := TX1) (N := 11) hx hb hts (by decide +kernel) hown hK hP 41 cc_ring rfl 0 (by decide) (hts (.fieldLink RX1 12 "NumberFieldFactors$Ring" "extension" "LNumberFieldFactors$Extension;") (by decide +kernel)) (fun _ h9 => h9) rfl dX1_leastPolynomial_1 ?_
  refine lv_iload_n hx hb dX1_leastPolynomial_4 rfl (lv_at hl 1 rfl) ?_
  obtain ⟨u1, g2, hf⟩ := Option.bind_eq_some_iff.mp hf
  try dsimp only at hf
  refine ct_call (va_runV (As := [.int p0]) (rest := []) ⟨hx, hb, hml, hown, hts⟩ (C_X0_differentMates l D tys nw hn hnw hj htI htR (res := u1) g2) (cwV 1 hts gX1_leastPolynomial_X0_differentMates rfl rfl rfl (by decide +kernel) ⟨Nat.le_of_ble_eq_true rfl, Nat.le_of_ble_eq_true rfl⟩) (ct_preV hn hP hK hN (ci := 0) (k := 40) rfl (by decide) rfl) rfl rfl hl.1 rfl (lv_room (Nat.le_of_ble_eq_true rfl)) dX1_leastPolynomial_5 ⟨Nat.zero_le _, Nat.zero_le _⟩) hS (fun H locs hP hS => ?_)
  refine lv_istore_n (lv' := [(2, .int u1), (0, .ref (ad 41)), (1, .int p0)]) hx hb dX1_leastPolynomial_8 rfl hl (by decide) rfl (fun ls hl => ?_)
  refine lv_iload_n hx hb dX1_leastPolynomial_9 rfl (lv_at hl 2 rfl) ?_
  refine lv_istore_n (lv' := [(3, .int p0), (2, .int u1), (0, .ref (ad 41)), (1, .int p0)]) hx hb dX1_leastPolynomial_10 rfl hl (by decide) rfl (fun ls hl => ?_)
  refine lv_aload_n hx hb dX1_leastPolynomial_11 rfl (lv_at hl 2 rfl) ?_
  refine va_get (ci := 1) (v := .ref (ra ad (9 : Fin 20))) (C := RX1) (T := TX1) (N := 11) hx hb hts (by decide +kernel) hown hK hP 41 cc_ring rfl 9 (by decide) (hts (.fieldLink RX1 46 "NumberFieldFactors$Ring" "least" "LNumberFieldFactors$Row;") (by decide +kernel)) (fun _ h9 => h9) rfl dX1_leastPolynomial_12 ?_
  obtain ⟨u3, g4, hf⟩ := Option.bind_eq_some_iff.mp hf
  try dsimp only at hf
  refine ct_call (va_runV (As := []) (rest := []) ⟨hx, hb, hml, hown, hts⟩ (C_X2_becomeOne l D tys nw hn hnw hj htI htR (res := u3) g4) (cwV 0 hts gX1_leastPolynomial_X2_becomeOne rfl rfl rfl (by decide +kernel) ⟨Nat.le_of_ble_eq_true rfl, Nat.le_of_ble_eq_true rfl⟩) (ct_preV hn hP hK hN (ci := 2) (k := (20 + ((9 : Fin 20)).val)) rfl (ra_lt (9 : Fin 20)) (cl_row (9 : Fin 20))) rfl rfl hl.1 rfl (lv_room (Nat.le_of_ble_eq_true rfl)) dX1_leastPolynomial_15 ⟨Nat.zero_le _, Nat.zero_le _⟩) hS (fun H locs hP hS => ?_)
  refine lv_iconst (v := 0) hx hb dX1_leastPolynomial_18 (by decide) ?_
  refine lv_istore (lv' := [(4, .int 0), (3, .int p0), (2, .int u1), (0, .ref (ad 41)), (1, .int p0)]) hx hb dX1_leastPolynomial_19 hl (by decide) rfl (fun ls hl => ?_)
  refine L21 p0 u1 _ (fun y12 y13 M14 H locs ls hP hS hl hf => ?_) fu p0 0 u3 _ _ _ hP hS (lv_sub hl [3, 4, 2, 1, 0] rfl) hf
  try dsimp only at hf
  refine lv_aload_n hx hb dX1_leastPolynomial_59 rfl (lv_at hl 0 rfl) ?_
  refine va_get (ci := 1) (v := .ref (ra ad (9 : Fin 20))) (C := RX1) (T := TX1) (N := 11) hx hb hts (by decide +kernel) hown hK hP 41 cc_ring rfl 9 (by decide) (hts (.fieldLink RX1 46 "NumberFieldFactors$Ring" "least" "LNumberFieldFactors$Row;") (by decide +kernel)) (fun _ h9 => h9) rfl dX1_leastPolynomial_60 ?_
  obtain rfl := Option.some.inj hf
  exact W.aret (v := .ref (ra ad (9 : Fin 20))) hx hb hr (Or.inl ⟨_, rfl⟩) (Or.inr ⟨_, rfl⟩) (fun t ht hW => ⟨rfl, by rw [ht]; exact hP, hS.F ht⟩) hS.2.2 dX1_leastPolynomial_63
def f_X1_leastShift_l2 (k2 : Int32 → (Fin 20 → Nat → Int32) → Option (Int32 × (Fin 20 → Nat → Int32))) (fu : Nat) (E : Nat → Int32) (x1 : Fin 20) : Nat → Int32 → (Fin 20 → Nat → Int32) → Option (Int32 × (Fin 20 → Nat → Int32))
  | 0, _, _ => none
  | n + 1, x2, M =>
    if 101 ≤ x2 then
      k2 x2 M
    else
      (f_X2_copy fu M (8 : Fin 20) x1).bind (fun u2 =>
      (f_X0_times E x2 (E 5)).bind (fun u4 =>
      (f_X0_minus 0 u4).bind (fun u6 =>
      (f_X1_displace fu u2 E (8 : Fin 20) u6).bind (fun u8 =>
      (f_X1_normOf fu u8 E (8 : Fin 20)).bind (fun u10 =>
      (f_X1_findSquares fu u10.2 E u10.1 (10 : Fin 20)).bind (fun u12 =>
      (f_X2_degree fu u12 (10 : Fin 20)).bind (fun u14 =>
      if 0 < u14 then
        f_X1_leastShift_l2 k2 fu E x1 n (x2 + 1) u12
      else
        some (x2, u12))))))))
def f_X1_leastShift (fu : Nat) (M : Fin 20 → Nat → Int32) (E : Nat → Int32) (p0 : Fin 20) : Option (Int32 × (Fin 20 → Nat → Int32)) :=
  f_X1_leastShift_l2 (fun y17 M18 =>
    some (0, M18)) fu E p0 fu 0 M
set_option maxHeartbeats 4000000 in
set_option maxRecDepth 100000 in
theorem C_X1_leastShift (l : Launch) (D : va_G) (tys : List (ClassId × FieldType)) (nw : List Cond) (hn : nw.all nw_kind = true) (hnw : ∀ w ∈ nw0, w ∈ nw) {ad : Nat → Nat} (hj : ww_inj 46 ad) {cI : ClassId} {cR : ClassId} (htI : tys[0]? = some (cI, .int)) (htR : tys[1]? = some (cR, .object RX2)) {fu : Nat} {M : Fin 20 → Nat → Int32} {E : Nat → Int32} {P : Nat → Fin 20} {C : Nat → Int32} {N : Nat → Int32} {p0 : Fin 20} {res : Int32 × (Fin 20 → Nat → Int32)} (hf : f_X1_leastShift fu M E p0 = some res) :
    Met l yX1_leastShift wsX1_leastShift ({ frames := 5, cells := 0, slots := 0, locals := 134 }) (va_Pc [.ref (ad 41), .ref (ra ad p0)] (ws_B D tys nw (ww 46 ad (cellC cI cR ad M E P C N)))) (ct_Q D (ww 46 ad (cellC cI cR ad res.2 E P C N)) (ww_A 46 ad) (some (.int res.1))) 0 0 (ww_A 46 ad) := by
  refine Met.ofW (cc := cX1_leastShift) (maxL := 3) (ret := (some .int)) (by decide) rfl ?_
  intro p e s m args below meth c s₁ B hml hv
  obtain ⟨rfl, hP, hK, hN⟩ := hv
  have hx := B.exec
  have hb := B.bytes
  have hr := B.returns
  have hts := atoms_spec (ws := wsX1_leastShift) B.pre
  have hown : s.vm.findClass RX1 = some m.cls := findClass_of_methodNamed B.named
  have hlocks := B.notSynchronized
  have hS : va_S (ww_A 46 ad) s.heap s.heap [] := va_S.rf
  have hl := lv_entry ([.ref (ad 41), .ref (ra ad p0)]) (n := 3) (Nat.le_of_ble_eq_true rfl)
  rw [lg_entry_eq]
  generalize (lg_sl ([.ref (ad 41), .ref (ra ad p0)]) ++ List.replicate (3 - (lg_sl ([.ref (ad 41), .ref (ra ad p0)])).length) Slot.unset).toArray = ls at hl ⊢
  have hl : lv_has ls 3 [(0, .ref (ad 41)), (1, .ref (ra ad p0))] := hl
  have L2 : ∀ (x1 : Fin 20) (k2 : Int32 → (Fin 20 → Nat → Int32) → Option (Int32 × (Fin 20 → Nat → Int32))), (∀ (x2 : Int32) (M : Fin 20 → Nat → Int32) (H : Heap) (locs : List Loc) (ls : Array Slot), va_P D vwCl (ww 46 ad (cellC cI cR ad M E P C N)) H → va_S (ww_A 46 ad) s.heap H locs → lv_has ls 3 [(0, .ref (ad 41)), (1, .ref (ra ad x1)), (2, .int x2)] →  k2 x2 M = some res → W p l e (headSpec wsX1_leastShift { frames := 5, cells := 0, slots := 0, locals := 134 }).room s m [.ref (ad 41), .ref (ra ad p0)].toArray below meth c H locs 0 0 (MQ below (ct_Q D (ww 46 ad (cellC cI cR ad res.2 E P C N)) (ww_A 46 ad) (some (.int res.1))) [.ref (ad 41), .ref (ra ad p0)].toArray s 0 0 (ww_A 46 ad)) (F0 m 81 ls [])) → ∀ (n : Nat) (x2 : Int32) (M : Fin 20 → Nat → Int32) (H : Heap) (locs : List Loc) (ls : Array Slot), va_P D vwCl (ww 46 ad (cellC cI cR ad M E P C N)) H → va_S (ww_A 46 ad) s.heap H locs → lv_has ls 3 [(0, .ref (ad 41)), (1, .ref (ra ad x1)), (2, .int x2)] →  f_X1_leastShift_l2 k2 fu E x1 n x2 M = some res → W p l e (headSpec wsX1_leastShift { frames := 5, cells := 0, slots := 0, locals := 134 }).room s m [.ref (ad 41), .ref (ra ad p0)].toArray below meth c H locs 0 0 (MQ below (ct_Q D (ww 46 ad (cellC cI cR ad res.2 E P C N)) (ww_A 46 ad) (some (.int res.1))) [.ref (ad 41), .ref (ra ad p0)].toArray s 0 0 (ww_A 46 ad)) (F0 m 2 ls []) := by
    intro x1 k2 hk_2 n
    induction n with
    | zero => intro x2 M H locs ls hP hS hl hf; rw [f_X1_leastShift_l2] at hf; cases hf
    | succ n ih =>
      intro x2 M H locs ls hP hS hl hf
      rw [f_X1_leastShift_l2] at hf
      refine lv_iload_n hx hb dX1_leastShift_2 rfl (lv_at hl 2 rfl) ?_
      refine lv_bipush (v := 101) hx hb dX1_leastShift_3 (by decide) ?_
      refine lv_icmp_ge (tgt := 81) hx hb dX1_leastShift_5 (by decide) (fun c1 => ?_) (fun c1 => ?_)
      · rw [if_pos c1] at hf
        exact hk_2 x2 M _ _ _ hP hS (lv_sub hl [0, 1, 2] rfl) hf
      · rw [if_neg c1] at hf
        refine lv_aload_n hx hb dX1_leastShift_8 rfl (lv_at hl 0 rfl) ?_
        refine va_get (ci := 1) (v := .ref (ra ad (8 : Fin 20))) (C := RX1) (T := TX1) (N := 11) hx hb hts (by decide +kernel) hown hK hP 41 cc_ring rfl 8 (by decide) (hts (.fieldLink RX1 43 "NumberFieldFactors$Ring" "moved" "LNumberFieldFactors$Row;") (by decide +kernel)) (fun _ h9 => h9) rfl dX1_leastShift_9 ?_
        refine lv_aload_n hx hb dX1_leastShift_12 rfl (lv_at hl 1 rfl) ?_
        obtain ⟨u2, g3, hf⟩ := Option.bind_eq_some_iff.mp hf
        try dsimp only at hf
        refine ct_call (va_runV (As := [.ref (ra ad x1)]) (rest := []) ⟨hx, hb, hml, hown, hts⟩ (C_X2_copy l D tys nw hn hnw hj htI htR (res := u2) g3) (cwV 1 hts gX1_leastShift_X2_copy rfl rfl rfl (by decide +kernel) ⟨Nat.le_of_ble_eq_true rfl, Nat.le_of_ble_eq_true rfl⟩) (ct_preV hn hP hK hN (ci := 2) (k := (20 + ((8 : Fin 20)).val)) rfl (ra_lt (8 : Fin 20)) (cl_row (8 : Fin 20))) rfl rfl hl.1 rfl (lv_room (Nat.le_of_ble_eq_true rfl)) dX1_leastShift_13 ⟨Nat.zero_le _, Nat.zero_le _⟩) hS (fun H locs hP hS => ?_)
        refine lv_aload_n hx hb dX1_leastShift_16 rfl (lv_at hl 0 rfl) ?_
        refine lv_aload_n hx hb dX1_leastShift_17 rfl (lv_at hl 0 rfl) ?_
        refine va_get (ci := 1) (v := .ref (ra ad (8 : Fin 20))) (C := RX1) (T := TX1) (N := 11) hx hb hts (by decide +kernel) hown hK hP 41 cc_ring rfl 8 (by decide) (hts (.fieldLink RX1 43 "NumberFieldFactors$Ring" "moved" "LNumberFieldFactors$Row;") (by decide +kernel)) (fun _ h9 => h9) rfl dX1_leastShift_18 ?_
        refine lv_aload_n hx hb dX1_leastShift_21 rfl (lv_at hl 0 rfl) ?_
        refine va_get (ci := 1) (v := .ref (ad 40)) (C := RX1) (T := TX1) (N := 11) hx hb hts (by decide +kernel) hown hK hP 41 cc_ring rfl 0 (by decide) (hts (.fieldLink RX1 12 "NumberFieldFactors$Ring" "extension" "LNumberFieldFactors$Extension;") (by decide +kernel)) (fun _ h9 => h9) rfl dX1_leastShift_22 ?_
        refine lv_iconst (v := 0) hx hb dX1_leastShift_25 (by decide) ?_
        refine lv_aload_n hx hb dX1_leastShift_26 rfl (lv_at hl 0 rfl) ?_
        refine va_get (ci := 1) (v := .ref (ad 40)) (C := RX1) (T := TX1) (N := 11) hx hb hts (by decide +kernel) hown hK hP 41 cc_ring rfl 0 (by decide) (hts (.fieldLink RX1 12 "NumberFieldFactors$Ring" "extension" "LNumberFieldFactors$Extension;") (by decide +kernel)) (fun _ h9 => h9) rfl dX1_leastShift_27 ?_
        refine lv_iload_n hx hb dX1_leastShift_30 rfl (lv_at hl 2 rfl) ?_
        refine lv_aload_n hx hb dX1_leastShift_31 rfl (lv_at hl 0 rfl) ?_
        refine va_get (ci := 1) (v := .ref (ad 40)) (C := RX1) (T := TX1) (N := 11) hx hb hts (by decide +kernel) hown hK hP 41 cc_ring rfl 0 (by decide) (hts (.fieldLink RX1 12 "NumberFieldFactors$Ring" "extension" "LNumberFieldFactors$Extension;") (by decide +kernel)) (fun _ h9 => h9) rfl dX1_leastShift_32 ?_
        refine va_getN (ci := 0) (v := .int (E 5)) (C := RX0) (T := TX0) (N := 8) (host := "NumberFieldFactors") hx hb hts (by decide +kernel) hown hK hP 40 cc_ext rfl 5 (by decide) (va_Nw.use rfl (hN (.fieldLinkNest RX1 117 "NumberFieldFactors$Extension" "t" "I" "NumberFieldFactors") (hnw _ (by decide +kernel)))) (fun _ h9 => h9) rfl dX1_leastShift_35 ?_
        obtain ⟨u4, g5, hf⟩ := Option.bind_eq_some_iff.mp hf
        try dsimp only at hf
        refine ct_call (va_runV (As := [.int x2, .int (E 5)]) (rest := [.int 0, .ref (ad 40), .ref (ra ad (8 : Fin 20)), .ref (ad 41)]) ⟨hx, hb, hml, hown, hts⟩ (C_X0_times l D tys nw hn hnw hj htI htR (res := u4) g5) (cwV 2 hts gX1_leastShift_X0_times rfl rfl rfl (by decide +kernel) ⟨Nat.le_of_ble_eq_true rfl, Nat.le_of_ble_eq_true rfl⟩) (ct_preV hn hP hK hN (ci := 0) (k := 40) rfl (by decide) rfl) rfl rfl hl.1 rfl (lv_room (Nat.le_of_ble_eq_true rfl)) dX1_leastShift_38 ⟨Nat.zero_le _, Nat.zero_le _⟩) hS (fun H locs hP hS => ?_)
        obtain ⟨u6, g7, hf⟩ := Option.bind_eq_some_iff.mp hf
        try dsimp only at hf
        refine ct_call (va_runV (As := [.int 0, .int u4]) (rest := [.ref (ra ad (8 : Fin 20)), .ref (ad 41)]) ⟨hx, hb, hml, hown, hts⟩ (C_X0_minus l D tys nw hn hnw hj htI htR (res := u6) g7) (cwV 2 hts gX1_leastShift_X0_minus rfl rfl rfl (by decide +kernel) ⟨Nat.le_of_ble_eq_true rfl, Nat.le_of_ble_eq_true rfl⟩) (ct_preV hn hP hK hN (ci := 0) (k := 40) rfl (by decide) rfl) rfl rfl hl.1 rfl (lv_room (Nat.le_of_ble_eq_true rfl)) dX1_leastShift_41 ⟨Nat.zero_le _, Nat.zero_le _⟩) hS (fun H locs hP hS => ?_)
        obtain ⟨u8, g9, hf⟩ := Option.bind_eq_some_iff.mp hf
        try dsimp only at hf
        refine ct_call (va_runV (As := [.ref (ra ad (8 : Fin 20)), .int u6]) (rest := []) ⟨hx, hb, hml, hown, hts⟩ (C_X1_displace l D tys nw hn hnw hj htI htR (res := u8) g9) (cwV 2 hts gX1_leastShift_X1_displace rfl rfl rfl (by decide +kernel) ⟨Nat.le_of_ble_eq_true rfl, Nat.le_of_ble_eq_true rfl⟩) (ct_preV hn hP hK hN (ci := 1) (k := 41) rfl (by decide) rfl) rfl rfl hl.1 rfl (lv_room (Nat.le_of_ble_eq_true rfl)) dX1_leastShift_44 ⟨Nat.zero_le _, Nat.zero_le _⟩) hS (fun H locs hP hS => ?_)
        refine lv_aload_n hx hb dX1_leastShift_47 rfl (lv_at hl 0 rfl) ?_
        refine lv_aload_n hx hb dX1_leastShift_48 rfl (lv_at hl 0 rfl) ?_
        refine lv_aload_n hx hb dX1_leastShift_49 rfl (lv_at hl 0 rfl) ?_
        refine va_get (ci := 1) (v := .ref (ra ad (8 : Fin 20))) (C := RX1) (T := TX1) (N := 11) hx hb hts (by decide +kernel) hown hK hP 41 cc_ring rfl 8 (by decide) (hts (.fieldLink RX1 43 "NumberFieldFactors$Ring" "moved" "LNumberFieldFactors$Row;") (by decide +kernel)) (fun _ h9 => h9) rfl dX1_leastShift_50 ?_
        obtain ⟨u10, g11, hf⟩ := Option.bind_eq_some_iff.mp hf
        try dsimp only at hf
        refine ct_call (va_runV (As := [.ref (ra ad (8 : Fin 20))]) (rest := [.ref (ad 41)]) ⟨hx, hb, hml, hown, hts⟩ (C_X1_normOf l D tys nw hn hnw hj htI htR (res := u10) g11) (cwV 1 hts gX1_leastShift_X1_normOf rfl rfl rfl (by decide +kernel) ⟨Nat.le_of_ble_eq_true rfl, Nat.le_of_ble_eq_true rfl⟩) (ct_preV hn hP hK hN (ci := 1) (k := 41) rfl (by decide) rfl) rfl rfl hl.1 rfl (lv_room (Nat.le_of_ble_eq_true rfl)) dX1_leastShift_53 ⟨Nat.zero_le _, Nat.zero_le _⟩) hS (fun H locs hP hS => ?_)
        refine lv_aload_n hx hb dX1_leastShift_56 rfl (lv_at hl 0 rfl) ?_
        refine va_get (ci := 1) (v := .ref (ra ad (10 : Fin 20))) (C := RX1) (T := TX1) (N := 11) hx hb hts (by decide +kernel) hown hK hP 41 cc_ring rfl 10 (by decide) (hts (.fieldLink RX1 49 "NumberFieldFactors$Ring" "common" "LNumberFieldFactors$Row;") (by decide +kernel)) (fun _ h9 => h9) rfl dX1_leastShift_57 ?_
        obtain ⟨u12, g13, hf⟩ := Option.bind_eq_some_iff.mp hf
        try dsimp only at hf
        refine ct_call (va_runV (As := [.ref (ra ad u10.1), .ref (ra ad (10 : Fin 20))]) (rest := []) ⟨hx, hb, hml, hown, hts⟩ (C_X1_findSquares l D tys nw hn hnw hj htI htR (res := u12) g13) (cwV 2 hts gX1_leastShift_X1_findSquares rfl rfl rfl (by decide +kernel) ⟨Nat.le_of_ble_eq_true rfl, Nat.le_of_ble_eq_true rfl⟩) (ct_preV hn hP hK hN (ci := 1) (k := 41) rfl (by decide) rfl) rfl rfl hl.1 rfl (lv_room (Nat.le_of_ble_eq_true rfl)) dX1_leastShift_60 ⟨Nat.zero_le _, Nat.zero_le _⟩) hS (fun H locs hP hS => ?_)
        refine lv_aload_n hx hb dX1_leastShift_63 rfl (lv_at hl 0 rfl) ?_
        refine va_get (ci := 1) (v := .ref (ra ad (10 : Fin 20))) (C := RX1) (T := TX1) (N := 11) hx hb hts (by decide +kernel) hown hK hP 41 cc_ring rfl 10 (by decide) (hts (.fieldLink RX1 49 "NumberFieldFactors$Ring" "common" "LNumberFieldFactors$Row;") (by decide +kernel)) (fun _ h9 => h9) rfl dX1_leastShift_64 ?_
        obtain ⟨u14, g15, hf⟩ := Option.bind_eq_some_iff.mp hf
        try dsimp only at hf
        refine ct_call (va_runV (As := []) (rest := []) ⟨hx, hb, hml, hown, hts⟩ (C_X2_degree l D tys nw hn hnw hj htI htR (res := u14) g15) (cwV 0 hts gX1_leastShift_X2_degree rfl rfl rfl (by decide +kernel) ⟨Nat.le_of_ble_eq_true rfl, Nat.le_of_ble_eq_true rfl⟩) (ct_preV hn hP hK hN (ci := 2) (k := (20 + ((10 : Fin 20)).val)) rfl (ra_lt (10 : Fin 20)) (cl_row (10 : Fin 20))) rfl rfl hl.1 rfl (lv_room (Nat.le_of_ble_eq_true rfl)) dX1_leastShift_67 ⟨Nat.zero_le _, Nat.zero_le _⟩) hS (fun H locs hP hS => ?_)
        refine lv_if_gt (tgt := 75) hx hb dX1_leastShift_70 (by decide) (fun c16 => ?_) (fun c16 => ?_)
        · rw [if_pos c16] at hf
          refine lv_iinc (v := x2 + 1) (lv' := [(2, .int (x2 + 1)), (0, .ref (ad 41)), (1, .ref (ra ad x1))]) hx hb dX1_leastShift_75 hl (k := 2) rfl rfl (by decide) rfl (fun ls hl => ?_)
          refine lv_goto (tgt := 2) hx hb dX1_leastShift_78 (by decide) ?_
          exact ih (x2 + 1) u12 _ _ _ hP hS (lv_sub hl [1, 2, 0] rfl) hf
        · rw [if_neg c16] at hf
          refine lv_iload_n hx hb dX1_leastShift_73 rfl (lv_at hl 2 rfl) ?_
          obtain rfl := Option.some.inj hf
          exact W.iret (v := x2) hx hb hr (fun t ht hW => ⟨rfl, by rw [ht]; exact hP, hS.F ht⟩) hS.2.2 dX1_leastShift_74
  unfold f_X1_leastShift at hf
  refine lv_iconst (v := 0) hx hb dX1_leastShift_0 (by decide) ?_
  refine lv_istore_n (lv' := [(2, .int 0), (0, .ref (ad 41)), (1, .ref (ra ad p0))]) hx hb dX1_leastShift_1 rfl hl (by decide) rfl (fun ls hl => ?_)
  refine L2 p0 _ (fun y17 M18 H locs ls hP hS hl hf => ?_) fu 0 M _ _ _ hP hS (lv_sub hl [1, 2, 0] rfl) hf
  try dsimp only at hf
  refine lv_iconst (v := 0) hx hb dX1_leastShift_81 (by decide) ?_
  obtain rfl := Option.some.inj hf
  exact W.iret (v := 0) hx hb hr (fun t ht hW => ⟨rfl, by rw [ht]; exact hP, hS.F ht⟩) hS.2.2 dX1_leastShift_82
end
section
def f_X3_forget (N : Nat → Int32) : Option ((Nat → Int32)) :=
  some (va_up N 1 0)
set_option maxHeartbeats 4000000 in
set_option maxRecDepth 100000 in
theorem C_X3_forget (l : Launch) (D : va_G) (tys : List (ClassId × FieldType)) (nw : List Cond) (hn : nw.all nw_kind = true) (hnw : ∀ w ∈ nw0, w ∈ nw) {ad : Nat → Nat} (hj : ww_inj 46 ad) {cI : ClassId} {cR : ClassId} (htI : tys[0]? = some (cI, .int)) (htR : tys[1]? = some (cR, .object RX2)) {M : Fin 20 → Nat → Int32} {E : Nat → Int32} {P : Nat → Fin 20} {C : Nat → Int32} {N : Nat → Int32} {res : (Nat → Int32)} (hf : f_X3_forget N = some res) :
    Met l yX3_forget wsX3_forget ({ frames := 0, cells := 0, slots := 0, locals := 0 }) (va_Pc [.ref (ad 42)] (ws_B D tys nw (ww 46 ad (cellC cI cR ad M E P C N)))) (ct_Q D (ww 46 ad (cellC cI cR ad M E P C res)) (ww_A 46 ad) (none)) 0 0 (ww_A 46 ad) := by
  refine Met.ofW (cc := cX3_forget) (maxL := 1) (ret := none) (by decide) rfl ?_
  intro p e s m args below meth c s₁ B hml hv
  obtain ⟨rfl, hP, hK, hN⟩ := hv
  have hx := B.exec
  have hb := B.bytes
  have hr := B.returns
  have hts := atoms_spec (ws := wsX3_forget) B.pre
  have hown : s.vm.findClass RX3 = some m.cls := findClass_of_methodNamed B.named
  have hlocks := B.notSynchronized
  have hS : va_S (ww_A 46 ad) s.heap s.heap [] := va_S.rf
  have hl := lv_entry ([.ref (ad 42)]) (n := 1) (Nat.le_of_ble_eq_true rfl)
  rw [lg_entry_eq]
  generalize (lg_sl ([.ref (ad 42)]) ++ List.replicate (1 - (lg_sl ([.ref (ad 42)])).length) Slot.unset).toArray = ls at hl ⊢
  have hl : lv_has ls 1 [(0, .ref (ad 42))] := hl
  unfold f_X3_forget at hf
  refine lv_aload_n hx hb dX3_forget_0 rfl (lv_at hl 0 rfl) ?_
  refine lv_iconst (v := 0) hx hb dX3_forget_1 (by decide) ?_
  refine va_put (ci := 3) (v := .int 0) (ty := .boolean) (C := RX3) (T := TX3) (N := 8) hx hb hts (by decide +kernel) tyX3 tyX3_ok nmX3 hown hK hP (ww_D hj) hS 42 cc_spl rfl 3 (by decide) (hts (.fieldLink RX3 25 "NumberFieldFactors$Splitter" "found" "Z") (by decide +kernel)) (fun _ h9 => h9) rfl (by decide +kernel) (by decide) rfl (Nat.le_of_ble_eq_true rfl) dX3_forget_2 (fun H locs hP hD hS => ?_)
  have hP := cs_N1 hP
  obtain rfl := Option.some.inj hf
  exact W.vret hx hb hr (fun t ht hW => ⟨rfl, by rw [ht]; exact hP, hS.F ht⟩) hS.2.2 dX3_forget_5
def f_X3_part (P : Nat → Fin 20) (p0 : Int32) : Option (Fin 20) :=
  if p0 < 0 then
    some (11 : Fin 20)
  else
    if 5 ≤ p0 then
      some (11 : Fin 20)
    else
      if p0 < 0 ∨ 5 ≤ (p0).toNatClampNeg then none else
      some (P (p0).toNatClampNeg)
set_option maxHeartbeats 4000000 in
set_option maxRecDepth 100000 in
theorem C_X3_part (l : Launch) (D : va_G) (tys : List (ClassId × FieldType)) (nw : List Cond) (hn : nw.all nw_kind = true) (hnw : ∀ w ∈ nw0, w ∈ nw) {ad : Nat → Nat} (hj : ww_inj 46 ad) {cI : ClassId} {cR : ClassId} (htI : tys[0]? = some (cI, .int)) (htR : tys[1]? = some (cR, .object RX2)) {M : Fin 20 → Nat → Int32} {E : Nat → Int32} {P : Nat → Fin 20} {C : Nat → Int32} {N : Nat → Int32} {p0 : Int32} {res : Fin 20} (hf : f_X3_part P p0 = some res) :
    Met l yX3_part wsX3_part ({ frames := 0, cells := 0, slots := 0, locals := 0 }) (va_Pc [.ref (ad 42), .int p0] (ws_B D tys nw (ww 46 ad (cellC cI cR ad M E P C N)))) (ct_Q D (ww 46 ad (cellC cI cR ad M E P C N)) (ww_A 46 ad) (some (.ref (ra ad res)))) 0 0 (ww_A 46 ad) := by
  refine Met.ofW (cc := cX3_part) (maxL := 2) (ret := (some (.object "NumberFieldFactors$Row"))) (by decide) rfl ?_
  intro p e s m args below meth c s₁ B hml hv
  obtain ⟨rfl, hP, hK, hN⟩ := hv
  have hx := B.exec
  have hb := B.bytes
  have hr := B.returns
  have hts := atoms_spec (ws := wsX3_part) B.pre
  have hown : s.vm.findClass RX3 = some m.cls := findClass_of_methodNamed B.named
  have hlocks := B.notSynchronized
  have hS : va_S (ww_A 46 ad) s.heap s.heap [] := va_S.rf
  have hl := lv_entry ([.ref (ad 42), .int p0]) (n := 2) (Nat.le_of_ble_eq_true rfl)
  rw [lg_entry_eq]
  generalize (lg_sl ([.ref (ad 42), .int p0]) ++ List.replicate (2 - (lg_sl ([.ref (ad 42), .int p0])).length) Slot.unset).toArray = ls at hl ⊢
  have hl : lv_has ls 2 [(0, .ref (ad 42)), (1, .int p0)] := hl
  unfold f_X3_part at hf
  refine lv_iload_n hx hb dX3_part_0 rfl (lv_at hl 1 rfl) ?_
  refine lv_if_lt (tgt := 22) hx hb dX3_part_1 (by decide) (fun c1 => ?_) (fun c1 => ?_)
  · rw [if_pos c1] at hf
    refine lv_aload_n hx hb dX3_part_22 rfl (lv_at hl 0 rfl) ?_
    refine va_get (ci := 3) (v := .ref (ra ad (11 : Fin 20))) (C := RX3) (T := TX3) (N := 8) hx hb hts (by decide +kernel) hown hK hP 42 cc_spl rfl 4 (by decide) (hts (.fieldLink RX3 30 "NumberFieldFactors$Splitter" "root" "LNumberFieldFactors$Row;") (by decide +kernel)) (fun _ h9 => h9) rfl dX3_part_23 ?_
    obtain rfl := Option.some.inj hf
    exact W.aret (v := .ref (ra ad (11 : Fin 20))) hx hb hr (Or.inl ⟨_, rfl⟩) (Or.inr ⟨_, rfl⟩) (fun t ht hW => ⟨rfl, by rw [ht]; exact hP, hS.F ht⟩) hS.2.2 dX3_part_26
  · rw [if_neg c1] at hf
    refine lv_iload_n hx hb dX3_part_4 rfl (lv_at hl 1 rfl) ?_
    refine lv_aload_n hx hb dX3_part_5 rfl (lv_at hl 0 rfl) ?_
    refine va_get (ci := 3) (v := .ref (ad 43)) (C := RX3) (T := TX3) (N := 8) hx hb hts (by decide +kernel) hown hK hP 42 cc_spl rfl 0 (by decide) (hts (.fieldLink RX3 11 "NumberFieldFactors$Splitter" "parts" "[LNumberFieldFactors$Row;") (by decide +kernel)) (fun _ h9 => h9) rfl dX3_part_6 ?_
    refine va_alen (v := 5) hx hb hK hP 43 1 cc_parts htR rfl dX3_part_9 ?_
    refine lv_icmp_ge (tgt := 22) hx hb dX3_part_10 (by decide) (fun c2 => ?_) (fun c2 => ?_)
    · rw [if_pos c2] at hf
      refine lv_aload_n hx hb dX3_part_22 rfl (lv_at hl 0 rfl) ?_
      refine va_get (ci := 3) (v := .ref (ra ad (11 : Fin 20))) (C := RX3) (T := TX3) (N := 8) hx hb hts (by decide +kernel) hown hK hP 42 cc_spl rfl 4 (by decide) (hts (.fieldLink RX3 30 "NumberFieldFactors$Splitter" "root" "LNumberFieldFactors$Row;") (by decide +kernel)) (fun _ h9 => h9) rfl dX3_part_23 ?_
      obtain rfl := Option.some.inj hf
      exact W.aret (v := .ref (ra ad (11 : Fin 20))) hx hb hr (Or.inl ⟨_, rfl⟩) (Or.inr ⟨_, rfl⟩) (fun t ht hW => ⟨rfl, by rw [ht]; exact hP, hS.F ht⟩) hS.2.2 dX3_part_26
    · rw [if_neg c2] at hf
      refine lv_aload_n hx hb dX3_part_13 rfl (lv_at hl 0 rfl) ?_
      refine va_get (ci := 3) (v := .ref (ad 43)) (C := RX3) (T := TX3) (N := 8) hx hb hts (by decide +kernel) hown hK hP 42 cc_spl rfl 0 (by decide) (hts (.fieldLink RX3 11 "NumberFieldFactors$Splitter" "parts" "[LNumberFieldFactors$Row;") (by decide +kernel)) (fun _ h9 => h9) rfl dX3_part_14 ?_
      refine lv_iload_n hx hb dX3_part_17 rfl (lv_at hl 1 rfl) ?_
      by_cases b3 : p0 < 0 ∨ 5 ≤ (p0).toNatClampNeg
      · rw [if_pos b3] at hf; cases hf
      rw [if_neg b3] at hf
      refine va_aldq hx hb hK hP 43 1 cc_parts htR b3 dX3_part_18 ?_
      refine lv_goto (tgt := 26) hx hb dX3_part_19 (by decide) ?_
      obtain rfl := Option.some.inj hf
      exact W.aret (v := .ref (ra ad (P (p0).toNatClampNeg))) hx hb hr (Or.inl ⟨_, rfl⟩) (Or.inr ⟨_, rfl⟩) (fun t ht hW => ⟨rfl, by rw [ht]; exact hP, hS.F ht⟩) hS.2.2 dX3_part_26
def f_X3_timesOf (C : Nat → Int32) (p0 : Int32) : Option (Int32) :=
  if p0 < 0 then
    some 0
  else
    if 5 ≤ p0 then
      some 0
    else
      if p0 < 0 ∨ 5 ≤ (p0).toNatClampNeg then none else
      some (C (p0).toNatClampNeg)
set_option maxHeartbeats 4000000 in
set_option maxRecDepth 100000 in
theorem C_X3_timesOf (l : Launch) (D : va_G) (tys : List (ClassId × FieldType)) (nw : List Cond) (hn : nw.all nw_kind = true) (hnw : ∀ w ∈ nw0, w ∈ nw) {ad : Nat → Nat} (hj : ww_inj 46 ad) {cI : ClassId} {cR : ClassId} (htI : tys[0]? = some (cI, .int)) (htR : tys[1]? = some (cR, .object RX2)) {M : Fin 20 → Nat → Int32} {E : Nat → Int32} {P : Nat → Fin 20} {C : Nat → Int32} {N : Nat → Int32} {p0 : Int32} {res : Int32} (hf : f_X3_timesOf C p0 = some res) :
    Met l yX3_timesOf wsX3_timesOf ({ frames := 0, cells := 0, slots := 0, locals := 0 }) (va_Pc [.ref (ad 42), .int p0] (ws_B D tys nw (ww 46 ad (cellC cI cR ad M E P C N)))) (ct_Q D (ww 46 ad (cellC cI cR ad M E P C N)) (ww_A 46 ad) (some (.int res))) 0 0 (ww_A 46 ad) := by
  refine Met.ofW (cc := cX3_timesOf) (maxL := 2) (ret := (some .int)) (by decide) rfl ?_
  intro p e s m args below meth c s₁ B hml hv
  obtain ⟨rfl, hP, hK, hN⟩ := hv
  have hx := B.exec
  have hb := B.bytes
  have hr := B.returns
  have hts := atoms_spec (ws := wsX3_timesOf) B.pre
  have hown : s.vm.findClass RX3 = some m.cls := findClass_of_methodNamed B.named
  have hlocks := B.notSynchronized
  have hS : va_S (ww_A 46 ad) s.heap s.heap [] := va_S.rf
  have hl := lv_entry ([.ref (ad 42), .int p0]) (n := 2) (Nat.le_of_ble_eq_true rfl)
  rw [lg_entry_eq]
  generalize (lg_sl ([.ref (ad 42), .int p0]) ++ List.replicate (2 - (lg_sl ([.ref (ad 42), .int p0])).length) Slot.unset).toArray = ls at hl ⊢
  have hl : lv_has ls 2 [(0, .ref (ad 42)), (1, .int p0)] := hl
  unfold f_X3_timesOf at hf
  refine lv_iload_n hx hb dX3_timesOf_0 rfl (lv_at hl 1 rfl) ?_
  refine lv_if_lt (tgt := 22) hx hb dX3_timesOf_1 (by decide) (fun c1 => ?_) (fun c1 => ?_)
  · rw [if_pos c1] at hf
    refine lv_iconst (v := 0) hx hb dX3_timesOf_22 (by decide) ?_
    obtain rfl := Option.some.inj hf
    exact W.iret (v := 0) hx hb hr (fun t ht hW => ⟨rfl, by rw [ht]; exact hP, hS.F ht⟩) hS.2.2 dX3_timesOf_23
  · rw [if_neg c1] at hf
    refine lv_iload_n hx hb dX3_timesOf_4 rfl (lv_at hl 1 rfl) ?_
    refine lv_aload_n hx hb dX3_timesOf_5 rfl (lv_at hl 0 rfl) ?_
    refine va_get (ci := 3) (v := .ref (ad 44)) (C := RX3) (T := TX3) (N := 8) hx hb hts (by decide +kernel) hown hK hP 42 cc_spl rfl 1 (by decide) (hts (.fieldLink RX3 17 "NumberFieldFactors$Splitter" "counts" "[I") (by decide +kernel)) (fun _ h9 => h9) rfl dX3_timesOf_6 ?_
    refine va_alen (v := 5) hx hb hK hP 44 0 cc_counts htI rfl dX3_timesOf_9 ?_
    refine lv_icmp_ge (tgt := 22) hx hb dX3_timesOf_10 (by decide) (fun c2 => ?_) (fun c2 => ?_)
    · rw [if_pos c2] at hf
      refine lv_iconst (v := 0) hx hb dX3_timesOf_22 (by decide) ?_
      obtain rfl := Option.some.inj hf
      exact W.iret (v := 0) hx hb hr (fun t ht hW => ⟨rfl, by rw [ht]; exact hP, hS.F ht⟩) hS.2.2 dX3_timesOf_23
    · rw [if_neg c2] at hf
      refine lv_aload_n hx hb dX3_timesOf_13 rfl (lv_at hl 0 rfl) ?_
      refine va_get (ci := 3) (v := .ref (ad 44)) (C := RX3) (T := TX3) (N := 8) hx hb hts (by decide +kernel) hown hK hP 42 cc_spl rfl 1 (by decide) (hts (.fieldLink RX3 17 "NumberFieldFactors$Splitter" "counts" "[I") (by decide +kernel)) (fun _ h9 => h9) rfl dX3_timesOf_14 ?_
      refine lv_iload_n hx hb dX3_timesOf_17 rfl (lv_at hl 1 rfl) ?_
      by_cases b3 : p0 < 0 ∨ 5 ≤ (p0).toNatClampNeg
      · rw [if_pos b3] at hf; cases hf
      rw [if_neg b3] at hf
      refine va_iald hx hb hK hP 44 0 cc_counts htI b3 dX3_timesOf_18 ?_
      refine lv_goto (tgt := 23) hx hb dX3_timesOf_19 (by decide) ?_
      obtain rfl := Option.some.inj hf
      exact W.iret (v := C (p0).toNatClampNeg) hx hb hr (fun t ht hW => ⟨rfl, by rw [ht]; exact hP, hS.F ht⟩) hS.2.2 dX3_timesOf_23
def f_X3_commonDegree_l12 (k12 : Int32 → Int32 → Option (Int32)) (fu : Nat) (M : Fin 20 → Nat → Int32) (P : Nat → Fin 20) (N : Nat → Int32) (x1 : Int32) : Nat → Int32 → Int32 → Option (Int32)
  | 0, _, _ => none
  | n + 1, x2, x3 =>
    if (N 0) ≤ x3 then
      k12 x2 x3
    else
      (f_X3_part P x3).bind (fun u3 =>
      (f_X2_degree fu M u3).bind (fun u5 =>
      ((
        if x2 = 0 then
          some 0
        else
          ((
            if u5 ≤ 0 then
              some 0
            else
              if u5 = 0 then none else
              ((
                if (jrem x1 u5) = 0 then
                  some 1
                else
                  some 0 : Option (Int32))).bind (fun w12 =>
              some w12) : Option (Int32))).bind (fun w9 =>
          some w9) : Option (Int32))).bind (fun w7 =>
      f_X3_commonDegree_l12 k12 fu M P N x1 n w7 (x3 + 1))))
def f_X3_commonDegree_l2 (k2 : Int32 → Option (Int32)) (fu : Nat) (M : Fin 20 → Nat → Int32) (P : Nat → Fin 20) (N : Nat → Int32) : Nat → Int32 → Option (Int32)
  | 0, _ => none
  | n + 1, x1 =>
    if 60 < x1 then
      k2 x1
    else
      f_X3_commonDegree_l12 (fun y14 y15 =>
        if y14 = 0 then
          f_X3_commonDegree_l2 k2 fu M P N n (x1 + 1)
        else
          some x1) fu M P N x1 fu 1 0
def f_X3_commonDegree (fu : Nat) (M : Fin 20 → Nat → Int32) (P : Nat → Fin 20) (N : Nat → Int32) : Option (Int32) :=
  f_X3_commonDegree_l2 (fun y17 =>
    some 0) fu M P N fu 1
set_option maxHeartbeats 4000000 in
set_option maxRecDepth 100000 in
theorem C_X3_commonDegree (l : Launch) (D : va_G) (tys : List (ClassId × FieldType)) (nw : List Cond) (hn : nw.all nw_kind = true) (hnw : ∀ w ∈ nw0, w ∈ nw) {ad : Nat → Nat} (hj : ww_inj 46 ad) {cI : ClassId} {cR : ClassId} (htI : tys[0]? = some (cI, .int)) (htR : tys[1]? = some (cR, .object RX2)) {fu : Nat} {M : Fin 20 → Nat → Int32} {E : Nat → Int32} {P : Nat → Fin 20} {C : Nat → Int32} {N : Nat → Int32} {res : Int32} (hf : f_X3_commonDegree fu M P N = some res) :
    Met l yX3_commonDegree wsX3_commonDegree ({ frames := 1, cells := 0, slots := 0, locals := 21 }) (va_Pc [.ref (ad 42)] (ws_B D tys nw (ww 46 ad (cellC cI cR ad M E P C N)))) (ct_Q D (ww 46 ad (cellC cI cR ad M E P C N)) (ww_A 46 ad) (some (.int res))) 0 0 (ww_A 46 ad) := by
  refine Met.ofW (cc := cX3_commonDegree) (maxL := 5) (ret := (some .int)) (by decide) rfl ?_
  intro p e s m args below meth c s₁ B hml hv
  obtain ⟨rfl, hP, hK, hN⟩ := hv
  have hx := B.exec
  have hb := B.bytes
  have hr := B.returns
  have hts := atoms_spec (ws := wsX3_commonDegree) B.pre
  have hown : s.vm.findClass RX3 = some m.cls := findClass_of_methodNamed B.named
  have hlocks := B.notSynchronized
  have hS : va_S (ww_A 46 ad) s.heap s.heap [] := va_S.rf
  have hl := lv_entry ([.ref (ad 42)]) (n := 5) (Nat.le_of_ble_eq_true rfl)
  rw [lg_entry_eq]
  generalize (lg_sl ([.ref (ad 42)]) ++ List.replicate (5 - (lg_sl ([.ref (ad 42)])).length) Slot.unset).toArray = ls at hl ⊢
  have hl : lv_has ls 5 [(0, .ref (ad 42))] := hl
  have L12 : ∀ (x1 : Int32) (k12 : Int32 → Int32 → Option (Int32)), (∀ (x2 : Int32) (x3 : Int32) (H : Heap) (locs : List Loc) (ls : Array Slot), va_P D vwCl (ww 46 ad (cellC cI cR ad M E P C N)) H → va_S (ww_A 46 ad) s.heap H locs → lv_has ls 5 [(0, .ref (ad 42)), (1, .int x1), (2, .int x2), (3, .int x3)] →  k12 x2 x3 = some res → W p l e (headSpec wsX3_commonDegree { frames := 1, cells := 0, slots := 0, locals := 21 }).room s m [.ref (ad 42)].toArray below meth c H locs 0 0 (MQ below (ct_Q D (ww 46 ad (cellC cI cR ad M E P C N)) (ww_A 46 ad) (some (.int res))) [.ref (ad 42)].toArray s 0 0 (ww_A 46 ad)) (F0 m 58 ls [])) → ∀ (n : Nat) (x2 : Int32) (x3 : Int32) (H : Heap) (locs : List Loc) (ls : Array Slot), va_P D vwCl (ww 46 ad (cellC cI cR ad M E P C N)) H → va_S (ww_A 46 ad) s.heap H locs → lv_has ls 5 [(0, .ref (ad 42)), (1, .int x1), (2, .int x2), (3, .int x3)] →  f_X3_commonDegree_l12 k12 fu M P N x1 n x2 x3 = some res → W p l e (headSpec wsX3_commonDegree { frames := 1, cells := 0, slots := 0, locals := 21 }).room s m [.ref (ad 42)].toArray below meth c H locs 0 0 (MQ below (ct_Q D (ww 46 ad (cellC cI cR ad M E P C N)) (ww_A 46 ad) (some (.int res))) [.ref (ad 42)].toArray s 0 0 (ww_A 46 ad)) (F0 m 12 ls []) := by
    intro x1 k12 hk_12 n
    induction n with
    | zero => intro x2 x3 H locs ls hP hS hl hf; rw [f_X3_commonDegree_l12] at hf; cases hf
    | succ n ih =>
      intro x2 x3 H locs ls hP hS hl hf
      rw [f_X3_commonDegree_l12] at hf
      refine lv_iload_n hx hb dX3_commonDegree_12 rfl (lv_at hl 3 rfl) ?_
      refine lv_aload_n hx hb dX3_commonDegree_13 rfl (lv_at hl 0 rfl) ?_
      refine va_get (ci := 3) (v := .int (N 0)) (C := RX3) (T := TX3) (N := 8) hx hb hts (by decide +kernel) hown hK hP 42 cc_spl rfl 2 (by decide) (hts (.fieldLink RX3 21 "NumberFieldFactors$Splitter" "count" "I") (by decide +kernel)) (fun _ h9 => h9) rfl dX3_commonDegree_14 ?_
      refine lv_icmp_ge (tgt := 58) hx hb dX3_commonDegree_17 (by decide) (fun c2 => ?_) (fun c2 => ?_)
      · rw [if_pos c2] at hf
        exact hk_12 x2 x3 _ _ _ hP hS (lv_sub hl [0, 1, 2, 3] rfl) hf
      · rw [if_neg c2] at hf
        refine lv_aload_n hx hb dX3_commonDegree_20 rfl (lv_at hl 0 rfl) ?_
        refine lv_iload_n hx hb dX3_commonDegree_21 rfl (lv_at hl 3 rfl) ?_
        obtain ⟨u3, g4, hf⟩ := Option.bind_eq_some_iff.mp hf
        try dsimp only at hf
        refine ct_call (va_runV (As := [.int x3]) (rest := []) ⟨hx, hb, hml, hown, hts⟩ (C_X3_part l D tys nw hn hnw hj htI htR (res := u3) g4) (cwV 1 hts gX3_commonDegree_X3_part rfl rfl rfl (by decide +kernel) ⟨Nat.le_of_ble_eq_true rfl, Nat.le_of_ble_eq_true rfl⟩) (ct_preV hn hP hK hN (ci := 3) (k := 42) rfl (by decide) rfl) rfl rfl hl.1 rfl (lv_room (Nat.le_of_ble_eq_true rfl)) dX3_commonDegree_22 ⟨Nat.zero_le _, Nat.zero_le _⟩) hS (fun H locs hP hS => ?_)
        obtain ⟨u5, g6, hf⟩ := Option.bind_eq_some_iff.mp hf
        try dsimp only at hf
        refine ct_call (va_runV (As := []) (rest := []) ⟨hx, hb, hml, hown, hts⟩ (C_X2_degree l D tys nw hn hnw hj htI htR (res := u5) g6) (cwV 0 hts gX3_commonDegree_X2_degree rfl rfl rfl (by decide +kernel) ⟨Nat.le_of_ble_eq_true rfl, Nat.le_of_ble_eq_true rfl⟩) (ct_preV hn hP hK hN (ci := 2) (k := (20 + (u3).val)) rfl (ra_lt u3) (cl_row u3)) rfl rfl hl.1 rfl (lv_room (Nat.le_of_ble_eq_true rfl)) dX3_commonDegree_25 ⟨Nat.zero_le _, Nat.zero_le _⟩) hS (fun H locs hP hS => ?_)
        refine lv_istore (lv' := [(4, .int u5), (0, .ref (ad 42)), (1, .int x1), (2, .int x2), (3, .int x3)]) hx hb dX3_commonDegree_28 hl (by decide) rfl (fun ls hl => ?_)
        refine lv_iload_n hx hb dX3_commonDegree_30 rfl (lv_at hl 3 rfl) ?_
        obtain ⟨w7, gw7, hf⟩ := Option.bind_eq_some_iff.mp hf
        try dsimp only at hf
        have hJ51_w7 : ∀ (H : Heap) (locs : List Loc) (ls : Array Slot), va_P D vwCl (ww 46 ad (cellC cI cR ad M E P C N)) H → va_S (ww_A 46 ad) s.heap H locs → lv_has ls 5 [(0, .ref (ad 42)), (1, .int x1), (2, .int x2), (3, .int x3), (4, .int u5)] → W p l e (headSpec wsX3_commonDegree { frames := 1, cells := 0, slots := 0, locals := 21 }).room s m [.ref (ad 42)].toArray below meth c H locs 0 0 (MQ below (ct_Q D (ww 46 ad (cellC cI cR ad M E P C N)) (ww_A 46 ad) (some (.int res))) [.ref (ad 42)].toArray s 0 0 (ww_A 46 ad)) (F0 m 51 ls [.int w7]) := by
          intro H locs ls hP hS hl
          refine lv_istore_n (lv' := [(2, .int w7), (0, .ref (ad 42)), (1, .int x1), (3, .int x3), (4, .int u5)]) hx hb dX3_commonDegree_51 rfl hl (by decide) rfl (fun ls hl => ?_)
          refine lv_iinc (v := x3 + 1) (lv' := [(3, .int (x3 + 1)), (2, .int w7), (0, .ref (ad 42)), (1, .int x1), (4, .int u5)]) hx hb dX3_commonDegree_52 hl (k := 3) rfl rfl (by decide) rfl (fun ls hl => ?_)
          refine lv_goto (tgt := 12) hx hb dX3_commonDegree_55 (by decide) ?_
          exact ih w7 (x3 + 1) _ _ _ hP hS (lv_sub hl [2, 3, 1, 0] rfl) hf
        refine lv_if_eq (tgt := 50) hx hb dX3_commonDegree_31 (by decide) (fun c8 => ?_) (fun c8 => ?_)
        · rw [if_pos c8] at gw7
          refine lv_iconst (v := 0) hx hb dX3_commonDegree_50 (by decide) ?_
          obtain rfl := Option.some.inj gw7
          exact hJ51_w7 _ _ _ hP hS (lv_sub hl [1, 2, 3, 4, 0] rfl)
        · rw [if_neg c8] at gw7
          refine lv_iload hx hb dX3_commonDegree_34 (lv_at hl 0 rfl) ?_
          obtain ⟨w9, gw9, gw7⟩ := Option.bind_eq_some_iff.mp gw7
          try dsimp only at gw7
          have hJ51_w9 : ∀ (H : Heap) (locs : List Loc) (ls : Array Slot), va_P D vwCl (ww 46 ad (cellC cI cR ad M E P C N)) H → va_S (ww_A 46 ad) s.heap H locs → lv_has ls 5 [(0, .ref (ad 42)), (1, .int x1), (2, .int x2), (3, .int x3), (4, .int u5)] → W p l e (headSpec wsX3_commonDegree { frames := 1, cells := 0, slots := 0, locals := 21 }).room s m [.ref (ad 42)].toArray below meth c H locs 0 0 (MQ below (ct_Q D (ww 46 ad (cellC cI cR ad M E P C N)) (ww_A 46 ad) (some (.int res))) [.ref (ad 42)].toArray s 0 0 (ww_A 46 ad)) (F0 m 51 ls [.int w9]) := by
            intro H locs ls hP hS hl
            obtain rfl := Option.some.inj gw7
            exact hJ51_w7 _ _ _ hP hS (lv_sub hl [0, 1, 2, 3, 4] rfl)
          refine lv_if_le (tgt := 50) hx hb dX3_commonDegree_36 (by decide) (fun c10 => ?_) (fun c10 => ?_)
          · rw [if_pos c10] at gw9
            refine lv_iconst (v := 0) hx hb dX3_commonDegree_50 (by decide) ?_
            obtain rfl := Option.some.inj gw9
            exact hJ51_w9 _ _ _ hP hS (lv_sub hl [1, 2, 3, 4, 0] rfl)
          · rw [if_neg c10] at gw9
            refine lv_iload_n hx hb dX3_commonDegree_39 rfl (lv_at hl 2 rfl) ?_
            refine lv_iload hx hb dX3_commonDegree_40 (lv_at hl 0 rfl) ?_
            by_cases z11 : u5 = 0
            · rw [if_pos z11] at gw9; cases gw9
            rw [if_neg z11] at gw9
            refine jv_irem hx hb dX3_commonDegree_42 z11 ?_
            obtain ⟨w12, gw12, gw9⟩ := Option.bind_eq_some_iff.mp gw9
            try dsimp only at gw9
            have hJ51_w12 : ∀ (H : Heap) (locs : List Loc) (ls : Array Slot), va_P D vwCl (ww 46 ad (cellC cI cR ad M E P C N)) H → va_S (ww_A 46 ad) s.heap H locs → lv_has ls 5 [(0, .ref (ad 42)), (1, .int x1), (2, .int x2), (3, .int x3), (4, .int u5)] → W p l e (headSpec wsX3_commonDegree { frames := 1, cells := 0, slots := 0, locals := 21 }).room s m [.ref (ad 42)].toArray below meth c H locs 0 0 (MQ below (ct_Q D (ww 46 ad (cellC cI cR ad M E P C N)) (ww_A 46 ad) (some (.int res))) [.ref (ad 42)].toArray s 0 0 (ww_A 46 ad)) (F0 m 51 ls [.int w12]) := by
              intro H locs ls hP hS hl
              obtain rfl := Option.some.inj gw9
              exact hJ51_w9 _ _ _ hP hS (lv_sub hl [0, 1, 2, 3, 4] rfl)
            refine lv_if_ne (tgt := 50) hx hb dX3_commonDegree_43 (by decide) (fun c13 => ?_) (fun c13 => ?_)
            · rw [if_neg c13] at gw12
              refine lv_iconst (v := 0) hx hb dX3_commonDegree_50 (by decide) ?_
              obtain rfl := Option.some.inj gw12
              exact hJ51_w12 _ _ _ hP hS (lv_sub hl [1, 2, 3, 4, 0] rfl)
            · rw [if_pos c13] at gw12
              refine lv_iconst (v := 1) hx hb dX3_commonDegree_46 (by decide) ?_
              refine lv_goto (tgt := 51) hx hb dX3_commonDegree_47 (by decide) ?_
              obtain rfl := Option.some.inj gw12
              exact hJ51_w12 _ _ _ hP hS (lv_sub hl [1, 2, 3, 4, 0] rfl)
  have L2 : ∀  (k2 : Int32 → Option (Int32)), (∀ (x1 : Int32) (H : Heap) (locs : List Loc) (ls : Array Slot), va_P D vwCl (ww 46 ad (cellC cI cR ad M E P C N)) H → va_S (ww_A 46 ad) s.heap H locs → lv_has ls 5 [(0, .ref (ad 42)), (1, .int x1)] →  k2 x1 = some res → W p l e (headSpec wsX3_commonDegree { frames := 1, cells := 0, slots := 0, locals := 21 }).room s m [.ref (ad 42)].toArray below meth c H locs 0 0 (MQ below (ct_Q D (ww 46 ad (cellC cI cR ad M E P C N)) (ww_A 46 ad) (some (.int res))) [.ref (ad 42)].toArray s 0 0 (ww_A 46 ad)) (F0 m 70 ls [])) → ∀ (n : Nat) (x1 : Int32) (H : Heap) (locs : List Loc) (ls : Array Slot), va_P D vwCl (ww 46 ad (cellC cI cR ad M E P C N)) H → va_S (ww_A 46 ad) s.heap H locs → lv_has ls 5 [(0, .ref (ad 42)), (1, .int x1)] →  f_X3_commonDegree_l2 k2 fu M P N n x1 = some res → W p l e (headSpec wsX3_commonDegree { frames := 1, cells := 0, slots := 0, locals := 21 }).room s m [.ref (ad 42)].toArray below meth c H locs 0 0 (MQ below (ct_Q D (ww 46 ad (cellC cI cR ad M E P C N)) (ww_A 46 ad) (some (.int res))) [.ref (ad 42)].toArray s 0 0 (ww_A 46 ad)) (F0 m 2 ls []) := by
    intro  k2 hk_2 n
    induction n with
    | zero => intro x1 H locs ls hP hS hl hf; rw [f_X3_commonDegree_l2] at hf; cases hf
    | succ n ih =>
      intro x1 H locs ls hP hS hl hf
      rw [f_X3_commonDegree_l2] at hf
      refine lv_iload_n hx hb dX3_commonDegree_2 rfl (lv_at hl 1 rfl) ?_
      refine lv_bipush (v := 60) hx hb dX3_commonDegree_3 (by decide) ?_
      refine lv_icmp_gt (tgt := 70) hx hb dX3_commonDegree_5 (by decide) (fun c1 => ?_) (fun c1 => ?_)
      · rw [if_pos c1] at hf
        exact hk_2 x1 _ _ _ hP hS (lv_sub hl [0, 1] rfl) hf
      · rw [if_neg c1] at hf
        refine lv_iconst (v := 1) hx hb dX3_commonDegree_8 (by decide) ?_
        refine lv_istore_n (lv' := [(2, .int 1), (0, .ref (ad 42)), (1, .int x1)]) hx hb dX3_commonDegree_9 rfl hl (by decide) rfl (fun ls hl => ?_)
        refine lv_iconst (v := 0) hx hb dX3_commonDegree_10 (by decide) ?_
        refine lv_istore_n (lv' := [(3, .int 0), (2, .int 1), (0, .ref (ad 42)), (1, .int x1)]) hx hb dX3_commonDegree_11 rfl hl (by decide) rfl (fun ls hl => ?_)
        refine L12 x1 _ (fun y14 y15 H locs ls hP hS hl hf => ?_) fu 1 0 _ _ _ hP hS (lv_sub hl [2, 3, 1, 0] rfl) hf
        try dsimp only at hf
        refine lv_iload_n hx hb dX3_commonDegree_58 rfl (lv_at hl 2 rfl) ?_
        refine lv_if_eq (tgt := 64) hx hb dX3_commonDegree_59 (by decide) (fun c16 => ?_) (fun c16 => ?_)
        · rw [if_pos c16] at hf
          refine lv_iinc (v := x1 + 1) (lv' := [(1, .int (x1 + 1)), (0, .ref (ad 42)), (2, .int y14), (3, .int y15)]) hx hb dX3_commonDegree_64 hl (k := 1) rfl rfl (by decide) rfl (fun ls hl => ?_)
          refine lv_goto (tgt := 2) hx hb dX3_commonDegree_67 (by decide) ?_
          exact ih (x1 + 1) _ _ _ hP hS (lv_sub hl [1, 0] rfl) hf
        · rw [if_neg c16] at hf
          refine lv_iload_n hx hb dX3_commonDegree_62 rfl (lv_at hl 1 rfl) ?_
          obtain rfl := Option.some.inj hf
          exact W.iret (v := x1) hx hb hr (fun t ht hW => ⟨rfl, by rw [ht]; exact hP, hS.F ht⟩) hS.2.2 dX3_commonDegree_63
  unfold f_X3_commonDegree at hf
  refine lv_iconst (v := 1) hx hb dX3_commonDegree_0 (by decide) ?_
  refine lv_istore_n (lv' := [(1, .int 1), (0, .ref (ad 42))]) hx hb dX3_commonDegree_1 rfl hl (by decide) rfl (fun ls hl => ?_)
  refine L2  _ (fun y17 H locs ls hP hS hl hf => ?_) fu 1 _ _ _ hP hS (lv_sub hl [1, 0] rfl) hf
  try dsimp only at hf
  refine lv_iconst (v := 0) hx hb dX3_commonDegree_70 (by decide) ?_
  obtain rfl := Option.some.inj hf
  exact W.iret (v := 0) hx hb hr (fun t ht hW => ⟨rfl, by rw [ht]; exact hP, hS.F ht⟩) hS.2.2 dX3_commonDegree_71
def f_X3_keepRoot (fu : Nat) (M : Fin 20 → Nat → Int32) (E : Nat → Int32) (p1 : Fin 20) : Option ((Fin 20 → Nat → Int32)) :=
  (f_X2_copy fu M (11 : Fin 20) p1).bind (fun u1 =>
  (f_X1_divide fu u1 E (11 : Fin 20) (14 : Fin 20)).bind (fun u3 =>
  (f_X2_copy fu u3 (11 : Fin 20) (2 : Fin 20)).bind (fun u5 =>
  (f_X1_makeMonic fu u5 E (11 : Fin 20)).bind (fun u7 =>
  some u7))))
set_option maxHeartbeats 4000000 in
set_option maxRecDepth 100000 in
theorem C_X3_keepRoot (l : Launch) (D : va_G) (tys : List (ClassId × FieldType)) (nw : List Cond) (hn : nw.all nw_kind = true) (hnw : ∀ w ∈ nw0, w ∈ nw) {ad : Nat → Nat} (hj : ww_inj 46 ad) {cI : ClassId} {cR : ClassId} (htI : tys[0]? = some (cI, .int)) (htR : tys[1]? = some (cR, .object RX2)) {fu : Nat} {M : Fin 20 → Nat → Int32} {E : Nat → Int32} {P : Nat → Fin 20} {C : Nat → Int32} {N : Nat → Int32} {p1 : Fin 20} {res : (Fin 20 → Nat → Int32)} (hf : f_X3_keepRoot fu M E p1 = some res) :
    Met l yX3_keepRoot wsX3_keepRoot ({ frames := 3, cells := 0, slots := 0, locals := 84 }) (va_Pc [.ref (ad 42), .ref (ad 41), .ref (ra ad p1)] (ws_B D tys nw (ww 46 ad (cellC cI cR ad M E P C N)))) (ct_Q D (ww 46 ad (cellC cI cR ad res E P C N)) (ww_A 46 ad) (none)) 0 0 (ww_A 46 ad) := by
  refine Met.ofW (cc := cX3_keepRoot) (maxL := 3) (ret := none) (by decide) rfl ?_
  intro p e s m args below meth c s₁ B hml hv
  obtain ⟨rfl, hP, hK, hN⟩ := hv
  have hx := B.exec
  have hb := B.bytes
  have hr := B.returns
  have hts := atoms_spec (ws := wsX3_keepRoot) B.pre
  have hown : s.vm.findClass RX3 = some m.cls := findClass_of_methodNamed B.named
  have hlocks := B.notSynchronized
  have hS : va_S (ww_A 46 ad) s.heap s.heap [] := va_S.rf
  have hl := lv_entry ([.ref (ad 42), .ref (ad 41), .ref (ra ad p1)]) (n := 3) (Nat.le_of_ble_eq_true rfl)
  rw [lg_entry_eq]
  generalize (lg_sl ([.ref (ad 42), .ref (ad 41), .ref (ra ad p1)]) ++ List.replicate (3 - (lg_sl ([.ref (ad 42), .ref (ad 41), .ref (ra ad p1)])).length) Slot.unset).toArray = ls at hl ⊢
  have hl : lv_has ls 3 [(0, .ref (ad 42)), (1, .ref (ad 41)), (2, .ref (ra ad p1))] := hl
  unfold f_X3_keepRoot at hf
  refine lv_aload_n hx hb dX3_keepRoot_0 rfl (lv_at hl 0 rfl) ?_
  refine va_get (ci := 3) (v := .ref (ra ad (11 : Fin 20))) (C := RX3) (T := TX3) (N := 8) hx hb hts (by decide +kernel) hown hK hP 42 cc_spl rfl 4 (by decide) (hts (.fieldLink RX3 30 "NumberFieldFactors$Splitter" "root" "LNumberFieldFactors$Row;") (by decide +kernel)) (fun _ h9 => h9) rfl dX3_keepRoot_1 ?_
  refine lv_aload_n hx hb dX3_keepRoot_4 rfl (lv_at hl 2 rfl) ?_
  obtain ⟨u1, g2, hf⟩ := Option.bind_eq_some_iff.mp hf
  try dsimp only at hf
  refine ct_call (va_runV (As := [.ref (ra ad p1)]) (rest := []) ⟨hx, hb, hml, hown, hts⟩ (C_X2_copy l D tys nw hn hnw hj htI htR (res := u1) g2) (cwV 1 hts gX3_keepRoot_X2_copy rfl rfl rfl (by decide +kernel) ⟨Nat.le_of_ble_eq_true rfl, Nat.le_of_ble_eq_true rfl⟩) (ct_preV hn hP hK hN (ci := 2) (k := (20 + ((11 : Fin 20)).val)) rfl (ra_lt (11 : Fin 20)) (cl_row (11 : Fin 20))) rfl rfl hl.1 rfl (lv_room (Nat.le_of_ble_eq_true rfl)) dX3_keepRoot_5 ⟨Nat.zero_le _, Nat.zero_le _⟩) hS (fun H locs hP hS => ?_)
  refine lv_aload_n hx hb dX3_keepRoot_8 rfl (lv_at hl 1 rfl) ?_
  refine lv_aload_n hx hb dX3_keepRoot_9 rfl (lv_at hl 0 rfl) ?_
  refine va_get (ci := 3) (v := .ref (ra ad (11 : Fin 20))) (C := RX3) (T := TX3) (N := 8) hx hb hts (by decide +kernel) hown hK hP 42 cc_spl rfl 4 (by decide) (hts (.fieldLink RX3 30 "NumberFieldFactors$Splitter" "root" "LNumberFieldFactors$Row;") (by decide +kernel)) (fun _ h9 => h9) rfl dX3_keepRoot_10 ?_
  refine lv_aload_n hx hb dX3_keepRoot_13 rfl (lv_at hl 0 rfl) ?_
  refine va_get (ci := 3) (v := .ref (ra ad (14 : Fin 20))) (C := RX3) (T := TX3) (N := 8) hx hb hts (by decide +kernel) hown hK hP 42 cc_spl rfl 7 (by decide) (hts (.fieldLink RX3 40 "NumberFieldFactors$Splitter" "shared" "LNumberFieldFactors$Row;") (by decide +kernel)) (fun _ h9 => h9) rfl dX3_keepRoot_14 ?_
  obtain ⟨u3, g4, hf⟩ := Option.bind_eq_some_iff.mp hf
  try dsimp only at hf
  refine ct_call (va_runV (As := [.ref (ra ad (11 : Fin 20)), .ref (ra ad (14 : Fin 20))]) (rest := []) ⟨hx, hb, hml, hown, hts⟩ (C_X1_divide l D tys nw hn hnw hj htI htR (res := u3) g4) (cwV 2 hts gX3_keepRoot_X1_divide rfl rfl rfl (by decide +kernel) ⟨Nat.le_of_ble_eq_true rfl, Nat.le_of_ble_eq_true rfl⟩) (ct_preV hn hP hK hN (ci := 1) (k := 41) rfl (by decide) rfl) rfl rfl hl.1 rfl (lv_room (Nat.le_of_ble_eq_true rfl)) dX3_keepRoot_17 ⟨Nat.zero_le _, Nat.zero_le _⟩) hS (fun H locs hP hS => ?_)
  refine lv_aload_n hx hb dX3_keepRoot_20 rfl (lv_at hl 0 rfl) ?_
  refine va_get (ci := 3) (v := .ref (ra ad (11 : Fin 20))) (C := RX3) (T := TX3) (N := 8) hx hb hts (by decide +kernel) hown hK hP 42 cc_spl rfl 4 (by decide) (hts (.fieldLink RX3 30 "NumberFieldFactors$Splitter" "root" "LNumberFieldFactors$Row;") (by decide +kernel)) (fun _ h9 => h9) rfl dX3_keepRoot_21 ?_
  refine lv_aload_n hx hb dX3_keepRoot_24 rfl (lv_at hl 1 rfl) ?_
  refine va_getN (ci := 1) (v := .ref (ra ad (2 : Fin 20))) (C := RX1) (T := TX1) (N := 11) (host := "NumberFieldFactors") hx hb hts (by decide +kernel) hown hK hP 41 cc_ring rfl 2 (by decide) (va_Nw.use rfl (hN (.fieldLinkNest RX3 85 "NumberFieldFactors$Ring" "quotient" "LNumberFieldFactors$Row;" "NumberFieldFactors") (hnw _ (by decide +kernel)))) (fun _ h9 => h9) rfl dX3_keepRoot_25 ?_
  obtain ⟨u5, g6, hf⟩ := Option.bind_eq_some_iff.mp hf
  try dsimp only at hf
  refine ct_call (va_runV (As := [.ref (ra ad (2 : Fin 20))]) (rest := []) ⟨hx, hb, hml, hown, hts⟩ (C_X2_copy l D tys nw hn hnw hj htI htR (res := u5) g6) (cwV 1 hts gX3_keepRoot_X2_copy rfl rfl rfl (by decide +kernel) ⟨Nat.le_of_ble_eq_true rfl, Nat.le_of_ble_eq_true rfl⟩) (ct_preV hn hP hK hN (ci := 2) (k := (20 + ((11 : Fin 20)).val)) rfl (ra_lt (11 : Fin 20)) (cl_row (11 : Fin 20))) rfl rfl hl.1 rfl (lv_room (Nat.le_of_ble_eq_true rfl)) dX3_keepRoot_28 ⟨Nat.zero_le _, Nat.zero_le _⟩) hS (fun H locs hP hS => ?_)
  refine lv_aload_n hx hb dX3_keepRoot_31 rfl (lv_at hl 1 rfl) ?_
  refine lv_aload_n hx hb dX3_keepRoot_32 rfl (lv_at hl 0 rfl) ?_
  refine va_get (ci := 3) (v := .ref (ra ad (11 : Fin 20))) (C := RX3) (T := TX3) (N := 8) hx hb hts (by decide +kernel) hown hK hP 42 cc_spl rfl 4 (by decide) (hts (.fieldLink RX3 30 "NumberFieldFactors$Splitter" "root" "LNumberFieldFactors$Row;") (by decide +kernel)) (fun _ h9 => h9) rfl dX3_keepRoot_33 ?_
  obtain ⟨u7, g8, hf⟩ := Option.bind_eq_some_iff.mp hf
  try dsimp only at hf
  refine ct_call (va_runV (As := [.ref (ra ad (11 : Fin 20))]) (rest := []) ⟨hx, hb, hml, hown, hts⟩ (C_X1_makeMonic l D tys nw hn hnw hj htI htR (res := u7) g8) (cwV 1 hts gX3_keepRoot_X1_makeMonic rfl rfl rfl (by decide +kernel) ⟨Nat.le_of_ble_eq_true rfl, Nat.le_of_ble_eq_true rfl⟩) (ct_preV hn hP hK hN (ci := 1) (k := 41) rfl (by decide) rfl) rfl rfl hl.1 rfl (lv_room (Nat.le_of_ble_eq_true rfl)) dX3_keepRoot_36 ⟨Nat.zero_le _, Nat.zero_le _⟩) hS (fun H locs hP hS => ?_)
  obtain rfl := Option.some.inj hf
  exact W.vret hx hb hr (fun t ht hW => ⟨rfl, by rw [ht]; exact hP, hS.F ht⟩) hS.2.2 dX3_keepRoot_39
def f_X3_add (fu : Nat) (M : Fin 20 → Nat → Int32) (P : Nat → Fin 20) (N : Nat → Int32) (p0 : Fin 20) : Option ((Fin 20 → Nat → Int32) × (Nat → Int32)) :=
  if 5 ≤ (N 0) then
    some (M, N)
  else
    if (N 0) < 0 ∨ 5 ≤ (N 0).toNatClampNeg then none else
    (f_X2_copy fu M (P (N 0).toNatClampNeg) p0).bind (fun u3 =>
    some (u3, va_up N 0 ((N 0) + 1)))
set_option maxHeartbeats 4000000 in
set_option maxRecDepth 100000 in
theorem C_X3_add (l : Launch) (D : va_G) (tys : List (ClassId × FieldType)) (nw : List Cond) (hn : nw.all nw_kind = true) (hnw : ∀ w ∈ nw0, w ∈ nw) {ad : Nat → Nat} (hj : ww_inj 46 ad) {cI : ClassId} {cR : ClassId} (htI : tys[0]? = some (cI, .int)) (htR : tys[1]? = some (cR, .object RX2)) {fu : Nat} {M : Fin 20 → Nat → Int32} {E : Nat → Int32} {P : Nat → Fin 20} {C : Nat → Int32} {N : Nat → Int32} {p0 : Fin 20} {res : (Fin 20 → Nat → Int32) × (Nat → Int32)} (hf : f_X3_add fu M P N p0 = some res) :
    Met l yX3_add wsX3_add ({ frames := 2, cells := 0, slots := 0, locals := 43 }) (va_Pc [.ref (ad 42), .ref (ra ad p0)] (ws_B D tys nw (ww 46 ad (cellC cI cR ad M E P C N)))) (ct_Q D (ww 46 ad (cellC cI cR ad res.1 E P C res.2)) (ww_A 46 ad) (none)) 0 0 (ww_A 46 ad) := by
  refine Met.ofW (cc := cX3_add) (maxL := 2) (ret := none) (by decide) rfl ?_
  intro p e s m args below meth c s₁ B hml hv
  obtain ⟨rfl, hP, hK, hN⟩ := hv
  have hx := B.exec
  have hb := B.bytes
  have hr := B.returns
  have hts := atoms_spec (ws := wsX3_add) B.pre
  have hown : s.vm.findClass RX3 = some m.cls := findClass_of_methodNamed B.named
  have hlocks := B.notSynchronized
  have hS : va_S (ww_A 46 ad) s.heap s.heap [] := va_S.rf
  have hl := lv_entry ([.ref (ad 42), .ref (ra ad p0)]) (n := 2) (Nat.le_of_ble_eq_true rfl)
  rw [lg_entry_eq]
  generalize (lg_sl ([.ref (ad 42), .ref (ra ad p0)]) ++ List.replicate (2 - (lg_sl ([.ref (ad 42), .ref (ra ad p0)])).length) Slot.unset).toArray = ls at hl ⊢
  have hl : lv_has ls 2 [(0, .ref (ad 42)), (1, .ref (ra ad p0))] := hl
  unfold f_X3_add at hf
  refine lv_aload_n hx hb dX3_add_0 rfl (lv_at hl 0 rfl) ?_
  refine va_get (ci := 3) (v := .int (N 0)) (C := RX3) (T := TX3) (N := 8) hx hb hts (by decide +kernel) hown hK hP 42 cc_spl rfl 2 (by decide) (hts (.fieldLink RX3 21 "NumberFieldFactors$Splitter" "count" "I") (by decide +kernel)) (fun _ h9 => h9) rfl dX3_add_1 ?_
  refine lv_aload_n hx hb dX3_add_4 rfl (lv_at hl 0 rfl) ?_
  refine va_get (ci := 3) (v := .ref (ad 43)) (C := RX3) (T := TX3) (N := 8) hx hb hts (by decide +kernel) hown hK hP 42 cc_spl rfl 0 (by decide) (hts (.fieldLink RX3 11 "NumberFieldFactors$Splitter" "parts" "[LNumberFieldFactors$Row;") (by decide +kernel)) (fun _ h9 => h9) rfl dX3_add_5 ?_
  refine va_alen (v := 5) hx hb hK hP 43 1 cc_parts htR rfl dX3_add_8 ?_
  refine lv_icmp_ge (tgt := 35) hx hb dX3_add_9 (by decide) (fun c1 => ?_) (fun c1 => ?_)
  · rw [if_pos c1] at hf
    obtain rfl := Option.some.inj hf
    exact W.vret hx hb hr (fun t ht hW => ⟨rfl, by rw [ht]; exact hP, hS.F ht⟩) hS.2.2 dX3_add_35
  · rw [if_neg c1] at hf
    refine lv_aload_n hx hb dX3_add_12 rfl (lv_at hl 0 rfl) ?_
    refine va_get (ci := 3) (v := .ref (ad 43)) (C := RX3) (T := TX3) (N := 8) hx hb hts (by decide +kernel) hown hK hP 42 cc_spl rfl 0 (by decide) (hts (.fieldLink RX3 11 "NumberFieldFactors$Splitter" "parts" "[LNumberFieldFactors$Row;") (by decide +kernel)) (fun _ h9 => h9) rfl dX3_add_13 ?_
    refine lv_aload_n hx hb dX3_add_16 rfl (lv_at hl 0 rfl) ?_
    refine va_get (ci := 3) (v := .int (N 0)) (C := RX3) (T := TX3) (N := 8) hx hb hts (by decide +kernel) hown hK hP 42 cc_spl rfl 2 (by decide) (hts (.fieldLink RX3 21 "NumberFieldFactors$Splitter" "count" "I") (by decide +kernel)) (fun _ h9 => h9) rfl dX3_add_17 ?_
    by_cases b2 : (N 0) < 0 ∨ 5 ≤ (N 0).toNatClampNeg
    · rw [if_pos b2] at hf; cases hf
    rw [if_neg b2] at hf
    refine va_aldq hx hb hK hP 43 1 cc_parts htR b2 dX3_add_20 ?_
    refine lv_aload_n hx hb dX3_add_21 rfl (lv_at hl 1 rfl) ?_
    obtain ⟨u3, g4, hf⟩ := Option.bind_eq_some_iff.mp hf
    try dsimp only at hf
    refine ct_call (va_runV (As := [.ref (ra ad p0)]) (rest := []) ⟨hx, hb, hml, hown, hts⟩ (C_X2_copy l D tys nw hn hnw hj htI htR (res := u3) g4) (cwV 1 hts gX3_add_X2_copy rfl rfl rfl (by decide +kernel) ⟨Nat.le_of_ble_eq_true rfl, Nat.le_of_ble_eq_true rfl⟩) (ct_preV hn hP hK hN (ci := 2) (k := (20 + ((P (N 0).toNatClampNeg)).val)) rfl (ra_lt (P (N 0).toNatClampNeg)) (cl_row (P (N 0).toNatClampNeg))) rfl rfl hl.1 rfl (lv_room (Nat.le_of_ble_eq_true rfl)) dX3_add_22 ⟨Nat.zero_le _, Nat.zero_le _⟩) hS (fun H locs hP hS => ?_)
    refine lv_aload_n hx hb dX3_add_25 rfl (lv_at hl 0 rfl) ?_
    refine lv_dup hx hb dX3_add_26 rfl ?_
    refine va_get (ci := 3) (v := .int (N 0)) (C := RX3) (T := TX3) (N := 8) hx hb hts (by decide +kernel) hown hK hP 42 cc_spl rfl 2 (by decide) (hts (.fieldLink RX3 21 "NumberFieldFactors$Splitter" "count" "I") (by decide +kernel)) (fun _ h9 => h9) rfl dX3_add_27 ?_
    refine lv_iconst (v := 1) hx hb dX3_add_30 (by decide) ?_
    refine lv_iadd hx hb dX3_add_31 ?_
    refine va_put (ci := 3) (v := .int ((N 0) + 1)) (ty := .int) (C := RX3) (T := TX3) (N := 8) hx hb hts (by decide +kernel) tyX3 tyX3_ok nmX3 hown hK hP (ww_D hj) hS 42 cc_spl rfl 2 (by decide) (hts (.fieldLink RX3 21 "NumberFieldFactors$Splitter" "count" "I") (by decide +kernel)) (fun _ h9 => h9) rfl (by decide +kernel) rfl rfl (Nat.le_of_ble_eq_true rfl) dX3_add_32 (fun H locs hP hD hS => ?_)
    have hP := cs_N0 hP
    obtain rfl := Option.some.inj hf
    exact W.vret hx hb hr (fun t ht hW => ⟨rfl, by rw [ht]; exact hP, hS.F ht⟩) hS.2.2 dX3_add_35
def f_X3_sizeToThe (E : Nat → Int32) (p1 : Int32) : Option (Int64) :=
  nm ((E 1).toInt64) (fun v1 =>
  if p1 = 1 then
    some v1
  else
    some (v1 * v1))
set_option maxHeartbeats 4000000 in
set_option maxRecDepth 100000 in
theorem C_X3_sizeToThe (l : Launch) (D : va_G) (tys : List (ClassId × FieldType)) (nw : List Cond) (hn : nw.all nw_kind = true) (hnw : ∀ w ∈ nw0, w ∈ nw) {ad : Nat → Nat} (hj : ww_inj 46 ad) {cI : ClassId} {cR : ClassId} (htI : tys[0]? = some (cI, .int)) (htR : tys[1]? = some (cR, .object RX2)) {M : Fin 20 → Nat → Int32} {E : Nat → Int32} {P : Nat → Fin 20} {C : Nat → Int32} {N : Nat → Int32} {p1 : Int32} {res : Int64} (hf : f_X3_sizeToThe E p1 = some res) :
    Met l yX3_sizeToThe wsX3_sizeToThe ({ frames := 0, cells := 0, slots := 0, locals := 0 }) (va_Pc [.ref (ad 41), .int p1] (ws_B D tys nw (ww 46 ad (cellC cI cR ad M E P C N)))) (ct_Q D (ww 46 ad (cellC cI cR ad M E P C N)) (ww_A 46 ad) (some (.long res))) 0 0 (ww_A 46 ad) := by
  refine Met.ofW (cc := cX3_sizeToThe) (maxL := 4) (ret := (some .long)) (by decide) rfl ?_
  intro p e s m args below meth c s₁ B hml hv
  obtain ⟨rfl, hP, hK, hN⟩ := hv
  have hx := B.exec
  have hb := B.bytes
  have hr := B.returns
  have hts := atoms_spec (ws := wsX3_sizeToThe) B.pre
  have hown : s.vm.findClass RX3 = some m.cls := findClass_of_methodNamed B.named
  have hlocks := B.notSynchronized
  have hS : va_S (ww_A 46 ad) s.heap s.heap [] := va_S.rf
  have hl := lv_entry ([.ref (ad 41), .int p1]) (n := 4) (Nat.le_of_ble_eq_true rfl)
  rw [lg_entry_eq]
  generalize (lg_sl ([.ref (ad 41), .int p1]) ++ List.replicate (4 - (lg_sl ([.ref (ad 41), .int p1])).length) Slot.unset).toArray = ls at hl ⊢
  have hl : lv_has ls 4 [(0, .ref (ad 41)), (1, .int p1)] := hl
  unfold f_X3_sizeToThe at hf
  refine lv_aload_n hx hb dX3_sizeToThe_0 rfl (lv_at hl 0 rfl) ?_
  refine va_getN (ci := 1) (v := .ref (ad 40)) (C := RX1) (T := TX1) (N := 11) (host := "NumberFieldFactors") hx hb hts (by decide +kernel) hown hK hP 41 cc_ring rfl 0 (by decide) (va_Nw.use rfl (hN (.fieldLinkNest RX3 91 "NumberFieldFactors$Ring" "extension" "LNumberFieldFactors$Extension;" "NumberFieldFactors") (hnw _ (by decide +kernel)))) (fun _ h9 => h9) rfl dX3_sizeToThe_1 ?_
  refine va_getN (ci := 0) (v := .int (E 1)) (C := RX0) (T := TX0) (N := 8) (host := "NumberFieldFactors") hx hb hts (by decide +kernel) hown hK hP 40 cc_ext rfl 1 (by decide) (va_Nw.use rfl (hN (.fieldLinkNest RX3 95 "NumberFieldFactors$Extension" "size" "I" "NumberFieldFactors") (hnw _ (by decide +kernel)))) (fun _ h9 => h9) rfl dX3_sizeToThe_4 ?_
  refine lv_i2l hx hb dX3_sizeToThe_7 rfl ?_
  obtain ⟨v1, ev1, hf⟩ := nm_elim hf
  try dsimp only at hf
  refine tp_J ev1 ?_
  refine lv_lstore_n (lv' := [(2, .long v1), (0, .ref (ad 41)), (1, .int p1)]) hx hb dX3_sizeToThe_8 rfl hl (by decide) rfl (fun ls hl => ?_)
  refine lv_iload_n hx hb dX3_sizeToThe_9 rfl (lv_at hl 2 rfl) ?_
  refine lv_iconst (v := 1) hx hb dX3_sizeToThe_10 (by decide) ?_
  refine lv_icmp_ne (tgt := 18) hx hb dX3_sizeToThe_11 (by decide) (fun c2 => ?_) (fun c2 => ?_)
  · rw [if_neg c2] at hf
    refine lv_lload_n hx hb dX3_sizeToThe_18 rfl (lv_at hl 0 rfl) ?_
    refine lv_lload_n hx hb dX3_sizeToThe_19 rfl (lv_at hl 0 rfl) ?_
    refine lv_lmul hx hb dX3_sizeToThe_20 ?_
    obtain rfl := Option.some.inj hf
    exact W.lret hx hb hr (fun t ht hW => ⟨rfl, by rw [ht]; exact hP, hS.F ht⟩) hS.2.2 dX3_sizeToThe_21
  · rw [if_pos c2] at hf
    refine lv_lload_n hx hb dX3_sizeToThe_14 rfl (lv_at hl 0 rfl) ?_
    refine lv_goto (tgt := 21) hx hb dX3_sizeToThe_15 (by decide) ?_
    obtain rfl := Option.some.inj hf
    exact W.lret hx hb hr (fun t ht hW => ⟨rfl, by rw [ht]; exact hP, hS.F ht⟩) hS.2.2 dX3_sizeToThe_21
def f_X3_collect (fu : Nat) (M : Fin 20 → Nat → Int32) (E : Nat → Int32) (P : Nat → Fin 20) (N : Nat → Int32) (p1 : Int32) : Option ((Fin 20 → Nat → Int32) × (Nat → Int32)) :=
  (f_X3_sizeToThe E p1).bind (fun u1 =>
  (f_X1_raiseLinear fu M E 0 u1 (12 : Fin 20) (13 : Fin 20)).bind (fun u3 =>
  (f_X2_get u3 (13 : Fin 20) 1).bind (fun u5 =>
  (f_X0_minus u5 1).bind (fun u7 =>
  (f_X2_set u3 (13 : Fin 20) 1 u7).bind (fun u9 =>
  (f_X1_findCommon fu u9 E (12 : Fin 20) (13 : Fin 20) (14 : Fin 20)).bind (fun u11 =>
  (f_X2_degree fu u11 (14 : Fin 20)).bind (fun u13 =>
  if u13 ≤ 0 then
    some (u11, N)
  else
    (f_X3_add fu u11 P N (14 : Fin 20)).bind (fun u16 =>
    (f_X1_divide fu u16.1 E (12 : Fin 20) (14 : Fin 20)).bind (fun u18 =>
    (f_X2_copy fu u18 (12 : Fin 20) (2 : Fin 20)).bind (fun u20 =>
    some (u20, u16.2)))))))))))
set_option maxHeartbeats 4000000 in
set_option maxRecDepth 100000 in
theorem C_X3_collect (l : Launch) (D : va_G) (tys : List (ClassId × FieldType)) (nw : List Cond) (hn : nw.all nw_kind = true) (hnw : ∀ w ∈ nw0, w ∈ nw) {ad : Nat → Nat} (hj : ww_inj 46 ad) {cI : ClassId} {cR : ClassId} (htI : tys[0]? = some (cI, .int)) (htR : tys[1]? = some (cR, .object RX2)) {fu : Nat} {M : Fin 20 → Nat → Int32} {E : Nat → Int32} {P : Nat → Fin 20} {C : Nat → Int32} {N : Nat → Int32} {p1 : Int32} {res : (Fin 20 → Nat → Int32) × (Nat → Int32)} (hf : f_X3_collect fu M E P N p1 = some res) :
    Met l yX3_collect wsX3_collect ({ frames := 4, cells := 0, slots := 0, locals := 111 }) (va_Pc [.ref (ad 42), .ref (ad 41), .int p1] (ws_B D tys nw (ww 46 ad (cellC cI cR ad M E P C N)))) (ct_Q D (ww 46 ad (cellC cI cR ad res.1 E P C res.2)) (ww_A 46 ad) (none)) 0 0 (ww_A 46 ad) := by
  refine Met.ofW (cc := cX3_collect) (maxL := 3) (ret := none) (by decide) rfl ?_
  intro p e s m args below meth c s₁ B hml hv
  obtain ⟨rfl, hP, hK, hN⟩ := hv
  have hx := B.exec
  have hb := B.bytes
  have hr := B.returns
  have hts := atoms_spec (ws := wsX3_collect) B.pre
  have hown : s.vm.findClass RX3 = some m.cls := findClass_of_methodNamed B.named
  have hlocks := B.notSynchronized
  have hS : va_S (ww_A 46 ad) s.heap s.heap [] := va_S.rf
  have hl := lv_entry ([.ref (ad 42), .ref (ad 41), .int p1]) (n := 3) (Nat.le_of_ble_eq_true rfl)
  rw [lg_entry_eq]
  generalize (lg_sl ([.ref (ad 42), .ref (ad 41), .int p1]) ++ List.replicate (3 - (lg_sl ([.ref (ad 42), .ref (ad 41), .int p1])).length) Slot.unset).toArray = ls at hl ⊢
  have hl : lv_has ls 3 [(0, .ref (ad 42)), (1, .ref (ad 41)), (2, .int p1)] := hl
  unfold f_X3_collect at hf
  refine lv_aload_n hx hb dX3_collect_0 rfl (lv_at hl 1 rfl) ?_
  refine lv_iconst (v := 0) hx hb dX3_collect_1 (by decide) ?_
  refine lv_aload_n hx hb dX3_collect_2 rfl (lv_at hl 1 rfl) ?_
  refine lv_iload_n hx hb dX3_collect_3 rfl (lv_at hl 2 rfl) ?_
  obtain ⟨u1, g2, hf⟩ := Option.bind_eq_some_iff.mp hf
  try dsimp only at hf
  refine ct_call (va_runS (As := [.ref (ad 41), .int p1]) (rest := [.int 0, .ref (ad 41)]) ⟨hx, hb, hml, hown, hts⟩ (C_X3_sizeToThe l D tys nw hn hnw hj htI htR (res := u1) g2) (cwS 2 hts gX3_collect_X3_sizeToThe rfl rfl rfl (by decide +kernel) ⟨Nat.le_of_ble_eq_true rfl, Nat.le_of_ble_eq_true rfl⟩) (ct_preS hn hP hK hN) rfl rfl hl.1 rfl (lv_room (Nat.le_of_ble_eq_true rfl)) dX3_collect_4 ⟨Nat.zero_le _, Nat.zero_le _⟩) hS (fun H locs hP hS => ?_)
  refine lv_aload_n hx hb dX3_collect_7 rfl (lv_at hl 0 rfl) ?_
  refine va_get (ci := 3) (v := .ref (ra ad (12 : Fin 20))) (C := RX3) (T := TX3) (N := 8) hx hb hts (by decide +kernel) hown hK hP 42 cc_spl rfl 5 (by decide) (hts (.fieldLink RX3 34 "NumberFieldFactors$Splitter" "rest" "LNumberFieldFactors$Row;") (by decide +kernel)) (fun _ h9 => h9) rfl dX3_collect_8 ?_
  refine lv_aload_n hx hb dX3_collect_11 rfl (lv_at hl 0 rfl) ?_
  refine va_get (ci := 3) (v := .ref (ra ad (13 : Fin 20))) (C := RX3) (T := TX3) (N := 8) hx hb hts (by decide +kernel) hown hK hP 42 cc_spl rfl 6 (by decide) (hts (.fieldLink RX3 37 "NumberFieldFactors$Splitter" "power" "LNumberFieldFactors$Row;") (by decide +kernel)) (fun _ h9 => h9) rfl dX3_collect_12 ?_
  obtain ⟨u3, g4, hf⟩ := Option.bind_eq_some_iff.mp hf
  try dsimp only at hf
  refine ct_call (va_runV (As := [.int 0, .long u1, .ref (ra ad (12 : Fin 20)), .ref (ra ad (13 : Fin 20))]) (rest := []) ⟨hx, hb, hml, hown, hts⟩ (C_X1_raiseLinear l D tys nw hn hnw hj htI htR (res := u3) g4) (cwV 4 hts gX3_collect_X1_raiseLinear rfl rfl rfl (by decide +kernel) ⟨Nat.le_of_ble_eq_true rfl, Nat.le_of_ble_eq_true rfl⟩) (ct_preV hn hP hK hN (ci := 1) (k := 41) rfl (by decide) rfl) rfl rfl hl.1 rfl (lv_room (Nat.le_of_ble_eq_true rfl)) dX3_collect_15 ⟨Nat.zero_le _, Nat.zero_le _⟩) hS (fun H locs hP hS => ?_)
  refine lv_aload_n hx hb dX3_collect_18 rfl (lv_at hl 0 rfl) ?_
  refine va_get (ci := 3) (v := .ref (ra ad (13 : Fin 20))) (C := RX3) (T := TX3) (N := 8) hx hb hts (by decide +kernel) hown hK hP 42 cc_spl rfl 6 (by decide) (hts (.fieldLink RX3 37 "NumberFieldFactors$Splitter" "power" "LNumberFieldFactors$Row;") (by decide +kernel)) (fun _ h9 => h9) rfl dX3_collect_19 ?_
  refine lv_iconst (v := 1) hx hb dX3_collect_22 (by decide) ?_
  refine lv_aload_n hx hb dX3_collect_23 rfl (lv_at hl 1 rfl) ?_
  refine va_getN (ci := 1) (v := .ref (ad 40)) (C := RX1) (T := TX1) (N := 11) (host := "NumberFieldFactors") hx hb hts (by decide +kernel) hown hK hP 41 cc_ring rfl 0 (by decide) (va_Nw.use rfl (hN (.fieldLinkNest RX3 91 "NumberFieldFactors$Ring" "extension" "LNumberFieldFactors$Extension;" "NumberFieldFactors") (hnw _ (by decide +kernel)))) (fun _ h9 => h9) rfl dX3_collect_24 ?_
  refine lv_aload_n hx hb dX3_collect_27 rfl (lv_at hl 0 rfl) ?_
  refine va_get (ci := 3) (v := .ref (ra ad (13 : Fin 20))) (C := RX3) (T := TX3) (N := 8) hx hb hts (by decide +kernel) hown hK hP 42 cc_spl rfl 6 (by decide) (hts (.fieldLink RX3 37 "NumberFieldFactors$Splitter" "power" "LNumberFieldFactors$Row;") (by decide +kernel)) (fun _ h9 => h9) rfl dX3_collect_28 ?_
  refine lv_iconst (v := 1) hx hb dX3_collect_31 (by decide) ?_
  obtain ⟨u5, g6, hf⟩ := Option.bind_eq_some_iff.mp hf
  try dsimp only at hf
  refine ct_call (va_runV (As := [.int 1]) (rest := [.ref (ad 40), .int 1, .ref (ra ad (13 : Fin 20))]) ⟨hx, hb, hml, hown, hts⟩ (C_X2_get l D tys nw hn hnw hj htI htR (res := u5) g6) (cwV 1 hts gX3_collect_X2_get rfl rfl rfl (by decide +kernel) ⟨Nat.le_of_ble_eq_true rfl, Nat.le_of_ble_eq_true rfl⟩) (ct_preV hn hP hK hN (ci := 2) (k := (20 + ((13 : Fin 20)).val)) rfl (ra_lt (13 : Fin 20)) (cl_row (13 : Fin 20))) rfl rfl hl.1 rfl (lv_room (Nat.le_of_ble_eq_true rfl)) dX3_collect_32 ⟨Nat.zero_le _, Nat.zero_le _⟩) hS (fun H locs hP hS => ?_)
  refine lv_iconst (v := 1) hx hb dX3_collect_35 (by decide) ?_
  obtain ⟨u7, g8, hf⟩ := Option.bind_eq_some_iff.mp hf
  try dsimp only at hf
  refine ct_call (va_runV (As := [.int u5, .int 1]) (rest := [.int 1, .ref (ra ad (13 : Fin 20))]) ⟨hx, hb, hml, hown, hts⟩ (C_X0_minus l D tys nw hn hnw hj htI htR (res := u7) g8) (cwV 2 hts gX3_collect_X0_minus rfl rfl rfl (by decide +kernel) ⟨Nat.le_of_ble_eq_true rfl, Nat.le_of_ble_eq_true rfl⟩) (ct_preV hn hP hK hN (ci := 0) (k := 40) rfl (by decide) rfl) rfl rfl hl.1 rfl (lv_room (Nat.le_of_ble_eq_true rfl)) dX3_collect_36 ⟨Nat.zero_le _, Nat.zero_le _⟩) hS (fun H locs hP hS => ?_)
  obtain ⟨u9, g10, hf⟩ := Option.bind_eq_some_iff.mp hf
  try dsimp only at hf
  refine ct_call (va_runV (As := [.int 1, .int u7]) (rest := []) ⟨hx, hb, hml, hown, hts⟩ (C_X2_set l D tys nw hn hnw hj htI htR (res := u9) g10) (cwV 2 hts gX3_collect_X2_set rfl rfl rfl (by decide +kernel) ⟨Nat.le_of_ble_eq_true rfl, Nat.le_of_ble_eq_true rfl⟩) (ct_preV hn hP hK hN (ci := 2) (k := (20 + ((13 : Fin 20)).val)) rfl (ra_lt (13 : Fin 20)) (cl_row (13 : Fin 20))) rfl rfl hl.1 rfl (lv_room (Nat.le_of_ble_eq_true rfl)) dX3_collect_39 ⟨Nat.zero_le _, Nat.zero_le _⟩) hS (fun H locs hP hS => ?_)
  refine lv_aload_n hx hb dX3_collect_42 rfl (lv_at hl 1 rfl) ?_
  refine lv_aload_n hx hb dX3_collect_43 rfl (lv_at hl 0 rfl) ?_
  refine va_get (ci := 3) (v := .ref (ra ad (12 : Fin 20))) (C := RX3) (T := TX3) (N := 8) hx hb hts (by decide +kernel) hown hK hP 42 cc_spl rfl 5 (by decide) (hts (.fieldLink RX3 34 "NumberFieldFactors$Splitter" "rest" "LNumberFieldFactors$Row;") (by decide +kernel)) (fun _ h9 => h9) rfl dX3_collect_44 ?_
  refine lv_aload_n hx hb dX3_collect_47 rfl (lv_at hl 0 rfl) ?_
  refine va_get (ci := 3) (v := .ref (ra ad (13 : Fin 20))) (C := RX3) (T := TX3) (N := 8) hx hb hts (by decide +kernel) hown hK hP 42 cc_spl rfl 6 (by decide) (hts (.fieldLink RX3 37 "NumberFieldFactors$Splitter" "power" "LNumberFieldFactors$Row;") (by decide +kernel)) (fun _ h9 => h9) rfl dX3_collect_48 ?_
  refine lv_aload_n hx hb dX3_collect_51 rfl (lv_at hl 0 rfl) ?_
  refine va_get (ci := 3) (v := .ref (ra ad (14 : Fin 20))) (C := RX3) (T := TX3) (N := 8) hx hb hts (by decide +kernel) hown hK hP 42 cc_spl rfl 7 (by decide) (hts (.fieldLink RX3 40 "NumberFieldFactors$Splitter" "shared" "LNumberFieldFactors$Row;") (by decide +kernel)) (fun _ h9 => h9) rfl dX3_collect_52 ?_
  obtain ⟨u11, g12, hf⟩ := Option.bind_eq_some_iff.mp hf
  try dsimp only at hf
  refine ct_call (va_runV (As := [.ref (ra ad (12 : Fin 20)), .ref (ra ad (13 : Fin 20)), .ref (ra ad (14 : Fin 20))]) (rest := []) ⟨hx, hb, hml, hown, hts⟩ (C_X1_findCommon l D tys nw hn hnw hj htI htR (res := u11) g12) (cwV 3 hts gX3_collect_X1_findCommon rfl rfl rfl (by decide +kernel) ⟨Nat.le_of_ble_eq_true rfl, Nat.le_of_ble_eq_true rfl⟩) (ct_preV hn hP hK hN (ci := 1) (k := 41) rfl (by decide) rfl) rfl rfl hl.1 rfl (lv_room (Nat.le_of_ble_eq_true rfl)) dX3_collect_55 ⟨Nat.zero_le _, Nat.zero_le _⟩) hS (fun H locs hP hS => ?_)
  refine lv_aload_n hx hb dX3_collect_58 rfl (lv_at hl 0 rfl) ?_
  refine va_get (ci := 3) (v := .ref (ra ad (14 : Fin 20))) (C := RX3) (T := TX3) (N := 8) hx hb hts (by decide +kernel) hown hK hP 42 cc_spl rfl 7 (by decide) (hts (.fieldLink RX3 40 "NumberFieldFactors$Splitter" "shared" "LNumberFieldFactors$Row;") (by decide +kernel)) (fun _ h9 => h9) rfl dX3_collect_59 ?_
  obtain ⟨u13, g14, hf⟩ := Option.bind_eq_some_iff.mp hf
  try dsimp only at hf
  refine ct_call (va_runV (As := []) (rest := []) ⟨hx, hb, hml, hown, hts⟩ (C_X2_degree l D tys nw hn hnw hj htI htR (res := u13) g14) (cwV 0 hts gX3_collect_X2_degree rfl rfl rfl (by decide +kernel) ⟨Nat.le_of_ble_eq_true rfl, Nat.le_of_ble_eq_true rfl⟩) (ct_preV hn hP hK hN (ci := 2) (k := (20 + ((14 : Fin 20)).val)) rfl (ra_lt (14 : Fin 20)) (cl_row (14 : Fin 20))) rfl rfl hl.1 rfl (lv_room (Nat.le_of_ble_eq_true rfl)) dX3_collect_62 ⟨Nat.zero_le _, Nat.zero_le _⟩) hS (fun H locs hP hS => ?_)
  refine lv_if_le (tgt := 99) hx hb dX3_collect_65 (by decide) (fun c15 => ?_) (fun c15 => ?_)
  · rw [if_pos c15] at hf
    obtain rfl := Option.some.inj hf
    exact W.vret hx hb hr (fun t ht hW => ⟨rfl, by rw [ht]; exact hP, hS.F ht⟩) hS.2.2 dX3_collect_99
  · rw [if_neg c15] at hf
    refine lv_aload_n hx hb dX3_collect_68 rfl (lv_at hl 0 rfl) ?_
    refine lv_aload_n hx hb dX3_collect_69 rfl (lv_at hl 0 rfl) ?_
    refine va_get (ci := 3) (v := .ref (ra ad (14 : Fin 20))) (C := RX3) (T := TX3) (N := 8) hx hb hts (by decide +kernel) hown hK hP 42 cc_spl rfl 7 (by decide) (hts (.fieldLink RX3 40 "NumberFieldFactors$Splitter" "shared" "LNumberFieldFactors$Row;") (by decide +kernel)) (fun _ h9 => h9) rfl dX3_collect_70 ?_
    obtain ⟨u16, g17, hf⟩ := Option.bind_eq_some_iff.mp hf
    try dsimp only at hf
    refine ct_call (va_runV (As := [.ref (ra ad (14 : Fin 20))]) (rest := []) ⟨hx, hb, hml, hown, hts⟩ (C_X3_add l D tys nw hn hnw hj htI htR (res := u16) g17) (cwV 1 hts gX3_collect_X3_add rfl rfl rfl (by decide +kernel) ⟨Nat.le_of_ble_eq_true rfl, Nat.le_of_ble_eq_true rfl⟩) (ct_preV hn hP hK hN (ci := 3) (k := 42) rfl (by decide) rfl) rfl rfl hl.1 rfl (lv_room (Nat.le_of_ble_eq_true rfl)) dX3_collect_73 ⟨Nat.zero_le _, Nat.zero_le _⟩) hS (fun H locs hP hS => ?_)
    refine lv_aload_n hx hb dX3_collect_76 rfl (lv_at hl 1 rfl) ?_
    refine lv_aload_n hx hb dX3_collect_77 rfl (lv_at hl 0 rfl) ?_
    refine va_get (ci := 3) (v := .ref (ra ad (12 : Fin 20))) (C := RX3) (T := TX3) (N := 8) hx hb hts (by decide +kernel) hown hK hP 42 cc_spl rfl 5 (by decide) (hts (.fieldLink RX3 34 "NumberFieldFactors$Splitter" "rest" "LNumberFieldFactors$Row;") (by decide +kernel)) (fun _ h9 => h9) rfl dX3_collect_78 ?_
    refine lv_aload_n hx hb dX3_collect_81 rfl (lv_at hl 0 rfl) ?_
    refine va_get (ci := 3) (v := .ref (ra ad (14 : Fin 20))) (C := RX3) (T := TX3) (N := 8) hx hb hts (by decide +kernel) hown hK hP 42 cc_spl rfl 7 (by decide) (hts (.fieldLink RX3 40 "NumberFieldFactors$Splitter" "shared" "LNumberFieldFactors$Row;") (by decide +kernel)) (fun _ h9 => h9) rfl dX3_collect_82 ?_
    obtain ⟨u18, g19, hf⟩ := Option.bind_eq_some_iff.mp hf
    try dsimp only at hf
    refine ct_call (va_runV (As := [.ref (ra ad (12 : Fin 20)), .ref (ra ad (14 : Fin 20))]) (rest := []) ⟨hx, hb, hml, hown, hts⟩ (C_X1_divide l D tys nw hn hnw hj htI htR (res := u18) g19) (cwV 2 hts gX3_collect_X1_divide rfl rfl rfl (by decide +kernel) ⟨Nat.le_of_ble_eq_true rfl, Nat.le_of_ble_eq_true rfl⟩) (ct_preV hn hP hK hN (ci := 1) (k := 41) rfl (by decide) rfl) rfl rfl hl.1 rfl (lv_room (Nat.le_of_ble_eq_true rfl)) dX3_collect_85 ⟨Nat.zero_le _, Nat.zero_le _⟩) hS (fun H locs hP hS => ?_)
    refine lv_aload_n hx hb dX3_collect_88 rfl (lv_at hl 0 rfl) ?_
    refine va_get (ci := 3) (v := .ref (ra ad (12 : Fin 20))) (C := RX3) (T := TX3) (N := 8) hx hb hts (by decide +kernel) hown hK hP 42 cc_spl rfl 5 (by decide) (hts (.fieldLink RX3 34 "NumberFieldFactors$Splitter" "rest" "LNumberFieldFactors$Row;") (by decide +kernel)) (fun _ h9 => h9) rfl dX3_collect_89 ?_
    refine lv_aload_n hx hb dX3_collect_92 rfl (lv_at hl 1 rfl) ?_
    refine va_getN (ci := 1) (v := .ref (ra ad (2 : Fin 20))) (C := RX1) (T := TX1) (N := 11) (host := "NumberFieldFactors") hx hb hts (by decide +kernel) hown hK hP 41 cc_ring rfl 2 (by decide) (va_Nw.use rfl (hN (.fieldLinkNest RX3 85 "NumberFieldFactors$Ring" "quotient" "LNumberFieldFactors$Row;" "NumberFieldFactors") (hnw _ (by decide +kernel)))) (fun _ h9 => h9) rfl dX3_collect_93 ?_
    obtain ⟨u20, g21, hf⟩ := Option.bind_eq_some_iff.mp hf
    try dsimp only at hf
    refine ct_call (va_runV (As := [.ref (ra ad (2 : Fin 20))]) (rest := []) ⟨hx, hb, hml, hown, hts⟩ (C_X2_copy l D tys nw hn hnw hj htI htR (res := u20) g21) (cwV 1 hts gX3_collect_X2_copy rfl rfl rfl (by decide +kernel) ⟨Nat.le_of_ble_eq_true rfl, Nat.le_of_ble_eq_true rfl⟩) (ct_preV hn hP hK hN (ci := 2) (k := (20 + ((12 : Fin 20)).val)) rfl (ra_lt (12 : Fin 20)) (cl_row (12 : Fin 20))) rfl rfl hl.1 rfl (lv_room (Nat.le_of_ble_eq_true rfl)) dX3_collect_96 ⟨Nat.zero_le _, Nat.zero_le _⟩) hS (fun H locs hP hS => ?_)
    obtain rfl := Option.some.inj hf
    exact W.vret hx hb hr (fun t ht hW => ⟨rfl, by rw [ht]; exact hP, hS.F ht⟩) hS.2.2 dX3_collect_99
def f_X3_separate_l68 (k68 : Int32 → Int32 → (Fin 20 → Nat → Int32) → (Nat → Int32) → Option ((Fin 20 → Nat → Int32) × (Nat → Int32))) (fu : Nat) (E : Nat → Int32) (P : Nat → Fin 20) (x2 : Int32) (x3 : Int32) (x4 : Int32) (x5 : Int32) (x6 : Int64) (x8 : Int32) (x10 : Int32) (x11 : Int32) : Nat → Int32 → Int32 → (Fin 20 → Nat → Int32) → (Nat → Int32) → Option ((Fin 20 → Nat → Int32) × (Nat → Int32))
  | 0, _, _, _, _ => none
  | n + 1, x9, x12, M, N =>
    if x11 ≤ x12 then
      k68 x9 x12 M N
    else
      (f_X3_part P x12).bind (fun u10 =>
      (f_X2_degree fu M u10).bind (fun u12 =>
      ((
        if u12 ≤ x3 then
          some (x9, M, N)
        else
          (f_X3_part P x12).bind (fun u16 =>
          (f_X1_raiseLinear fu M E x8 x6 u16 (13 : Fin 20)).bind (fun u18 =>
          (f_X2_get u18 (13 : Fin 20) 0).bind (fun u20 =>
          (f_X0_minus u20 1).bind (fun u22 =>
          (f_X2_set u18 (13 : Fin 20) 0 u22).bind (fun u24 =>
          (f_X3_part P x12).bind (fun u26 =>
          (f_X1_findCommon fu u24 E u26 (13 : Fin 20) (14 : Fin 20)).bind (fun u28 =>
          (f_X2_degree fu u28 (14 : Fin 20)).bind (fun u30 =>
          ((
            if u30 ≤ 0 then
              some (u28, N)
            else
              (f_X2_degree fu u28 (14 : Fin 20)).bind (fun u34 =>
              (f_X3_part P x12).bind (fun u36 =>
              (f_X2_degree fu u28 u36).bind (fun u38 =>
              ((
                if u38 ≤ u34 then
                  some (u28, N)
                else
                  (f_X3_part P x12).bind (fun u42 =>
                  (f_X1_divide fu u28 E u42 (14 : Fin 20)).bind (fun u44 =>
                  (f_X3_part P x12).bind (fun u46 =>
                  (f_X2_copy fu u44 u46 (2 : Fin 20)).bind (fun u48 =>
                  (f_X3_add fu u48 P N (14 : Fin 20)).bind (fun u50 =>
                  some (u50.1, u50.2)))))) : Option ((Fin 20 → Nat → Int32) × (Nat → Int32)))).bind (fun w40 =>
              some (w40.1, w40.2))))) : Option ((Fin 20 → Nat → Int32) × (Nat → Int32)))).bind (fun w32 =>
          some (1, w32.1, w32.2)))))))))) : Option (Int32 × (Fin 20 → Nat → Int32) × (Nat → Int32)))).bind (fun w14 =>
      f_X3_separate_l68 k68 fu E P x2 x3 x4 x5 x6 x8 x10 x11 n w14.1 (x12 + 1) w14.2.1 w14.2.2)))
def f_X3_separate_l44 (k44 : Int32 → Int32 → Int32 → (Fin 20 → Nat → Int32) → (Nat → Int32) → Option ((Fin 20 → Nat → Int32) × (Nat → Int32))) (fu : Nat) (E : Nat → Int32) (P : Nat → Fin 20) (x2 : Int32) (x3 : Int32) (x4 : Int32) (x5 : Int32) (x6 : Int64) : Nat → Int32 → Int32 → Int32 → (Fin 20 → Nat → Int32) → (Nat → Int32) → Option ((Fin 20 → Nat → Int32) × (Nat → Int32))
  | 0, _, _, _, _, _ => none
  | n + 1, x8, x9, x10, M, N =>
    if x4 ≤ x10 then
      k44 x8 x9 x10 M N
    else
      if x9 = 0 then
        k44 x8 x9 x10 M N
      else
        nm (N 0) (fun v8 =>
        f_X3_separate_l68 (fun y52 y53 M54 N55 =>
          nm (x8 + x5) (fun v56 =>
          ((
            if v56 < x4 then
              some v56
            else
              some (v56 - x4) : Option (Int32))).bind (fun w57 =>
          f_X3_separate_l44 k44 fu E P x2 x3 x4 x5 x6 n w57 y52 (x10 + 1) M54 N55))) fu E P x2 x3 x4 x5 x6 x8 x10 v8 fu 0 x2 M N)
def f_X3_separate (fu : Nat) (M : Fin 20 → Nat → Int32) (E : Nat → Int32) (P : Nat → Fin 20) (N : Nat → Int32) (p1 : Int32) (p2 : Int32) : Option ((Fin 20 → Nat → Int32) × (Nat → Int32)) :=
  nm (E 1) (fun v1 =>
  nm ((v1 * 382) / 1000) (fun v2 =>
  (f_X3_sizeToThe E p2).bind (fun u3 =>
  nm ((u3 - 1) / 2) (fun v5 =>
  f_X3_separate_l44 (fun y59 y60 y61 M62 N63 =>
    some (M62, N63)) fu E P p1 p2 v1 v2 v5 fu v2 1 0 M N))))
set_option maxHeartbeats 4000000 in
set_option maxRecDepth 100000 in
theorem C_X3_separate (l : Launch) (D : va_G) (tys : List (ClassId × FieldType)) (nw : List Cond) (hn : nw.all nw_kind = true) (hnw : ∀ w ∈ nw0, w ∈ nw) {ad : Nat → Nat} (hj : ww_inj 46 ad) {cI : ClassId} {cR : ClassId} (htI : tys[0]? = some (cI, .int)) (htR : tys[1]? = some (cR, .object RX2)) {fu : Nat} {M : Fin 20 → Nat → Int32} {E : Nat → Int32} {P : Nat → Fin 20} {C : Nat → Int32} {N : Nat → Int32} {p1 : Int32} {p2 : Int32} {res : (Fin 20 → Nat → Int32) × (Nat → Int32)} (hf : f_X3_separate fu M E P N p1 p2 = some res) :
    Met l yX3_separate wsX3_separate ({ frames := 4, cells := 0, slots := 0, locals := 111 }) (va_Pc [.ref (ad 42), .ref (ad 41), .int p1, .int p2] (ws_B D tys nw (ww 46 ad (cellC cI cR ad M E P C N)))) (ct_Q D (ww 46 ad (cellC cI cR ad res.1 E P C res.2)) (ww_A 46 ad) (none)) 0 0 (ww_A 46 ad) := by
  refine Met.ofW (cc := cX3_separate) (maxL := 13) (ret := none) (by decide) rfl ?_
  intro p e s m args below meth c s₁ B hml hv
  obtain ⟨rfl, hP, hK, hN⟩ := hv
  have hx := B.exec
  have hb := B.bytes
  have hr := B.returns
  have hts := atoms_spec (ws := wsX3_separate) B.pre
  have hown : s.vm.findClass RX3 = some m.cls := findClass_of_methodNamed B.named
  have hlocks := B.notSynchronized
  have hS : va_S (ww_A 46 ad) s.heap s.heap [] := va_S.rf
  have hl := lv_entry ([.ref (ad 42), .ref (ad 41), .int p1, .int p2]) (n := 13) (Nat.le_of_ble_eq_true rfl)
  rw [lg_entry_eq]
  generalize (lg_sl ([.ref (ad 42), .ref (ad 41), .int p1, .int p2]) ++ List.replicate (13 - (lg_sl ([.ref (ad 42), .ref (ad 41), .int p1, .int p2])).length) Slot.unset).toArray = ls at hl ⊢
  have hl : lv_has ls 13 [(0, .ref (ad 42)), (1, .ref (ad 41)), (2, .int p1), (3, .int p2)] := hl
  have L68 : ∀ (x2 : Int32) (x3 : Int32) (x4 : Int32) (x5 : Int32) (x6 : Int64) (x8 : Int32) (x10 : Int32) (x11 : Int32) (k68 : Int32 → Int32 → (Fin 20 → Nat → Int32) → (Nat → Int32) → Option ((Fin 20 → Nat → Int32) × (Nat → Int32))), (∀ (x9 : Int32) (x12 : Int32) (M : Fin 20 → Nat → Int32) (N : Nat → Int32) (H : Heap) (locs : List Loc) (ls : Array Slot), va_P D vwCl (ww 46 ad (cellC cI cR ad M E P C N)) H → va_S (ww_A 46 ad) s.heap H locs → lv_has ls 13 [(0, .ref (ad 42)), (1, .ref (ad 41)), (2, .int x2), (3, .int x3), (4, .int x4), (5, .int x5), (6, .long x6), (8, .int x8), (9, .int x9), (10, .int x10), (11, .int x11), (12, .int x12)] →  k68 x9 x12 M N = some res → W p l e (headSpec wsX3_separate { frames := 4, cells := 0, slots := 0, locals := 111 }).room s m [.ref (ad 42), .ref (ad 41), .int p1, .int p2].toArray below meth c H locs 0 0 (MQ below (ct_Q D (ww 46 ad (cellC cI cR ad res.1 E P C res.2)) (ww_A 46 ad) (none)) [.ref (ad 42), .ref (ad 41), .int p1, .int p2].toArray s 0 0 (ww_A 46 ad)) (F0 m 221 ls [])) → ∀ (n : Nat) (x9 : Int32) (x12 : Int32) (M : Fin 20 → Nat → Int32) (N : Nat → Int32) (H : Heap) (locs : List Loc) (ls : Array Slot), va_P D vwCl (ww 46 ad (cellC cI cR ad M E P C N)) H → va_S (ww_A 46 ad) s.heap H locs → lv_has ls 13 [(0, .ref (ad 42)), (1, .ref (ad 41)), (2, .int x2), (3, .int x3), (4, .int x4), (5, .int x5), (6, .long x6), (8, .int x8), (9, .int x9), (10, .int x10), (11, .int x11), (12, .int x12)] →  f_X3_separate_l68 k68 fu E P x2 x3 x4 x5 x6 x8 x10 x11 n x9 x12 M N = some res → W p l e (headSpec wsX3_separate { frames := 4, cells := 0, slots := 0, locals := 111 }).room s m [.ref (ad 42), .ref (ad 41), .int p1, .int p2].toArray below meth c H locs 0 0 (MQ below (ct_Q D (ww 46 ad (cellC cI cR ad res.1 E P C res.2)) (ww_A 46 ad) (none)) [.ref (ad 42), .ref (ad 41), .int p1, .int p2].toArray s 0 0 (ww_A 46 ad)) (F0 m 68 ls []) := by
    intro x2 x3 x4 x5 x6 x8 x10 x11 k68 hk_68 n
    induction n with
    | zero => intro x9 x12 M N H locs ls hP hS hl hf; rw [f_X3_separate_l68] at hf; cases hf
    | succ n ih =>
      intro x9 x12 M N H locs ls hP hS hl hf
      rw [f_X3_separate_l68] at hf
      refine lv_iload hx hb dX3_separate_68 (lv_at hl 11 rfl) ?_
      refine lv_iload hx hb dX3_separate_70 (lv_at hl 10 rfl) ?_
      refine lv_icmp_ge (tgt := 221) hx hb dX3_separate_72 (by decide) (fun c9 => ?_) (fun c9 => ?_)
      · rw [if_pos c9] at hf
        exact hk_68 x9 x12 M N _ _ _ hP hS (lv_sub hl [0, 1, 2, 3, 4, 5, 6, 7, 8, 9, 10, 11] rfl) hf
      · rw [if_neg c9] at hf
        refine lv_aload_n hx hb dX3_separate_75 rfl (lv_at hl 0 rfl) ?_
        refine lv_iload hx hb dX3_separate_76 (lv_at hl 11 rfl) ?_
        obtain ⟨u10, g11, hf⟩ := Option.bind_eq_some_iff.mp hf
        try dsimp only at hf
        refine ct_call (va_runV (As := [.int x12]) (rest := []) ⟨hx, hb, hml, hown, hts⟩ (C_X3_part l D tys nw hn hnw hj htI htR (res := u10) g11) (cwV 1 hts gX3_separate_X3_part rfl rfl rfl (by decide +kernel) ⟨Nat.le_of_ble_eq_true rfl, Nat.le_of_ble_eq_true rfl⟩) (ct_preV hn hP hK hN (ci := 3) (k := 42) rfl (by decide) rfl) rfl rfl hl.1 rfl (lv_room (Nat.le_of_ble_eq_true rfl)) dX3_separate_78 ⟨Nat.zero_le _, Nat.zero_le _⟩) hS (fun H locs hP hS => ?_)
        obtain ⟨u12, g13, hf⟩ := Option.bind_eq_some_iff.mp hf
        try dsimp only at hf
        refine ct_call (va_runV (As := []) (rest := []) ⟨hx, hb, hml, hown, hts⟩ (C_X2_degree l D tys nw hn hnw hj htI htR (res := u12) g13) (cwV 0 hts gX3_separate_X2_degree rfl rfl rfl (by decide +kernel) ⟨Nat.le_of_ble_eq_true rfl, Nat.le_of_ble_eq_true rfl⟩) (ct_preV hn hP hK hN (ci := 2) (k := (20 + (u10).val)) rfl (ra_lt u10) (cl_row u10)) rfl rfl hl.1 rfl (lv_room (Nat.le_of_ble_eq_true rfl)) dX3_separate_81 ⟨Nat.zero_le _, Nat.zero_le _⟩) hS (fun H locs hP hS => ?_)
        refine lv_iload_n hx hb dX3_separate_84 rfl (lv_at hl 3 rfl) ?_
        obtain ⟨w14, gw14, hf⟩ := Option.bind_eq_some_iff.mp hf
        try dsimp only at hf
        have hJ215_w14 : ∀ (H : Heap) (locs : List Loc) (ls : Array Slot), va_P D vwCl (ww 46 ad (cellC cI cR ad w14.2.1 E P C w14.2.2)) H → va_S (ww_A 46 ad) s.heap H locs → lv_has ls 13 [(0, .ref (ad 42)), (1, .ref (ad 41)), (2, .int x2), (3, .int x3), (4, .int x4), (5, .int x5), (6, .long x6), (8, .int x8), (9, .int w14.1), (10, .int x10), (11, .int x11), (12, .int x12)] → W p l e (headSpec wsX3_separate { frames := 4, cells := 0, slots := 0, locals := 111 }).room s m [.ref (ad 42), .ref (ad 41), .int p1, .int p2].toArray below meth c H locs 0 0 (MQ below (ct_Q D (ww 46 ad (cellC cI cR ad res.1 E P C res.2)) (ww_A 46 ad) (none)) [.ref (ad 42), .ref (ad 41), .int p1, .int p2].toArray s 0 0 (ww_A 46 ad)) (F0 m 215 ls []) := by
          intro H locs ls hP hS hl
          refine lv_iinc (v := x12 + 1) (lv' := [(12, .int (x12 + 1)), (0, .ref (ad 42)), (1, .ref (ad 41)), (2, .int x2), (3, .int x3), (4, .int x4), (5, .int x5), (6, .long x6), (8, .int x8), (9, .int w14.1), (10, .int x10), (11, .int x11)]) hx hb dX3_separate_215 hl (k := 11) rfl rfl (by decide) rfl (fun ls hl => ?_)
          refine lv_goto (tgt := 68) hx hb dX3_separate_218 (by decide) ?_
          exact ih w14.1 (x12 + 1) w14.2.1 w14.2.2 _ _ _ hP hS (lv_sub hl [1, 2, 3, 4, 5, 6, 7, 8, 9, 10, 11, 0] rfl) hf
        refine lv_icmp_le (tgt := 215) hx hb dX3_separate_85 (by decide) (fun c15 => ?_) (fun c15 => ?_)
        · rw [if_pos c15] at gw14
          obtain rfl := Option.some.inj gw14
          exact hJ215_w14 _ _ _ hP hS (lv_sub hl [0, 1, 2, 3, 4, 5, 6, 7, 8, 9, 10, 11] rfl)
        · rw [if_neg c15] at gw14
          refine lv_iconst (v := 1) hx hb dX3_separate_88 (by decide) ?_
          refine lv_istore (lv' := [(9, .int 1), (0, .ref (ad 42)), (1, .ref (ad 41)), (2, .int x2), (3, .int x3), (4, .int x4), (5, .int x5), (6, .long x6), (8, .int x8), (10, .int x10), (11, .int x11), (12, .int x12)]) hx hb dX3_separate_89 hl (by decide) rfl (fun ls hl => ?_)
          refine lv_aload_n hx hb dX3_separate_91 rfl (lv_at hl 2 rfl) ?_
          refine lv_iload hx hb dX3_separate_92 (lv_at hl 8 rfl) ?_
          refine lv_lload hx hb dX3_separate_94 (lv_at hl 7 rfl) ?_
          refine lv_aload_n hx hb dX3_separate_96 rfl (lv_at hl 1 rfl) ?_
          refine lv_iload hx hb dX3_separate_97 (lv_at hl 11 rfl) ?_
          obtain ⟨u16, g17, gw14⟩ := Option.bind_eq_some_iff.mp gw14
          try dsimp only at gw14
          refine ct_call (va_runV (As := [.int x12]) (rest := [.long x6, .int x8, .ref (ad 41)]) ⟨hx, hb, hml, hown, hts⟩ (C_X3_part l D tys nw hn hnw hj htI htR (res := u16) g17) (cwV 1 hts gX3_separate_X3_part rfl rfl rfl (by decide +kernel) ⟨Nat.le_of_ble_eq_true rfl, Nat.le_of_ble_eq_true rfl⟩) (ct_preV hn hP hK hN (ci := 3) (k := 42) rfl (by decide) rfl) rfl rfl hl.1 rfl (lv_room (Nat.le_of_ble_eq_true rfl)) dX3_separate_99 ⟨Nat.zero_le _, Nat.zero_le _⟩) hS (fun H locs hP hS => ?_)
          refine lv_aload_n hx hb dX3_separate_102 rfl (lv_at hl 1 rfl) ?_
          refine va_get (ci := 3) (v := .ref (ra ad (13 : Fin 20))) (C := RX3) (T := TX3) (N := 8) hx hb hts (by decide +kernel) hown hK hP 42 cc_spl rfl 6 (by decide) (hts (.fieldLink RX3 37 "NumberFieldFactors$Splitter" "power" "LNumberFieldFactors$Row;") (by decide +kernel)) (fun _ h9 => h9) rfl dX3_separate_103 ?_
          obtain ⟨u18, g19, gw14⟩ := Option.bind_eq_some_iff.mp gw14
          try dsimp only at gw14
          refine ct_call (va_runV (As := [.int x8, .long x6, .ref (ra ad u16), .ref (ra ad (13 : Fin 20))]) (rest := []) ⟨hx, hb, hml, hown, hts⟩ (C_X1_raiseLinear l D tys nw hn hnw hj htI htR (res := u18) g19) (cwV 4 hts gX3_separate_X1_raiseLinear rfl rfl rfl (by decide +kernel) ⟨Nat.le_of_ble_eq_true rfl, Nat.le_of_ble_eq_true rfl⟩) (ct_preV hn hP hK hN (ci := 1) (k := 41) rfl (by decide) rfl) rfl rfl hl.1 rfl (lv_room (Nat.le_of_ble_eq_true rfl)) dX3_separate_106 ⟨Nat.zero_le _, Nat.zero_le _⟩) hS (fun H locs hP hS => ?_)
          refine lv_aload_n hx hb dX3_separate_109 rfl (lv_at hl 1 rfl) ?_
          refine va_get (ci := 3) (v := .ref (ra ad (13 : Fin 20))) (C := RX3) (T := TX3) (N := 8) hx hb hts (by decide +kernel) hown hK hP 42 cc_spl rfl 6 (by decide) (hts (.fieldLink RX3 37 "NumberFieldFactors$Splitter" "power" "LNumberFieldFactors$Row;") (by decide +kernel)) (fun _ h9 => h9) rfl dX3_separate_110 ?_
          refine lv_iconst (v := 0) hx hb dX3_separate_113 (by decide) ?_
          refine lv_aload_n hx hb dX3_separate_114 rfl (lv_at hl 2 rfl) ?_
          refine va_getN (ci := 1) (v := .ref (ad 40)) (C := RX1) (T := TX1) (N := 11) (host := "NumberFieldFactors") hx hb hts (by decide +kernel) hown hK hP 41 cc_ring rfl 0 (by decide) (va_Nw.use rfl (hN (.fieldLinkNest RX3 91 "NumberFieldFactors$Ring" "extension" "LNumberFieldFactors$Extension;" "NumberFieldFactors") (hnw _ (by decide +kernel)))) (fun _ h9 => h9) rfl dX3_separate_115 ?_
          refine lv_aload_n hx hb dX3_separate_118 rfl (lv_at hl 1 rfl) ?_
          refine va_get (ci := 3) (v := .ref (ra ad (13 : Fin 20))) (C := RX3) (T := TX3) (N := 8) hx hb hts (by decide +kernel) hown hK hP 42 cc_spl rfl 6 (by decide) (hts (.fieldLink RX3 37 "NumberFieldFactors$Splitter" "power" "LNumberFieldFactors$Row;") (by decide +kernel)) (fun _ h9 => h9) rfl dX3_separate_119 ?_
          refine lv_iconst (v := 0) hx hb dX3_separate_122 (by decide) ?_
          obtain ⟨u20, g21, gw14⟩ := Option.bind_eq_some_iff.mp gw14
          try dsimp only at gw14
          refine ct_call (va_runV (As := [.int 0]) (rest := [.ref (ad 40), .int 0, .ref (ra ad (13 : Fin 20))]) ⟨hx, hb, hml, hown, hts⟩ (C_X2_get l D tys nw hn hnw hj htI htR (res := u20) g21) (cwV 1 hts gX3_separate_X2_get rfl rfl rfl (by decide +kernel) ⟨Nat.le_of_ble_eq_true rfl, Nat.le_of_ble_eq_true rfl⟩) (ct_preV hn hP hK hN (ci := 2) (k := (20 + ((13 : Fin 20)).val)) rfl (ra_lt (13 : Fin 20)) (cl_row (13 : Fin 20))) rfl rfl hl.1 rfl (lv_room (Nat.le_of_ble_eq_true rfl)) dX3_separate_123 ⟨Nat.zero_le _, Nat.zero_le _⟩) hS (fun H locs hP hS => ?_)
          refine lv_iconst (v := 1) hx hb dX3_separate_126 (by decide) ?_
          obtain ⟨u22, g23, gw14⟩ := Option.bind_eq_some_iff.mp gw14
          try dsimp only at gw14
          refine ct_call (va_runV (As := [.int u20, .int 1]) (rest := [.int 0, .ref (ra ad (13 : Fin 20))]) ⟨hx, hb, hml, hown, hts⟩ (C_X0_minus l D tys nw hn hnw hj htI htR (res := u22) g23) (cwV 2 hts gX3_separate_X0_minus rfl rfl rfl (by decide +kernel) ⟨Nat.le_of_ble_eq_true rfl, Nat.le_of_ble_eq_true rfl⟩) (ct_preV hn hP hK hN (ci := 0) (k := 40) rfl (by decide) rfl) rfl rfl hl.1 rfl (lv_room (Nat.le_of_ble_eq_true rfl)) dX3_separate_127 ⟨Nat.zero_le _, Nat.zero_le _⟩) hS (fun H locs hP hS => ?_)
          obtain ⟨u24, g25, gw14⟩ := Option.bind_eq_some_iff.mp gw14
          try dsimp only at gw14
          refine ct_call (va_runV (As := [.int 0, .int u22]) (rest := []) ⟨hx, hb, hml, hown, hts⟩ (C_X2_set l D tys nw hn hnw hj htI htR (res := u24) g25) (cwV 2 hts gX3_separate_X2_set rfl rfl rfl (by decide +kernel) ⟨Nat.le_of_ble_eq_true rfl, Nat.le_of_ble_eq_true rfl⟩) (ct_preV hn hP hK hN (ci := 2) (k := (20 + ((13 : Fin 20)).val)) rfl (ra_lt (13 : Fin 20)) (cl_row (13 : Fin 20))) rfl rfl hl.1 rfl (lv_room (Nat.le_of_ble_eq_true rfl)) dX3_separate_130 ⟨Nat.zero_le _, Nat.zero_le _⟩) hS (fun H locs hP hS => ?_)
          refine lv_aload_n hx hb dX3_separate_133 rfl (lv_at hl 2 rfl) ?_
          refine lv_aload_n hx hb dX3_separate_134 rfl (lv_at hl 1 rfl) ?_
          refine lv_iload hx hb dX3_separate_135 (lv_at hl 11 rfl) ?_
          obtain ⟨u26, g27, gw14⟩ := Option.bind_eq_some_iff.mp gw14
          try dsimp only at gw14
          refine ct_call (va_runV (As := [.int x12]) (rest := [.ref (ad 41)]) ⟨hx, hb, hml, hown, hts⟩ (C_X3_part l D tys nw hn hnw hj htI htR (res := u26) g27) (cwV 1 hts gX3_separate_X3_part rfl rfl rfl (by decide +kernel) ⟨Nat.le_of_ble_eq_true rfl, Nat.le_of_ble_eq_true rfl⟩) (ct_preV hn hP hK hN (ci := 3) (k := 42) rfl (by decide) rfl) rfl rfl hl.1 rfl (lv_room (Nat.le_of_ble_eq_true rfl)) dX3_separate_137 ⟨Nat.zero_le _, Nat.zero_le _⟩) hS (fun H locs hP hS => ?_)
          refine lv_aload_n hx hb dX3_separate_140 rfl (lv_at hl 1 rfl) ?_
          refine va_get (ci := 3) (v := .ref (ra ad (13 : Fin 20))) (C := RX3) (T := TX3) (N := 8) hx hb hts (by decide +kernel) hown hK hP 42 cc_spl rfl 6 (by decide) (hts (.fieldLink RX3 37 "NumberFieldFactors$Splitter" "power" "LNumberFieldFactors$Row;") (by decide +kernel)) (fun _ h9 => h9) rfl dX3_separate_141 ?_
          refine lv_aload_n hx hb dX3_separate_144 rfl (lv_at hl 1 rfl) ?_
          refine va_get (ci := 3) (v := .ref (ra ad (14 : Fin 20))) (C := RX3) (T := TX3) (N := 8) hx hb hts (by decide +kernel) hown hK hP 42 cc_spl rfl 7 (by decide) (hts (.fieldLink RX3 40 "NumberFieldFactors$Splitter" "shared" "LNumberFieldFactors$Row;") (by decide +kernel)) (fun _ h9 => h9) rfl dX3_separate_145 ?_
          obtain ⟨u28, g29, gw14⟩ := Option.bind_eq_some_iff.mp gw14
          try dsimp only at gw14
          refine ct_call (va_runV (As := [.ref (ra ad u26), .ref (ra ad (13 : Fin 20)), .ref (ra ad (14 : Fin 20))]) (rest := []) ⟨hx, hb, hml, hown, hts⟩ (C_X1_findCommon l D tys nw hn hnw hj htI htR (res := u28) g29) (cwV 3 hts gX3_separate_X1_findCommon rfl rfl rfl (by decide +kernel) ⟨Nat.le_of_ble_eq_true rfl, Nat.le_of_ble_eq_true rfl⟩) (ct_preV hn hP hK hN (ci := 1) (k := 41) rfl (by decide) rfl) rfl rfl hl.1 rfl (lv_room (Nat.le_of_ble_eq_true rfl)) dX3_separate_148 ⟨Nat.zero_le _, Nat.zero_le _⟩) hS (fun H locs hP hS => ?_)
          refine lv_aload_n hx hb dX3_separate_151 rfl (lv_at hl 1 rfl) ?_
          refine va_get (ci := 3) (v := .ref (ra ad (14 : Fin 20))) (C := RX3) (T := TX3) (N := 8) hx hb hts (by decide +kernel) hown hK hP 42 cc_spl rfl 7 (by decide) (hts (.fieldLink RX3 40 "NumberFieldFactors$Splitter" "shared" "LNumberFieldFactors$Row;") (by decide +kernel)) (fun _ h9 => h9) rfl dX3_separate_152 ?_
          obtain ⟨u30, g31, gw14⟩ := Option.bind_eq_some_iff.mp gw14
          try dsimp only at gw14
          refine ct_call (va_runV (As := []) (rest := []) ⟨hx, hb, hml, hown, hts⟩ (C_X2_degree l D tys nw hn hnw hj htI htR (res := u30) g31) (cwV 0 hts gX3_separate_X2_degree rfl rfl rfl (by decide +kernel) ⟨Nat.le_of_ble_eq_true rfl, Nat.le_of_ble_eq_true rfl⟩) (ct_preV hn hP hK hN (ci := 2) (k := (20 + ((14 : Fin 20)).val)) rfl (ra_lt (14 : Fin 20)) (cl_row (14 : Fin 20))) rfl rfl hl.1 rfl (lv_room (Nat.le_of_ble_eq_true rfl)) dX3_separate_155 ⟨Nat.zero_le _, Nat.zero_le _⟩) hS (fun H locs hP hS => ?_)
          obtain ⟨w32, gw32, gw14⟩ := Option.bind_eq_some_iff.mp gw14
          try dsimp only at gw14
          have hJ215_w32 : ∀ (H : Heap) (locs : List Loc) (ls : Array Slot), va_P D vwCl (ww 46 ad (cellC cI cR ad w32.1 E P C w32.2)) H → va_S (ww_A 46 ad) s.heap H locs → lv_has ls 13 [(0, .ref (ad 42)), (1, .ref (ad 41)), (2, .int x2), (3, .int x3), (4, .int x4), (5, .int x5), (6, .long x6), (8, .int x8), (9, .int 1), (10, .int x10), (11, .int x11), (12, .int x12)] → W p l e (headSpec wsX3_separate { frames := 4, cells := 0, slots := 0, locals := 111 }).room s m [.ref (ad 42), .ref (ad 41), .int p1, .int p2].toArray below meth c H locs 0 0 (MQ below (ct_Q D (ww 46 ad (cellC cI cR ad res.1 E P C res.2)) (ww_A 46 ad) (none)) [.ref (ad 42), .ref (ad 41), .int p1, .int p2].toArray s 0 0 (ww_A 46 ad)) (F0 m 215 ls []) := by
            intro H locs ls hP hS hl
            obtain rfl := Option.some.inj gw14
            exact hJ215_w14 _ _ _ hP hS (lv_sub hl [0, 1, 2, 3, 4, 5, 6, 7, 8, 9, 10, 11] rfl)
          refine lv_if_le (tgt := 215) hx hb dX3_separate_158 (by decide) (fun c33 => ?_) (fun c33 => ?_)
          · rw [if_pos c33] at gw32
            obtain rfl := Option.some.inj gw32
            exact hJ215_w32 _ _ _ hP hS (lv_sub hl [1, 2, 3, 4, 5, 6, 7, 8, 0, 9, 10, 11] rfl)
          · rw [if_neg c33] at gw32
            refine lv_aload_n hx hb dX3_separate_161 rfl (lv_at hl 1 rfl) ?_
            refine va_get (ci := 3) (v := .ref (ra ad (14 : Fin 20))) (C := RX3) (T := TX3) (N := 8) hx hb hts (by decide +kernel) hown hK hP 42 cc_spl rfl 7 (by decide) (hts (.fieldLink RX3 40 "NumberFieldFactors$Splitter" "shared" "LNumberFieldFactors$Row;") (by decide +kernel)) (fun _ h9 => h9) rfl dX3_separate_162 ?_
            obtain ⟨u34, g35, gw32⟩ := Option.bind_eq_some_iff.mp gw32
            try dsimp only at gw32
            refine ct_call (va_runV (As := []) (rest := []) ⟨hx, hb, hml, hown, hts⟩ (C_X2_degree l D tys nw hn hnw hj htI htR (res := u34) g35) (cwV 0 hts gX3_separate_X2_degree rfl rfl rfl (by decide +kernel) ⟨Nat.le_of_ble_eq_true rfl, Nat.le_of_ble_eq_true rfl⟩) (ct_preV hn hP hK hN (ci := 2) (k := (20 + ((14 : Fin 20)).val)) rfl (ra_lt (14 : Fin 20)) (cl_row (14 : Fin 20))) rfl rfl hl.1 rfl (lv_room (Nat.le_of_ble_eq_true rfl)) dX3_separate_165 ⟨Nat.zero_le _, Nat.zero_le _⟩) hS (fun H locs hP hS => ?_)
            refine lv_aload_n hx hb dX3_separate_168 rfl (lv_at hl 1 rfl) ?_
            refine lv_iload hx hb dX3_separate_169 (lv_at hl 11 rfl) ?_
            obtain ⟨u36, g37, gw32⟩ := Option.bind_eq_some_iff.mp gw32
            try dsimp only at gw32
            refine ct_call (va_runV (As := [.int x12]) (rest := [.int u34]) ⟨hx, hb, hml, hown, hts⟩ (C_X3_part l D tys nw hn hnw hj htI htR (res := u36) g37) (cwV 1 hts gX3_separate_X3_part rfl rfl rfl (by decide +kernel) ⟨Nat.le_of_ble_eq_true rfl, Nat.le_of_ble_eq_true rfl⟩) (ct_preV hn hP hK hN (ci := 3) (k := 42) rfl (by decide) rfl) rfl rfl hl.1 rfl (lv_room (Nat.le_of_ble_eq_true rfl)) dX3_separate_171 ⟨Nat.zero_le _, Nat.zero_le _⟩) hS (fun H locs hP hS => ?_)
            obtain ⟨u38, g39, gw32⟩ := Option.bind_eq_some_iff.mp gw32
            try dsimp only at gw32
            refine ct_call (va_runV (As := []) (rest := [.int u34]) ⟨hx, hb, hml, hown, hts⟩ (C_X2_degree l D tys nw hn hnw hj htI htR (res := u38) g39) (cwV 0 hts gX3_separate_X2_degree rfl rfl rfl (by decide +kernel) ⟨Nat.le_of_ble_eq_true rfl, Nat.le_of_ble_eq_true rfl⟩) (ct_preV hn hP hK hN (ci := 2) (k := (20 + (u36).val)) rfl (ra_lt u36) (cl_row u36)) rfl rfl hl.1 rfl (lv_room (Nat.le_of_ble_eq_true rfl)) dX3_separate_174 ⟨Nat.zero_le _, Nat.zero_le _⟩) hS (fun H locs hP hS => ?_)
            obtain ⟨w40, gw40, gw32⟩ := Option.bind_eq_some_iff.mp gw32
            try dsimp only at gw32
            have hJ215_w40 : ∀ (H : Heap) (locs : List Loc) (ls : Array Slot), va_P D vwCl (ww 46 ad (cellC cI cR ad w40.1 E P C w40.2)) H → va_S (ww_A 46 ad) s.heap H locs → lv_has ls 13 [(0, .ref (ad 42)), (1, .ref (ad 41)), (2, .int x2), (3, .int x3), (4, .int x4), (5, .int x5), (6, .long x6), (8, .int x8), (9, .int 1), (10, .int x10), (11, .int x11), (12, .int x12)] → W p l e (headSpec wsX3_separate { frames := 4, cells := 0, slots := 0, locals := 111 }).room s m [.ref (ad 42), .ref (ad 41), .int p1, .int p2].toArray below meth c H locs 0 0 (MQ below (ct_Q D (ww 46 ad (cellC cI cR ad res.1 E P C res.2)) (ww_A 46 ad) (none)) [.ref (ad 42), .ref (ad 41), .int p1, .int p2].toArray s 0 0 (ww_A 46 ad)) (F0 m 215 ls []) := by
              intro H locs ls hP hS hl
              obtain rfl := Option.some.inj gw32
              exact hJ215_w32 _ _ _ hP hS (lv_sub hl [0, 1, 2, 3, 4, 5, 6, 7, 8, 9, 10, 11] rfl)
            refine lv_icmp_ge (tgt := 215) hx hb dX3_separate_177 (by decide) (fun c41 => ?_) (fun c41 => ?_)
            · rw [if_pos c41] at gw40
              obtain rfl := Option.some.inj gw40
              exact hJ215_w40 _ _ _ hP hS (lv_sub hl [1, 2, 3, 4, 5, 6, 7, 8, 0, 9, 10, 11] rfl)
            · rw [if_neg c41] at gw40
              refine lv_aload_n hx hb dX3_separate_180 rfl (lv_at hl 2 rfl) ?_
              refine lv_aload_n hx hb dX3_separate_181 rfl (lv_at hl 1 rfl) ?_
              refine lv_iload hx hb dX3_separate_182 (lv_at hl 11 rfl) ?_
              obtain ⟨u42, g43, gw40⟩ := Option.bind_eq_some_iff.mp gw40
              try dsimp only at gw40
              refine ct_call (va_runV (As := [.int x12]) (rest := [.ref (ad 41)]) ⟨hx, hb, hml, hown, hts⟩ (C_X3_part l D tys nw hn hnw hj htI htR (res := u42) g43) (cwV 1 hts gX3_separate_X3_part rfl rfl rfl (by decide +kernel) ⟨Nat.le_of_ble_eq_true rfl, Nat.le_of_ble_eq_true rfl⟩) (ct_preV hn hP hK hN (ci := 3) (k := 42) rfl (by decide) rfl) rfl rfl hl.1 rfl (lv_room (Nat.le_of_ble_eq_true rfl)) dX3_separate_184 ⟨Nat.zero_le _, Nat.zero_le _⟩) hS (fun H locs hP hS => ?_)
              refine lv_aload_n hx hb dX3_separate_187 rfl (lv_at hl 1 rfl) ?_
              refine va_get (ci := 3) (v := .ref (ra ad (14 : Fin 20))) (C := RX3) (T := TX3) (N := 8) hx hb hts (by decide +kernel) hown hK hP 42 cc_spl rfl 7 (by decide) (hts (.fieldLink RX3 40 "NumberFieldFactors$Splitter" "shared" "LNumberFieldFactors$Row;") (by decide +kernel)) (fun _ h9 => h9) rfl dX3_separate_188 ?_
              obtain ⟨u44, g45, gw40⟩ := Option.bind_eq_some_iff.mp gw40
              try dsimp only at gw40
              refine ct_call (va_runV (As := [.ref (ra ad u42), .ref (ra ad (14 : Fin 20))]) (rest := []) ⟨hx, hb, hml, hown, hts⟩ (C_X1_divide l D tys nw hn hnw hj htI htR (res := u44) g45) (cwV 2 hts gX3_separate_X1_divide rfl rfl rfl (by decide +kernel) ⟨Nat.le_of_ble_eq_true rfl, Nat.le_of_ble_eq_true rfl⟩) (ct_preV hn hP hK hN (ci := 1) (k := 41) rfl (by decide) rfl) rfl rfl hl.1 rfl (lv_room (Nat.le_of_ble_eq_true rfl)) dX3_separate_191 ⟨Nat.zero_le _, Nat.zero_le _⟩) hS (fun H locs hP hS => ?_)
              refine lv_aload_n hx hb dX3_separate_194 rfl (lv_at hl 1 rfl) ?_
              refine lv_iload hx hb dX3_separate_195 (lv_at hl 11 rfl) ?_
              obtain ⟨u46, g47, gw40⟩ := Option.bind_eq_some_iff.mp gw40
              try dsimp only at gw40
              refine ct_call (va_runV (As := [.int x12]) (rest := []) ⟨hx, hb, hml, hown, hts⟩ (C_X3_part l D tys nw hn hnw hj htI htR (res := u46) g47) (cwV 1 hts gX3_separate_X3_part rfl rfl rfl (by decide +kernel) ⟨Nat.le_of_ble_eq_true rfl, Nat.le_of_ble_eq_true rfl⟩) (ct_preV hn hP hK hN (ci := 3) (k := 42) rfl (by decide) rfl) rfl rfl hl.1 rfl (lv_room (Nat.le_of_ble_eq_true rfl)) dX3_separate_197 ⟨Nat.zero_le _, Nat.zero_le _⟩) hS (fun H locs hP hS => ?_)
              refine lv_aload_n hx hb dX3_separate_200 rfl (lv_at hl 2 rfl) ?_
              refine va_getN (ci := 1) (v := .ref (ra ad (2 : Fin 20))) (C := RX1) (T := TX1) (N := 11) (host := "NumberFieldFactors") hx hb hts (by decide +kernel) hown hK hP 41 cc_ring rfl 2 (by decide) (va_Nw.use rfl (hN (.fieldLinkNest RX3 85 "NumberFieldFactors$Ring" "quotient" "LNumberFieldFactors$Row;" "NumberFieldFactors") (hnw _ (by decide +kernel)))) (fun _ h9 => h9) rfl dX3_separate_201 ?_
              obtain ⟨u48, g49, gw40⟩ := Option.bind_eq_some_iff.mp gw40
              try dsimp only at gw40
              refine ct_call (va_runV (As := [.ref (ra ad (2 : Fin 20))]) (rest := []) ⟨hx, hb, hml, hown, hts⟩ (C_X2_copy l D tys nw hn hnw hj htI htR (res := u48) g49) (cwV 1 hts gX3_separate_X2_copy rfl rfl rfl (by decide +kernel) ⟨Nat.le_of_ble_eq_true rfl, Nat.le_of_ble_eq_true rfl⟩) (ct_preV hn hP hK hN (ci := 2) (k := (20 + (u46).val)) rfl (ra_lt u46) (cl_row u46)) rfl rfl hl.1 rfl (lv_room (Nat.le_of_ble_eq_true rfl)) dX3_separate_204 ⟨Nat.zero_le _, Nat.zero_le _⟩) hS (fun H locs hP hS => ?_)
              refine lv_aload_n hx hb dX3_separate_207 rfl (lv_at hl 1 rfl) ?_
              refine lv_aload_n hx hb dX3_separate_208 rfl (lv_at hl 1 rfl) ?_
              refine va_get (ci := 3) (v := .ref (ra ad (14 : Fin 20))) (C := RX3) (T := TX3) (N := 8) hx hb hts (by decide +kernel) hown hK hP 42 cc_spl rfl 7 (by decide) (hts (.fieldLink RX3 40 "NumberFieldFactors$Splitter" "shared" "LNumberFieldFactors$Row;") (by decide +kernel)) (fun _ h9 => h9) rfl dX3_separate_209 ?_
              obtain ⟨u50, g51, gw40⟩ := Option.bind_eq_some_iff.mp gw40
              try dsimp only at gw40
              refine ct_call (va_runV (As := [.ref (ra ad (14 : Fin 20))]) (rest := []) ⟨hx, hb, hml, hown, hts⟩ (C_X3_add l D tys nw hn hnw hj htI htR (res := u50) g51) (cwV 1 hts gX3_separate_X3_add rfl rfl rfl (by decide +kernel) ⟨Nat.le_of_ble_eq_true rfl, Nat.le_of_ble_eq_true rfl⟩) (ct_preV hn hP hK hN (ci := 3) (k := 42) rfl (by decide) rfl) rfl rfl hl.1 rfl (lv_room (Nat.le_of_ble_eq_true rfl)) dX3_separate_212 ⟨Nat.zero_le _, Nat.zero_le _⟩) hS (fun H locs hP hS => ?_)
              obtain rfl := Option.some.inj gw40
              exact hJ215_w40 _ _ _ hP hS (lv_sub hl [1, 2, 3, 4, 5, 6, 7, 8, 0, 9, 10, 11] rfl)
  have L44 : ∀ (x2 : Int32) (x3 : Int32) (x4 : Int32) (x5 : Int32) (x6 : Int64) (k44 : Int32 → Int32 → Int32 → (Fin 20 → Nat → Int32) → (Nat → Int32) → Option ((Fin 20 → Nat → Int32) × (Nat → Int32))), (∀ (x8 : Int32) (x9 : Int32) (x10 : Int32) (M : Fin 20 → Nat → Int32) (N : Nat → Int32) (H : Heap) (locs : List Loc) (ls : Array Slot), va_P D vwCl (ww 46 ad (cellC cI cR ad M E P C N)) H → va_S (ww_A 46 ad) s.heap H locs → lv_has ls 13 [(0, .ref (ad 42)), (1, .ref (ad 41)), (2, .int x2), (3, .int x3), (4, .int x4), (5, .int x5), (6, .long x6), (8, .int x8), (9, .int x9), (10, .int x10)] →  k44 x8 x9 x10 M N = some res → W p l e (headSpec wsX3_separate { frames := 4, cells := 0, slots := 0, locals := 111 }).room s m [.ref (ad 42), .ref (ad 41), .int p1, .int p2].toArray below meth c H locs 0 0 (MQ below (ct_Q D (ww 46 ad (cellC cI cR ad res.1 E P C res.2)) (ww_A 46 ad) (none)) [.ref (ad 42), .ref (ad 41), .int p1, .int p2].toArray s 0 0 (ww_A 46 ad)) (F0 m 253 ls [])) → ∀ (n : Nat) (x8 : Int32) (x9 : Int32) (x10 : Int32) (M : Fin 20 → Nat → Int32) (N : Nat → Int32) (H : Heap) (locs : List Loc) (ls : Array Slot), va_P D vwCl (ww 46 ad (cellC cI cR ad M E P C N)) H → va_S (ww_A 46 ad) s.heap H locs → lv_has ls 13 [(0, .ref (ad 42)), (1, .ref (ad 41)), (2, .int x2), (3, .int x3), (4, .int x4), (5, .int x5), (6, .long x6), (8, .int x8), (9, .int x9), (10, .int x10)] →  f_X3_separate_l44 k44 fu E P x2 x3 x4 x5 x6 n x8 x9 x10 M N = some res → W p l e (headSpec wsX3_separate { frames := 4, cells := 0, slots := 0, locals := 111 }).room s m [.ref (ad 42), .ref (ad 41), .int p1, .int p2].toArray below meth c H locs 0 0 (MQ below (ct_Q D (ww 46 ad (cellC cI cR ad res.1 E P C res.2)) (ww_A 46 ad) (none)) [.ref (ad 42), .ref (ad 41), .int p1, .int p2].toArray s 0 0 (ww_A 46 ad)) (F0 m 44 ls []) := by
    intro x2 x3 x4 x5 x6 k44 hk_44 n
    induction n with
    | zero => intro x8 x9 x10 M N H locs ls hP hS hl hf; rw [f_X3_separate_l44] at hf; cases hf
    | succ n ih =>
      intro x8 x9 x10 M N H locs ls hP hS hl hf
      rw [f_X3_separate_l44] at hf
      refine lv_iload hx hb dX3_separate_44 (lv_at hl 9 rfl) ?_
      refine lv_iload hx hb dX3_separate_46 (lv_at hl 4 rfl) ?_
      refine lv_icmp_ge (tgt := 253) hx hb dX3_separate_48 (by decide) (fun c6 => ?_) (fun c6 => ?_)
      · rw [if_pos c6] at hf
        exact hk_44 x8 x9 x10 M N _ _ _ hP hS (lv_sub hl [0, 1, 2, 3, 4, 5, 6, 7, 8, 9] rfl) hf
      · rw [if_neg c6] at hf
        refine lv_iload hx hb dX3_separate_51 (lv_at hl 8 rfl) ?_
        refine lv_if_eq (tgt := 253) hx hb dX3_separate_53 (by decide) (fun c7 => ?_) (fun c7 => ?_)
        · rw [if_pos c7] at hf
          exact hk_44 x8 x9 x10 M N _ _ _ hP hS (lv_sub hl [0, 1, 2, 3, 4, 5, 6, 7, 8, 9] rfl) hf
        · rw [if_neg c7] at hf
          refine lv_iconst (v := 0) hx hb dX3_separate_56 (by decide) ?_
          refine lv_istore (lv' := [(9, .int 0), (0, .ref (ad 42)), (1, .ref (ad 41)), (2, .int x2), (3, .int x3), (4, .int x4), (5, .int x5), (6, .long x6), (8, .int x8), (10, .int x10)]) hx hb dX3_separate_57 hl (by decide) rfl (fun ls hl => ?_)
          refine lv_aload_n hx hb dX3_separate_59 rfl (lv_at hl 1 rfl) ?_
          refine va_get (ci := 3) (v := .int (N 0)) (C := RX3) (T := TX3) (N := 8) hx hb hts (by decide +kernel) hown hK hP 42 cc_spl rfl 2 (by decide) (hts (.fieldLink RX3 21 "NumberFieldFactors$Splitter" "count" "I") (by decide +kernel)) (fun _ h9 => h9) rfl dX3_separate_60 ?_
          obtain ⟨v8, ev8, hf⟩ := nm_elim hf
          try dsimp only at hf
          refine tp_I ev8 ?_
          refine lv_istore (lv' := [(11, .int v8), (9, .int 0), (0, .ref (ad 42)), (1, .ref (ad 41)), (2, .int x2), (3, .int x3), (4, .int x4), (5, .int x5), (6, .long x6), (8, .int x8), (10, .int x10)]) hx hb dX3_separate_63 hl (by decide) rfl (fun ls hl => ?_)
          refine lv_iload_n hx hb dX3_separate_65 rfl (lv_at hl 4 rfl) ?_
          refine lv_istore (lv' := [(12, .int x2), (11, .int v8), (9, .int 0), (0, .ref (ad 42)), (1, .ref (ad 41)), (2, .int x2), (3, .int x3), (4, .int x4), (5, .int x5), (6, .long x6), (8, .int x8), (10, .int x10)]) hx hb dX3_separate_66 hl (by decide) rfl (fun ls hl => ?_)
          refine L68 x2 x3 x4 x5 x6 x8 x10 v8 _ (fun y52 y53 M54 N55 H locs ls hP hS hl hf => ?_) fu 0 x2 M N _ _ _ hP hS (lv_sub hl [3, 4, 5, 6, 7, 8, 9, 10, 2, 11, 1, 0] rfl) hf
          try dsimp only at hf
          refine lv_iload hx hb dX3_separate_221 (lv_at hl 7 rfl) ?_
          refine lv_iload hx hb dX3_separate_223 (lv_at hl 5 rfl) ?_
          refine lv_iadd hx hb dX3_separate_225 ?_
          obtain ⟨v56, ev56, hf⟩ := nm_elim hf
          try dsimp only at hf
          refine tp_I ev56 ?_
          refine lv_istore (lv' := [(8, .int v56), (0, .ref (ad 42)), (1, .ref (ad 41)), (2, .int x2), (3, .int x3), (4, .int x4), (5, .int x5), (6, .long x6), (9, .int y52), (10, .int x10), (11, .int v8), (12, .int y53)]) hx hb dX3_separate_226 hl (by decide) rfl (fun ls hl => ?_)
          refine lv_iload hx hb dX3_separate_228 (lv_at hl 0 rfl) ?_
          refine lv_iload hx hb dX3_separate_230 (lv_at hl 5 rfl) ?_
          obtain ⟨w57, gw57, hf⟩ := Option.bind_eq_some_iff.mp hf
          try dsimp only at hf
          have hJ245_w57 : ∀ (H : Heap) (locs : List Loc) (ls : Array Slot), va_P D vwCl (ww 46 ad (cellC cI cR ad M54 E P C N55)) H → va_S (ww_A 46 ad) s.heap H locs → lv_has ls 13 [(0, .ref (ad 42)), (1, .ref (ad 41)), (2, .int x2), (3, .int x3), (4, .int x4), (5, .int x5), (6, .long x6), (8, .int v56), (9, .int y52), (10, .int x10), (11, .int v8), (12, .int y53)] → W p l e (headSpec wsX3_separate { frames := 4, cells := 0, slots := 0, locals := 111 }).room s m [.ref (ad 42), .ref (ad 41), .int p1, .int p2].toArray below meth c H locs 0 0 (MQ below (ct_Q D (ww 46 ad (cellC cI cR ad res.1 E P C res.2)) (ww_A 46 ad) (none)) [.ref (ad 42), .ref (ad 41), .int p1, .int p2].toArray s 0 0 (ww_A 46 ad)) (F0 m 245 ls [.int w57]) := by
            intro H locs ls hP hS hl
            refine lv_istore (lv' := [(8, .int w57), (0, .ref (ad 42)), (1, .ref (ad 41)), (2, .int x2), (3, .int x3), (4, .int x4), (5, .int x5), (6, .long x6), (9, .int y52), (10, .int x10), (11, .int v8), (12, .int y53)]) hx hb dX3_separate_245 hl (by decide) rfl (fun ls hl => ?_)
            refine lv_iinc (v := x10 + 1) (lv' := [(10, .int (x10 + 1)), (8, .int w57), (0, .ref (ad 42)), (1, .ref (ad 41)), (2, .int x2), (3, .int x3), (4, .int x4), (5, .int x5), (6, .long x6), (9, .int y52), (11, .int v8), (12, .int y53)]) hx hb dX3_separate_247 hl (k := 9) rfl rfl (by decide) rfl (fun ls hl => ?_)
            refine lv_goto (tgt := 44) hx hb dX3_separate_250 (by decide) ?_
            exact ih w57 y52 (x10 + 1) M54 N55 _ _ _ hP hS (lv_sub hl [2, 3, 4, 5, 6, 7, 8, 1, 9, 0] rfl) hf
          refine lv_icmp_lt (tgt := 243) hx hb dX3_separate_232 (by decide) (fun c58 => ?_) (fun c58 => ?_)
          · rw [if_pos c58] at gw57
            refine lv_iload hx hb dX3_separate_243 (lv_at hl 0 rfl) ?_
            obtain rfl := Option.some.inj gw57
            exact hJ245_w57 _ _ _ hP hS (lv_sub hl [1, 2, 3, 4, 5, 6, 7, 0, 8, 9, 10, 11] rfl)
          · rw [if_neg c58] at gw57
            refine lv_iload hx hb dX3_separate_235 (lv_at hl 0 rfl) ?_
            refine lv_iload hx hb dX3_separate_237 (lv_at hl 5 rfl) ?_
            refine lv_isub hx hb dX3_separate_239 ?_
            refine lv_goto (tgt := 245) hx hb dX3_separate_240 (by decide) ?_
            obtain rfl := Option.some.inj gw57
            exact hJ245_w57 _ _ _ hP hS (lv_sub hl [1, 2, 3, 4, 5, 6, 7, 0, 8, 9, 10, 11] rfl)
  unfold f_X3_separate at hf
  refine lv_aload_n hx hb dX3_separate_0 rfl (lv_at hl 1 rfl) ?_
  refine va_getN (ci := 1) (v := .ref (ad 40)) (C := RX1) (T := TX1) (N := 11) (host := "NumberFieldFactors") hx hb hts (by decide +kernel) hown hK hP 41 cc_ring rfl 0 (by decide) (va_Nw.use rfl (hN (.fieldLinkNest RX3 91 "NumberFieldFactors$Ring" "extension" "LNumberFieldFactors$Extension;" "NumberFieldFactors") (hnw _ (by decide +kernel)))) (fun _ h9 => h9) rfl dX3_separate_1 ?_
  refine va_getN (ci := 0) (v := .int (E 1)) (C := RX0) (T := TX0) (N := 8) (host := "NumberFieldFactors") hx hb hts (by decide +kernel) hown hK hP 40 cc_ext rfl 1 (by decide) (va_Nw.use rfl (hN (.fieldLinkNest RX3 95 "NumberFieldFactors$Extension" "size" "I" "NumberFieldFactors") (hnw _ (by decide +kernel)))) (fun _ h9 => h9) rfl dX3_separate_4 ?_
  obtain ⟨v1, ev1, hf⟩ := nm_elim hf
  try dsimp only at hf
  refine tp_I ev1 ?_
  refine lv_istore (lv' := [(4, .int v1), (0, .ref (ad 42)), (1, .ref (ad 41)), (2, .int p1), (3, .int p2)]) hx hb dX3_separate_7 hl (by decide) rfl (fun ls hl => ?_)
  refine lv_iload hx hb dX3_separate_9 (lv_at hl 0 rfl) ?_
  refine lv_sipush (v := 382) hx hb dX3_separate_11 (by decide) ?_
  refine lv_imul hx hb dX3_separate_14 ?_
  refine lv_sipush (v := 1000) hx hb dX3_separate_15 (by decide) ?_
  refine lv_idiv hx hb dX3_separate_18 (by decide) ?_
  obtain ⟨v2, ev2, hf⟩ := nm_elim hf
  try dsimp only at hf
  refine tp_I ev2 ?_
  refine lv_istore (lv' := [(5, .int v2), (4, .int v1), (0, .ref (ad 42)), (1, .ref (ad 41)), (2, .int p1), (3, .int p2)]) hx hb dX3_separate_19 hl (by decide) rfl (fun ls hl => ?_)
  refine lv_aload_n hx hb dX3_separate_21 rfl (lv_at hl 3 rfl) ?_
  refine lv_iload_n hx hb dX3_separate_22 rfl (lv_at hl 5 rfl) ?_
  obtain ⟨u3, g4, hf⟩ := Option.bind_eq_some_iff.mp hf
  try dsimp only at hf
  refine ct_call (va_runS (As := [.ref (ad 41), .int p2]) (rest := []) ⟨hx, hb, hml, hown, hts⟩ (C_X3_sizeToThe l D tys nw hn hnw hj htI htR (res := u3) g4) (cwS 2 hts gX3_separate_X3_sizeToThe rfl rfl rfl (by decide +kernel) ⟨Nat.le_of_ble_eq_true rfl, Nat.le_of_ble_eq_true rfl⟩) (ct_preS hn hP hK hN) rfl rfl hl.1 rfl (lv_room (Nat.le_of_ble_eq_true rfl)) dX3_separate_23 ⟨Nat.zero_le _, Nat.zero_le _⟩) hS (fun H locs hP hS => ?_)
  refine lv_lconst (v := 1) hx hb dX3_separate_26 (by decide) ?_
  refine lv_lsub hx hb dX3_separate_27 ?_
  refine lv_ldc2 (v := 2) hx hb hown (hts (.constantLong RX3 124 (2)) (by decide +kernel)) dX3_separate_28 ?_
  refine lv_ldiv hx hb dX3_separate_31 (by decide) ?_
  obtain ⟨v5, ev5, hf⟩ := nm_elim hf
  try dsimp only at hf
  refine tp_J ev5 ?_
  refine lv_lstore (lv' := [(6, .long v5), (5, .int v2), (4, .int v1), (0, .ref (ad 42)), (1, .ref (ad 41)), (2, .int p1), (3, .int p2)]) hx hb dX3_separate_32 hl (by decide) rfl (fun ls hl => ?_)
  refine lv_iload hx hb dX3_separate_34 (lv_at hl 1 rfl) ?_
  refine lv_istore (lv' := [(8, .int v2), (6, .long v5), (5, .int v2), (4, .int v1), (0, .ref (ad 42)), (1, .ref (ad 41)), (2, .int p1), (3, .int p2)]) hx hb dX3_separate_36 hl (by decide) rfl (fun ls hl => ?_)
  refine lv_iconst (v := 1) hx hb dX3_separate_38 (by decide) ?_
  refine lv_istore (lv' := [(9, .int 1), (8, .int v2), (6, .long v5), (5, .int v2), (4, .int v1), (0, .ref (ad 42)), (1, .ref (ad 41)), (2, .int p1), (3, .int p2)]) hx hb dX3_separate_39 hl (by decide) rfl (fun ls hl => ?_)
  refine lv_iconst (v := 0) hx hb dX3_separate_41 (by decide) ?_
  refine lv_istore (lv' := [(10, .int 0), (9, .int 1), (8, .int v2), (6, .long v5), (5, .int v2), (4, .int v1), (0, .ref (ad 42)), (1, .ref (ad 41)), (2, .int p1), (3, .int p2)]) hx hb dX3_separate_42 hl (by decide) rfl (fun ls hl => ?_)
  refine L44 p1 p2 v1 v2 v5 _ (fun y59 y60 y61 M62 N63 H locs ls hP hS hl hf => ?_) fu v2 1 0 M N _ _ _ hP hS (lv_sub hl [6, 7, 8, 9, 5, 4, 3, 2, 1, 0] rfl) hf
  try dsimp only at hf
  obtain rfl := Option.some.inj hf
  exact W.vret hx hb hr (fun t ht hW => ⟨rfl, by rw [ht]; exact hP, hS.F ht⟩) hS.2.2 dX3_separate_253
def f_X3_sort_l28 (k28 : Int32 → (Nat → Fin 20) → Option ((Nat → Fin 20))) (fu : Nat) (M : Fin 20 → Nat → Int32) (N : Nat → Int32) (x1 : Int32) (x2 : Fin 20) : Nat → Int32 → (Nat → Fin 20) → Option ((Nat → Fin 20))
  | 0, _, _ => none
  | n + 1, x3, P =>
    if x3 ≤ 0 then
      k28 x3 P
    else
      if (x3 - 1) < 0 ∨ 5 ≤ (x3 - 1).toNatClampNeg then none else
      (f_X2_isBefore fu M x2 (P (x3 - 1).toNatClampNeg)).bind (fun u6 =>
      if u6 = 0 then
        k28 x3 P
      else
        if (x3 - 1) < 0 ∨ 5 ≤ (x3 - 1).toNatClampNeg then none else
        if x3 < 0 ∨ 5 ≤ (x3).toNatClampNeg then none else
        f_X3_sort_l28 k28 fu M N x1 x2 n (x3 + (-1)) (va_up P (x3).toNatClampNeg (P (x3 - 1).toNatClampNeg)))
def f_X3_sort_l2 (k2 : Int32 → (Nat → Fin 20) → Option ((Nat → Fin 20))) (fu : Nat) (M : Fin 20 → Nat → Int32) (N : Nat → Int32) : Nat → Int32 → (Nat → Fin 20) → Option ((Nat → Fin 20))
  | 0, _, _ => none
  | n + 1, x1, P =>
    if (N 0) ≤ x1 then
      k2 x1 P
    else
      if 5 ≤ x1 then
        k2 x1 P
      else
        if x1 < 0 ∨ 5 ≤ (x1).toNatClampNeg then none else
        f_X3_sort_l28 (fun y11 P12 =>
          if y11 < 0 ∨ 5 ≤ (y11).toNatClampNeg then none else
          f_X3_sort_l2 k2 fu M N n (x1 + 1) (va_up P12 (y11).toNatClampNeg (P (x1).toNatClampNeg))) fu M N x1 (P (x1).toNatClampNeg) fu x1 P
def f_X3_sort (fu : Nat) (M : Fin 20 → Nat → Int32) (P : Nat → Fin 20) (N : Nat → Int32) : Option ((Nat → Fin 20)) :=
  f_X3_sort_l2 (fun y14 P15 =>
    some P15) fu M N fu 1 P
set_option maxHeartbeats 4000000 in
set_option maxRecDepth 100000 in
theorem C_X3_sort (l : Launch) (D : va_G) (tys : List (ClassId × FieldType)) (nw : List Cond) (hn : nw.all nw_kind = true) (hnw : ∀ w ∈ nw0, w ∈ nw) {ad : Nat → Nat} (hj : ww_inj 46 ad) {cI : ClassId} {cR : ClassId} (htI : tys[0]? = some (cI, .int)) (htR : tys[1]? = some (cR, .object RX2)) {fu : Nat} {M : Fin 20 → Nat → Int32} {E : Nat → Int32} {P : Nat → Fin 20} {C : Nat → Int32} {N : Nat → Int32} {res : (Nat → Fin 20)} (hf : f_X3_sort fu M P N = some res) :
    Met l yX3_sort wsX3_sort ({ frames := 2, cells := 0, slots := 0, locals := 45 }) (va_Pc [.ref (ad 42)] (ws_B D tys nw (ww 46 ad (cellC cI cR ad M E P C N)))) (ct_Q D (ww 46 ad (cellC cI cR ad M E res C N)) (ww_A 46 ad) (none)) 0 0 (ww_A 46 ad) := by
  refine Met.ofW (cc := cX3_sort) (maxL := 4) (ret := none) (by decide) rfl ?_
  intro p e s m args below meth c s₁ B hml hv
  obtain ⟨rfl, hP, hK, hN⟩ := hv
  have hx := B.exec
  have hb := B.bytes
  have hr := B.returns
  have hts := atoms_spec (ws := wsX3_sort) B.pre
  have hown : s.vm.findClass RX3 = some m.cls := findClass_of_methodNamed B.named
  have hlocks := B.notSynchronized
  have hS : va_S (ww_A 46 ad) s.heap s.heap [] := va_S.rf
  have hl := lv_entry ([.ref (ad 42)]) (n := 4) (Nat.le_of_ble_eq_true rfl)
  rw [lg_entry_eq]
  generalize (lg_sl ([.ref (ad 42)]) ++ List.replicate (4 - (lg_sl ([.ref (ad 42)])).length) Slot.unset).toArray = ls at hl ⊢
  have hl : lv_has ls 4 [(0, .ref (ad 42))] := hl
  have L28 : ∀ (x1 : Int32) (x2 : Fin 20) (k28 : Int32 → (Nat → Fin 20) → Option ((Nat → Fin 20))), (∀ (x3 : Int32) (P : Nat → Fin 20) (H : Heap) (locs : List Loc) (ls : Array Slot), va_P D vwCl (ww 46 ad (cellC cI cR ad M E P C N)) H → va_S (ww_A 46 ad) s.heap H locs → lv_has ls 4 [(0, .ref (ad 42)), (1, .int x1), (2, .ref (ra ad x2)), (3, .int x3)] →  k28 x3 P = some res → W p l e (headSpec wsX3_sort { frames := 2, cells := 0, slots := 0, locals := 45 }).room s m [.ref (ad 42)].toArray below meth c H locs 0 0 (MQ below (ct_Q D (ww 46 ad (cellC cI cR ad M E res C N)) (ww_A 46 ad) (none)) [.ref (ad 42)].toArray s 0 0 (ww_A 46 ad)) (F0 m 67 ls [])) → ∀ (n : Nat) (x3 : Int32) (P : Nat → Fin 20) (H : Heap) (locs : List Loc) (ls : Array Slot), va_P D vwCl (ww 46 ad (cellC cI cR ad M E P C N)) H → va_S (ww_A 46 ad) s.heap H locs → lv_has ls 4 [(0, .ref (ad 42)), (1, .int x1), (2, .ref (ra ad x2)), (3, .int x3)] →  f_X3_sort_l28 k28 fu M N x1 x2 n x3 P = some res → W p l e (headSpec wsX3_sort { frames := 2, cells := 0, slots := 0, locals := 45 }).room s m [.ref (ad 42)].toArray below meth c H locs 0 0 (MQ below (ct_Q D (ww 46 ad (cellC cI cR ad M E res C N)) (ww_A 46 ad) (none)) [.ref (ad 42)].toArray s 0 0 (ww_A 46 ad)) (F0 m 28 ls []) := by
    intro x1 x2 k28 hk_28 n
    induction n with
    | zero => intro x3 P H locs ls hP hS hl hf; rw [f_X3_sort_l28] at hf; cases hf
    | succ n ih =>
      intro x3 P H locs ls hP hS hl hf
      rw [f_X3_sort_l28] at hf
      refine lv_iload_n hx hb dX3_sort_28 rfl (lv_at hl 3 rfl) ?_
      refine lv_if_le (tgt := 67) hx hb dX3_sort_29 (by decide) (fun c4 => ?_) (fun c4 => ?_)
      · rw [if_pos c4] at hf
        exact hk_28 x3 P _ _ _ hP hS (lv_sub hl [0, 1, 2, 3] rfl) hf
      · rw [if_neg c4] at hf
        refine lv_aload_n hx hb dX3_sort_32 rfl (lv_at hl 2 rfl) ?_
        refine lv_aload_n hx hb dX3_sort_33 rfl (lv_at hl 0 rfl) ?_
        refine va_get (ci := 3) (v := .ref (ad 43)) (C := RX3) (T := TX3) (N := 8) hx hb hts (by decide +kernel) hown hK hP 42 cc_spl rfl 0 (by decide) (hts (.fieldLink RX3 11 "NumberFieldFactors$Splitter" "parts" "[LNumberFieldFactors$Row;") (by decide +kernel)) (fun _ h9 => h9) rfl dX3_sort_34 ?_
        refine lv_iload_n hx hb dX3_sort_37 rfl (lv_at hl 3 rfl) ?_
        refine lv_iconst (v := 1) hx hb dX3_sort_38 (by decide) ?_
        refine lv_isub hx hb dX3_sort_39 ?_
        by_cases b5 : (x3 - 1) < 0 ∨ 5 ≤ (x3 - 1).toNatClampNeg
        · rw [if_pos b5] at hf; cases hf
        rw [if_neg b5] at hf
        refine va_aldq hx hb hK hP 43 1 cc_parts htR b5 dX3_sort_40 ?_
        obtain ⟨u6, g7, hf⟩ := Option.bind_eq_some_iff.mp hf
        try dsimp only at hf
        refine ct_call (va_runV (As := [.ref (ra ad (P (x3 - 1).toNatClampNeg))]) (rest := []) ⟨hx, hb, hml, hown, hts⟩ (C_X2_isBefore l D tys nw hn hnw hj htI htR (res := u6) g7) (cwV 1 hts gX3_sort_X2_isBefore rfl rfl rfl (by decide +kernel) ⟨Nat.le_of_ble_eq_true rfl, Nat.le_of_ble_eq_true rfl⟩) (ct_preV hn hP hK hN (ci := 2) (k := (20 + (x2).val)) rfl (ra_lt x2) (cl_row x2)) rfl rfl hl.1 rfl (lv_room (Nat.le_of_ble_eq_true rfl)) dX3_sort_41 ⟨Nat.zero_le _, Nat.zero_le _⟩) hS (fun H locs hP hS => ?_)
        refine lv_if_eq (tgt := 67) hx hb dX3_sort_44 (by decide) (fun c8 => ?_) (fun c8 => ?_)
        · rw [if_pos c8] at hf
          exact hk_28 x3 P _ _ _ hP hS (lv_sub hl [0, 1, 2, 3] rfl) hf
        · rw [if_neg c8] at hf
          refine lv_aload_n hx hb dX3_sort_47 rfl (lv_at hl 0 rfl) ?_
          refine va_get (ci := 3) (v := .ref (ad 43)) (C := RX3) (T := TX3) (N := 8) hx hb hts (by decide +kernel) hown hK hP 42 cc_spl rfl 0 (by decide) (hts (.fieldLink RX3 11 "NumberFieldFactors$Splitter" "parts" "[LNumberFieldFactors$Row;") (by decide +kernel)) (fun _ h9 => h9) rfl dX3_sort_48 ?_
          refine lv_iload_n hx hb dX3_sort_51 rfl (lv_at hl 3 rfl) ?_
          refine lv_aload_n hx hb dX3_sort_52 rfl (lv_at hl 0 rfl) ?_
          refine va_get (ci := 3) (v := .ref (ad 43)) (C := RX3) (T := TX3) (N := 8) hx hb hts (by decide +kernel) hown hK hP 42 cc_spl rfl 0 (by decide) (hts (.fieldLink RX3 11 "NumberFieldFactors$Splitter" "parts" "[LNumberFieldFactors$Row;") (by decide +kernel)) (fun _ h9 => h9) rfl dX3_sort_53 ?_
          refine lv_iload_n hx hb dX3_sort_56 rfl (lv_at hl 3 rfl) ?_
          refine lv_iconst (v := 1) hx hb dX3_sort_57 (by decide) ?_
          refine lv_isub hx hb dX3_sort_58 ?_
          by_cases b9 : (x3 - 1) < 0 ∨ 5 ≤ (x3 - 1).toNatClampNeg
          · rw [if_pos b9] at hf; cases hf
          rw [if_neg b9] at hf
          refine va_aldq hx hb hK hP 43 1 cc_parts htR b9 dX3_sort_59 ?_
          by_cases b10 : x3 < 0 ∨ 5 ≤ (x3).toNatClampNeg
          · rw [if_pos b10] at hf; cases hf
          rw [if_neg b10] at hf
          refine va_astq hx hb hK hP (ww_D hj) hS 43 1 (20 + ((P (x3 - 1).toNatClampNeg)).val) 2 cc_parts htR (cc_row (P (x3 - 1).toNatClampNeg)) rfl b10 dX3_sort_60 (fun H locs hP hD hS => ?_)
          have hP := cs_P hP
          refine lv_iinc (v := x3 + (-1)) (lv' := [(3, .int (x3 + (-1))), (0, .ref (ad 42)), (1, .int x1), (2, .ref (ra ad x2))]) hx hb dX3_sort_61 hl (k := 3) rfl rfl (by decide) rfl (fun ls hl => ?_)
          refine lv_goto (tgt := 28) hx hb dX3_sort_64 (by decide) ?_
          exact ih (x3 + (-1)) (va_up P (x3).toNatClampNeg (P (x3 - 1).toNatClampNeg)) _ _ _ hP hS (lv_sub hl [1, 2, 3, 0] rfl) hf
  have L2 : ∀  (k2 : Int32 → (Nat → Fin 20) → Option ((Nat → Fin 20))), (∀ (x1 : Int32) (P : Nat → Fin 20) (H : Heap) (locs : List Loc) (ls : Array Slot), va_P D vwCl (ww 46 ad (cellC cI cR ad M E P C N)) H → va_S (ww_A 46 ad) s.heap H locs → lv_has ls 4 [(0, .ref (ad 42)), (1, .int x1)] →  k2 x1 P = some res → W p l e (headSpec wsX3_sort { frames := 2, cells := 0, slots := 0, locals := 45 }).room s m [.ref (ad 42)].toArray below meth c H locs 0 0 (MQ below (ct_Q D (ww 46 ad (cellC cI cR ad M E res C N)) (ww_A 46 ad) (none)) [.ref (ad 42)].toArray s 0 0 (ww_A 46 ad)) (F0 m 80 ls [])) → ∀ (n : Nat) (x1 : Int32) (P : Nat → Fin 20) (H : Heap) (locs : List Loc) (ls : Array Slot), va_P D vwCl (ww 46 ad (cellC cI cR ad M E P C N)) H → va_S (ww_A 46 ad) s.heap H locs → lv_has ls 4 [(0, .ref (ad 42)), (1, .int x1)] →  f_X3_sort_l2 k2 fu M N n x1 P = some res → W p l e (headSpec wsX3_sort { frames := 2, cells := 0, slots := 0, locals := 45 }).room s m [.ref (ad 42)].toArray below meth c H locs 0 0 (MQ below (ct_Q D (ww 46 ad (cellC cI cR ad M E res C N)) (ww_A 46 ad) (none)) [.ref (ad 42)].toArray s 0 0 (ww_A 46 ad)) (F0 m 2 ls []) := by
    intro  k2 hk_2 n
    induction n with
    | zero => intro x1 P H locs ls hP hS hl hf; rw [f_X3_sort_l2] at hf; cases hf
    | succ n ih =>
      intro x1 P H locs ls hP hS hl hf
      rw [f_X3_sort_l2] at hf
      refine lv_iload_n hx hb dX3_sort_2 rfl (lv_at hl 1 rfl) ?_
      refine lv_aload_n hx hb dX3_sort_3 rfl (lv_at hl 0 rfl) ?_
      refine va_get (ci := 3) (v := .int (N 0)) (C := RX3) (T := TX3) (N := 8) hx hb hts (by decide +kernel) hown hK hP 42 cc_spl rfl 2 (by decide) (hts (.fieldLink RX3 21 "NumberFieldFactors$Splitter" "count" "I") (by decide +kernel)) (fun _ h9 => h9) rfl dX3_sort_4 ?_
      refine lv_icmp_ge (tgt := 80) hx hb dX3_sort_7 (by decide) (fun c1 => ?_) (fun c1 => ?_)
      · rw [if_pos c1] at hf
        exact hk_2 x1 P _ _ _ hP hS (lv_sub hl [0, 1] rfl) hf
      · rw [if_neg c1] at hf
        refine lv_iload_n hx hb dX3_sort_10 rfl (lv_at hl 1 rfl) ?_
        refine lv_aload_n hx hb dX3_sort_11 rfl (lv_at hl 0 rfl) ?_
        refine va_get (ci := 3) (v := .ref (ad 43)) (C := RX3) (T := TX3) (N := 8) hx hb hts (by decide +kernel) hown hK hP 42 cc_spl rfl 0 (by decide) (hts (.fieldLink RX3 11 "NumberFieldFactors$Splitter" "parts" "[LNumberFieldFactors$Row;") (by decide +kernel)) (fun _ h9 => h9) rfl dX3_sort_12 ?_
        refine va_alen (v := 5) hx hb hK hP 43 1 cc_parts htR rfl dX3_sort_15 ?_
        refine lv_icmp_ge (tgt := 80) hx hb dX3_sort_16 (by decide) (fun c2 => ?_) (fun c2 => ?_)
        · rw [if_pos c2] at hf
          exact hk_2 x1 P _ _ _ hP hS (lv_sub hl [0, 1] rfl) hf
        · rw [if_neg c2] at hf
          refine lv_aload_n hx hb dX3_sort_19 rfl (lv_at hl 0 rfl) ?_
          refine va_get (ci := 3) (v := .ref (ad 43)) (C := RX3) (T := TX3) (N := 8) hx hb hts (by decide +kernel) hown hK hP 42 cc_spl rfl 0 (by decide) (hts (.fieldLink RX3 11 "NumberFieldFactors$Splitter" "parts" "[LNumberFieldFactors$Row;") (by decide +kernel)) (fun _ h9 => h9) rfl dX3_sort_20 ?_
          refine lv_iload_n hx hb dX3_sort_23 rfl (lv_at hl 1 rfl) ?_
          by_cases b3 : x1 < 0 ∨ 5 ≤ (x1).toNatClampNeg
          · rw [if_pos b3] at hf; cases hf
          rw [if_neg b3] at hf
          refine va_aldq hx hb hK hP 43 1 cc_parts htR b3 dX3_sort_24 ?_
          refine lv_astore_n (lv' := [(2, .ref (ra ad (P (x1).toNatClampNeg))), (0, .ref (ad 42)), (1, .int x1)]) hx hb dX3_sort_25 rfl hl (by decide) rfl (fun ls hl => ?_)
          refine lv_iload_n hx hb dX3_sort_26 rfl (lv_at hl 2 rfl) ?_
          refine lv_istore_n (lv' := [(3, .int x1), (2, .ref (ra ad (P (x1).toNatClampNeg))), (0, .ref (ad 42)), (1, .int x1)]) hx hb dX3_sort_27 rfl hl (by decide) rfl (fun ls hl => ?_)
          refine L28 x1 (P (x1).toNatClampNeg) _ (fun y11 P12 H locs ls hP hS hl hf => ?_) fu x1 P _ _ _ hP hS (lv_sub hl [2, 3, 1, 0] rfl) hf
          try dsimp only at hf
          refine lv_aload_n hx hb dX3_sort_67 rfl (lv_at hl 0 rfl) ?_
          refine va_get (ci := 3) (v := .ref (ad 43)) (C := RX3) (T := TX3) (N := 8) hx hb hts (by decide +kernel) hown hK hP 42 cc_spl rfl 0 (by decide) (hts (.fieldLink RX3 11 "NumberFieldFactors$Splitter" "parts" "[LNumberFieldFactors$Row;") (by decide +kernel)) (fun _ h9 => h9) rfl dX3_sort_68 ?_
          refine lv_iload_n hx hb dX3_sort_71 rfl (lv_at hl 3 rfl) ?_
          refine lv_aload_n hx hb dX3_sort_72 rfl (lv_at hl 2 rfl) ?_
          by_cases b13 : y11 < 0 ∨ 5 ≤ (y11).toNatClampNeg
          · rw [if_pos b13] at hf; cases hf
          rw [if_neg b13] at hf
          refine va_astq hx hb hK hP (ww_D hj) hS 43 1 (20 + ((P (x1).toNatClampNeg)).val) 2 cc_parts htR (cc_row (P (x1).toNatClampNeg)) rfl b13 dX3_sort_73 (fun H locs hP hD hS => ?_)
          have hP := cs_P hP
          refine lv_iinc (v := x1 + 1) (lv' := [(1, .int (x1 + 1)), (0, .ref (ad 42)), (2, .ref (ra ad (P (x1).toNatClampNeg))), (3, .int y11)]) hx hb dX3_sort_74 hl (k := 1) rfl rfl (by decide) rfl (fun ls hl => ?_)
          refine lv_goto (tgt := 2) hx hb dX3_sort_77 (by decide) ?_
          exact ih (x1 + 1) (va_up P12 (y11).toNatClampNeg (P (x1).toNatClampNeg)) _ _ _ hP hS (lv_sub hl [1, 0] rfl) hf
  unfold f_X3_sort at hf
  refine lv_iconst (v := 1) hx hb dX3_sort_0 (by decide) ?_
  refine lv_istore_n (lv' := [(1, .int 1), (0, .ref (ad 42))]) hx hb dX3_sort_1 rfl hl (by decide) rfl (fun ls hl => ?_)
  refine L2  _ (fun y14 P15 H locs ls hP hS hl hf => ?_) fu 1 P _ _ _ hP hS (lv_sub hl [1, 0] rfl) hf
  try dsimp only at hf
  obtain rfl := Option.some.inj hf
  exact W.vret hx hb hr (fun t ht hW => ⟨rfl, by rw [ht]; exact hP, hS.F ht⟩) hS.2.2 dX3_sort_80
def f_X3_countTimes_l37 (k37 : Int32 → (Fin 20 → Nat → Int32) → (Nat → Int32) → Option ((Fin 20 → Nat → Int32) × (Nat → Int32))) (fu : Nat) (E : Nat → Int32) (P : Nat → Fin 20) (N : Nat → Int32) (x2 : Fin 20) (x3 : Int32) : Nat → Int32 → (Fin 20 → Nat → Int32) → (Nat → Int32) → Option ((Fin 20 → Nat → Int32) × (Nat → Int32))
  | 0, _, _, _ => none
  | n + 1, x4, M, C =>
    if 5 < x4 then
      k37 x4 M C
    else
      (f_X3_part P x3).bind (fun u7 =>
      (f_X1_divide fu M E (12 : Fin 20) u7).bind (fun u9 =>
      (f_X2_degree fu u9 (12 : Fin 20)).bind (fun u11 =>
      if u11 < 0 then
        if x3 < 0 ∨ 5 ≤ (x3).toNatClampNeg then none else
        if x3 < 0 ∨ 5 ≤ (x3).toNatClampNeg then none else
        (f_X2_copy fu u9 (12 : Fin 20) (2 : Fin 20)).bind (fun u16 =>
        f_X3_countTimes_l37 k37 fu E P N x2 x3 n (x4 + 1) u16 (upd C (x3).toNatClampNeg ((C (x3).toNatClampNeg) + 1)))
      else
        k37 x4 u9 C)))
def f_X3_countTimes_l2 (k2 : Int32 → (Fin 20 → Nat → Int32) → (Nat → Int32) → Option ((Fin 20 → Nat → Int32) × (Nat → Int32))) (fu : Nat) (E : Nat → Int32) (P : Nat → Fin 20) (N : Nat → Int32) (x2 : Fin 20) : Nat → Int32 → (Fin 20 → Nat → Int32) → (Nat → Int32) → Option ((Fin 20 → Nat → Int32) × (Nat → Int32))
  | 0, _, _, _ => none
  | n + 1, x3, M, C =>
    if (N 0) ≤ x3 then
      k2 x3 M C
    else
      if 5 ≤ x3 then
        k2 x3 M C
      else
        if x3 < 0 ∨ 5 ≤ (x3).toNatClampNeg then none else
        (f_X2_copy fu M (12 : Fin 20) x2).bind (fun u4 =>
        f_X3_countTimes_l37 (fun y18 M19 C20 =>
          f_X3_countTimes_l2 k2 fu E P N x2 n (x3 + 1) M19 C20) fu E P N x2 x3 fu 0 u4 (upd C (x3).toNatClampNeg 0))
def f_X3_countTimes (fu : Nat) (M : Fin 20 → Nat → Int32) (E : Nat → Int32) (P : Nat → Fin 20) (C : Nat → Int32) (N : Nat → Int32) (p1 : Fin 20) : Option ((Fin 20 → Nat → Int32) × (Nat → Int32)) :=
  f_X3_countTimes_l2 (fun y21 M22 C23 =>
    some (M22, C23)) fu E P N p1 fu 0 M C
set_option maxHeartbeats 4000000 in
set_option maxRecDepth 100000 in
theorem C_X3_countTimes (l : Launch) (D : va_G) (tys : List (ClassId × FieldType)) (nw : List Cond) (hn : nw.all nw_kind = true) (hnw : ∀ w ∈ nw0, w ∈ nw) {ad : Nat → Nat} (hj : ww_inj 46 ad) {cI : ClassId} {cR : ClassId} (htI : tys[0]? = some (cI, .int)) (htR : tys[1]? = some (cR, .object RX2)) {fu : Nat} {M : Fin 20 → Nat → Int32} {E : Nat → Int32} {P : Nat → Fin 20} {C : Nat → Int32} {N : Nat → Int32} {p1 : Fin 20} {res : (Fin 20 → Nat → Int32) × (Nat → Int32)} (hf : f_X3_countTimes fu M E P C N p1 = some res) :
    Met l yX3_countTimes wsX3_countTimes ({ frames := 2, cells := 0, slots := 0, locals := 61 }) (va_Pc [.ref (ad 42), .ref (ad 41), .ref (ra ad p1)] (ws_B D tys nw (ww 46 ad (cellC cI cR ad M E P C N)))) (ct_Q D (ww 46 ad (cellC cI cR ad res.1 E P res.2 N)) (ww_A 46 ad) (none)) 0 0 (ww_A 46 ad) := by
  refine Met.ofW (cc := cX3_countTimes) (maxL := 5) (ret := none) (by decide) rfl ?_
  intro p e s m args below meth c s₁ B hml hv
  obtain ⟨rfl, hP, hK, hN⟩ := hv
  have hx := B.exec
  have hb := B.bytes
  have hr := B.returns
  have hts := atoms_spec (ws := wsX3_countTimes) B.pre
  have hown : s.vm.findClass RX3 = some m.cls := findClass_of_methodNamed B.named
  have hlocks := B.notSynchronized
  have hS : va_S (ww_A 46 ad) s.heap s.heap [] := va_S.rf
  have hl := lv_entry ([.ref (ad 42), .ref (ad 41), .ref (ra ad p1)]) (n := 5) (Nat.le_of_ble_eq_true rfl)
  rw [lg_entry_eq]
  generalize (lg_sl ([.ref (ad 42), .ref (ad 41), .ref (ra ad p1)]) ++ List.replicate (5 - (lg_sl ([.ref (ad 42), .ref (ad 41), .ref (ra ad p1)])).length) Slot.unset).toArray = ls at hl ⊢
  have hl : lv_has ls 5 [(0, .ref (ad 42)), (1, .ref (ad 41)), (2, .ref (ra ad p1))] := hl
  have L37 : ∀ (x2 : Fin 20) (x3 : Int32) (k37 : Int32 → (Fin 20 → Nat → Int32) → (Nat → Int32) → Option ((Fin 20 → Nat → Int32) × (Nat → Int32))), (∀ (x4 : Int32) (M : Fin 20 → Nat → Int32) (C : Nat → Int32) (H : Heap) (locs : List Loc) (ls : Array Slot), va_P D vwCl (ww 46 ad (cellC cI cR ad M E P C N)) H → va_S (ww_A 46 ad) s.heap H locs → lv_has ls 5 [(0, .ref (ad 42)), (1, .ref (ad 41)), (2, .ref (ra ad x2)), (3, .int x3), (4, .int x4)] →  k37 x4 M C = some res → W p l e (headSpec wsX3_countTimes { frames := 2, cells := 0, slots := 0, locals := 61 }).room s m [.ref (ad 42), .ref (ad 41), .ref (ra ad p1)].toArray below meth c H locs 0 0 (MQ below (ct_Q D (ww 46 ad (cellC cI cR ad res.1 E P res.2 N)) (ww_A 46 ad) (none)) [.ref (ad 42), .ref (ad 41), .ref (ra ad p1)].toArray s 0 0 (ww_A 46 ad)) (F0 m 96 ls [])) → ∀ (n : Nat) (x4 : Int32) (M : Fin 20 → Nat → Int32) (C : Nat → Int32) (H : Heap) (locs : List Loc) (ls : Array Slot), va_P D vwCl (ww 46 ad (cellC cI cR ad M E P C N)) H → va_S (ww_A 46 ad) s.heap H locs → lv_has ls 5 [(0, .ref (ad 42)), (1, .ref (ad 41)), (2, .ref (ra ad x2)), (3, .int x3), (4, .int x4)] →  f_X3_countTimes_l37 k37 fu E P N x2 x3 n x4 M C = some res → W p l e (headSpec wsX3_countTimes { frames := 2, cells := 0, slots := 0, locals := 61 }).room s m [.ref (ad 42), .ref (ad 41), .ref (ra ad p1)].toArray below meth c H locs 0 0 (MQ below (ct_Q D (ww 46 ad (cellC cI cR ad res.1 E P res.2 N)) (ww_A 46 ad) (none)) [.ref (ad 42), .ref (ad 41), .ref (ra ad p1)].toArray s 0 0 (ww_A 46 ad)) (F0 m 37 ls []) := by
    intro x2 x3 k37 hk_37 n
    induction n with
    | zero => intro x4 M C H locs ls hP hS hl hf; rw [f_X3_countTimes_l37] at hf; cases hf
    | succ n ih =>
      intro x4 M C H locs ls hP hS hl hf
      rw [f_X3_countTimes_l37] at hf
      refine lv_iload hx hb dX3_countTimes_37 (lv_at hl 4 rfl) ?_
      refine lv_iconst (v := 5) hx hb dX3_countTimes_39 (by decide) ?_
      refine lv_icmp_gt (tgt := 96) hx hb dX3_countTimes_40 (by decide) (fun c6 => ?_) (fun c6 => ?_)
      · rw [if_pos c6] at hf
        exact hk_37 x4 M C _ _ _ hP hS (lv_sub hl [0, 1, 2, 3, 4] rfl) hf
      · rw [if_neg c6] at hf
        refine lv_aload_n hx hb dX3_countTimes_43 rfl (lv_at hl 1 rfl) ?_
        refine lv_aload_n hx hb dX3_countTimes_44 rfl (lv_at hl 0 rfl) ?_
        refine va_get (ci := 3) (v := .ref (ra ad (12 : Fin 20))) (C := RX3) (T := TX3) (N := 8) hx hb hts (by decide +kernel) hown hK hP 42 cc_spl rfl 5 (by decide) (hts (.fieldLink RX3 34 "NumberFieldFactors$Splitter" "rest" "LNumberFieldFactors$Row;") (by decide +kernel)) (fun _ h9 => h9) rfl dX3_countTimes_45 ?_
        refine lv_aload_n hx hb dX3_countTimes_48 rfl (lv_at hl 0 rfl) ?_
        refine lv_iload_n hx hb dX3_countTimes_49 rfl (lv_at hl 3 rfl) ?_
        obtain ⟨u7, g8, hf⟩ := Option.bind_eq_some_iff.mp hf
        try dsimp only at hf
        refine ct_call (va_runV (As := [.int x3]) (rest := [.ref (ra ad (12 : Fin 20)), .ref (ad 41)]) ⟨hx, hb, hml, hown, hts⟩ (C_X3_part l D tys nw hn hnw hj htI htR (res := u7) g8) (cwV 1 hts gX3_countTimes_X3_part rfl rfl rfl (by decide +kernel) ⟨Nat.le_of_ble_eq_true rfl, Nat.le_of_ble_eq_true rfl⟩) (ct_preV hn hP hK hN (ci := 3) (k := 42) rfl (by decide) rfl) rfl rfl hl.1 rfl (lv_room (Nat.le_of_ble_eq_true rfl)) dX3_countTimes_50 ⟨Nat.zero_le _, Nat.zero_le _⟩) hS (fun H locs hP hS => ?_)
        obtain ⟨u9, g10, hf⟩ := Option.bind_eq_some_iff.mp hf
        try dsimp only at hf
        refine ct_call (va_runV (As := [.ref (ra ad (12 : Fin 20)), .ref (ra ad u7)]) (rest := []) ⟨hx, hb, hml, hown, hts⟩ (C_X1_divide l D tys nw hn hnw hj htI htR (res := u9) g10) (cwV 2 hts gX3_countTimes_X1_divide rfl rfl rfl (by decide +kernel) ⟨Nat.le_of_ble_eq_true rfl, Nat.le_of_ble_eq_true rfl⟩) (ct_preV hn hP hK hN (ci := 1) (k := 41) rfl (by decide) rfl) rfl rfl hl.1 rfl (lv_room (Nat.le_of_ble_eq_true rfl)) dX3_countTimes_53 ⟨Nat.zero_le _, Nat.zero_le _⟩) hS (fun H locs hP hS => ?_)
        refine lv_aload_n hx hb dX3_countTimes_56 rfl (lv_at hl 0 rfl) ?_
        refine va_get (ci := 3) (v := .ref (ra ad (12 : Fin 20))) (C := RX3) (T := TX3) (N := 8) hx hb hts (by decide +kernel) hown hK hP 42 cc_spl rfl 5 (by decide) (hts (.fieldLink RX3 34 "NumberFieldFactors$Splitter" "rest" "LNumberFieldFactors$Row;") (by decide +kernel)) (fun _ h9 => h9) rfl dX3_countTimes_57 ?_
        obtain ⟨u11, g12, hf⟩ := Option.bind_eq_some_iff.mp hf
        try dsimp only at hf
        refine ct_call (va_runV (As := []) (rest := []) ⟨hx, hb, hml, hown, hts⟩ (C_X2_degree l D tys nw hn hnw hj htI htR (res := u11) g12) (cwV 0 hts gX3_countTimes_X2_degree rfl rfl rfl (by decide +kernel) ⟨Nat.le_of_ble_eq_true rfl, Nat.le_of_ble_eq_true rfl⟩) (ct_preV hn hP hK hN (ci := 2) (k := (20 + ((12 : Fin 20)).val)) rfl (ra_lt (12 : Fin 20)) (cl_row (12 : Fin 20))) rfl rfl hl.1 rfl (lv_room (Nat.le_of_ble_eq_true rfl)) dX3_countTimes_60 ⟨Nat.zero_le _, Nat.zero_le _⟩) hS (fun H locs hP hS => ?_)
        refine lv_if_lt (tgt := 69) hx hb dX3_countTimes_63 (by decide) (fun c13 => ?_) (fun c13 => ?_)
        · rw [if_pos c13] at hf
          refine lv_aload_n hx hb dX3_countTimes_69 rfl (lv_at hl 0 rfl) ?_
          refine va_get (ci := 3) (v := .ref (ad 44)) (C := RX3) (T := TX3) (N := 8) hx hb hts (by decide +kernel) hown hK hP 42 cc_spl rfl 1 (by decide) (hts (.fieldLink RX3 17 "NumberFieldFactors$Splitter" "counts" "[I") (by decide +kernel)) (fun _ h9 => h9) rfl dX3_countTimes_70 ?_
          refine lv_iload_n hx hb dX3_countTimes_73 rfl (lv_at hl 3 rfl) ?_
          refine lv_dup2_11 hx hb dX3_countTimes_74 rfl rfl ?_
          by_cases b14 : x3 < 0 ∨ 5 ≤ (x3).toNatClampNeg
          · rw [if_pos b14] at hf; cases hf
          rw [if_neg b14] at hf
          refine va_iald hx hb hK hP 44 0 cc_counts htI b14 dX3_countTimes_75 ?_
          refine lv_iconst (v := 1) hx hb dX3_countTimes_76 (by decide) ?_
          refine lv_iadd hx hb dX3_countTimes_77 ?_
          by_cases b15 : x3 < 0 ∨ 5 ≤ (x3).toNatClampNeg
          · rw [if_pos b15] at hf; cases hf
          rw [if_neg b15] at hf
          refine va_iast hx hb hK hP (ww_D hj) hS 44 0 cc_counts htI b15 dX3_countTimes_78 (fun H locs hP hD hS => ?_)
          have hP := cs_C hP
          refine lv_aload_n hx hb dX3_countTimes_79 rfl (lv_at hl 0 rfl) ?_
          refine va_get (ci := 3) (v := .ref (ra ad (12 : Fin 20))) (C := RX3) (T := TX3) (N := 8) hx hb hts (by decide +kernel) hown hK hP 42 cc_spl rfl 5 (by decide) (hts (.fieldLink RX3 34 "NumberFieldFactors$Splitter" "rest" "LNumberFieldFactors$Row;") (by decide +kernel)) (fun _ h9 => h9) rfl dX3_countTimes_80 ?_
          refine lv_aload_n hx hb dX3_countTimes_83 rfl (lv_at hl 1 rfl) ?_
          refine va_getN (ci := 1) (v := .ref (ra ad (2 : Fin 20))) (C := RX1) (T := TX1) (N := 11) (host := "NumberFieldFactors") hx hb hts (by decide +kernel) hown hK hP 41 cc_ring rfl 2 (by decide) (va_Nw.use rfl (hN (.fieldLinkNest RX3 85 "NumberFieldFactors$Ring" "quotient" "LNumberFieldFactors$Row;" "NumberFieldFactors") (hnw _ (by decide +kernel)))) (fun _ h9 => h9) rfl dX3_countTimes_84 ?_
          obtain ⟨u16, g17, hf⟩ := Option.bind_eq_some_iff.mp hf
          try dsimp only at hf
          refine ct_call (va_runV (As := [.ref (ra ad (2 : Fin 20))]) (rest := []) ⟨hx, hb, hml, hown, hts⟩ (C_X2_copy l D tys nw hn hnw hj htI htR (res := u16) g17) (cwV 1 hts gX3_countTimes_X2_copy rfl rfl rfl (by decide +kernel) ⟨Nat.le_of_ble_eq_true rfl, Nat.le_of_ble_eq_true rfl⟩) (ct_preV hn hP hK hN (ci := 2) (k := (20 + ((12 : Fin 20)).val)) rfl (ra_lt (12 : Fin 20)) (cl_row (12 : Fin 20))) rfl rfl hl.1 rfl (lv_room (Nat.le_of_ble_eq_true rfl)) dX3_countTimes_87 ⟨Nat.zero_le _, Nat.zero_le _⟩) hS (fun H locs hP hS => ?_)
          refine lv_iinc (v := x4 + 1) (lv' := [(4, .int (x4 + 1)), (0, .ref (ad 42)), (1, .ref (ad 41)), (2, .ref (ra ad x2)), (3, .int x3)]) hx hb dX3_countTimes_90 hl (k := 4) rfl rfl (by decide) rfl (fun ls hl => ?_)
          refine lv_goto (tgt := 37) hx hb dX3_countTimes_93 (by decide) ?_
          exact ih (x4 + 1) u16 (upd C (x3).toNatClampNeg ((C (x3).toNatClampNeg) + 1)) _ _ _ hP hS (lv_sub hl [1, 2, 3, 4, 0] rfl) hf
        · rw [if_neg c13] at hf
          refine lv_goto (tgt := 96) hx hb dX3_countTimes_66 (by decide) ?_
          exact hk_37 x4 u9 C _ _ _ hP hS (lv_sub hl [0, 1, 2, 3, 4] rfl) hf
  have L2 : ∀ (x2 : Fin 20) (k2 : Int32 → (Fin 20 → Nat → Int32) → (Nat → Int32) → Option ((Fin 20 → Nat → Int32) × (Nat → Int32))), (∀ (x3 : Int32) (M : Fin 20 → Nat → Int32) (C : Nat → Int32) (H : Heap) (locs : List Loc) (ls : Array Slot), va_P D vwCl (ww 46 ad (cellC cI cR ad M E P C N)) H → va_S (ww_A 46 ad) s.heap H locs → lv_has ls 5 [(0, .ref (ad 42)), (1, .ref (ad 41)), (2, .ref (ra ad x2)), (3, .int x3)] →  k2 x3 M C = some res → W p l e (headSpec wsX3_countTimes { frames := 2, cells := 0, slots := 0, locals := 61 }).room s m [.ref (ad 42), .ref (ad 41), .ref (ra ad p1)].toArray below meth c H locs 0 0 (MQ below (ct_Q D (ww 46 ad (cellC cI cR ad res.1 E P res.2 N)) (ww_A 46 ad) (none)) [.ref (ad 42), .ref (ad 41), .ref (ra ad p1)].toArray s 0 0 (ww_A 46 ad)) (F0 m 102 ls [])) → ∀ (n : Nat) (x3 : Int32) (M : Fin 20 → Nat → Int32) (C : Nat → Int32) (H : Heap) (locs : List Loc) (ls : Array Slot), va_P D vwCl (ww 46 ad (cellC cI cR ad M E P C N)) H → va_S (ww_A 46 ad) s.heap H locs → lv_has ls 5 [(0, .ref (ad 42)), (1, .ref (ad 41)), (2, .ref (ra ad x2)), (3, .int x3)] →  f_X3_countTimes_l2 k2 fu E P N x2 n x3 M C = some res → W p l e (headSpec wsX3_countTimes { frames := 2, cells := 0, slots := 0, locals := 61 }).room s m [.ref (ad 42), .ref (ad 41), .ref (ra ad p1)].toArray below meth c H locs 0 0 (MQ below (ct_Q D (ww 46 ad (cellC cI cR ad res.1 E P res.2 N)) (ww_A 46 ad) (none)) [.ref (ad 42), .ref (ad 41), .ref (ra ad p1)].toArray s 0 0 (ww_A 46 ad)) (F0 m 2 ls []) := by
    intro x2 k2 hk_2 n
    induction n with
    | zero => intro x3 M C H locs ls hP hS hl hf; rw [f_X3_countTimes_l2] at hf; cases hf
    | succ n ih =>
      intro x3 M C H locs ls hP hS hl hf
      rw [f_X3_countTimes_l2] at hf
      refine lv_iload_n hx hb dX3_countTimes_2 rfl (lv_at hl 3 rfl) ?_
      refine lv_aload_n hx hb dX3_countTimes_3 rfl (lv_at hl 0 rfl) ?_
      refine va_get (ci := 3) (v := .int (N 0)) (C := RX3) (T := TX3) (N := 8) hx hb hts (by decide +kernel) hown hK hP 42 cc_spl rfl 2 (by decide) (hts (.fieldLink RX3 21 "NumberFieldFactors$Splitter" "count" "I") (by decide +kernel)) (fun _ h9 => h9) rfl dX3_countTimes_4 ?_
      refine lv_icmp_ge (tgt := 102) hx hb dX3_countTimes_7 (by decide) (fun c1 => ?_) (fun c1 => ?_)
      · rw [if_pos c1] at hf
        exact hk_2 x3 M C _ _ _ hP hS (lv_sub hl [0, 1, 2, 3] rfl) hf
      · rw [if_neg c1] at hf
        refine lv_iload_n hx hb dX3_countTimes_10 rfl (lv_at hl 3 rfl) ?_
        refine lv_aload_n hx hb dX3_countTimes_11 rfl (lv_at hl 0 rfl) ?_
        refine va_get (ci := 3) (v := .ref (ad 44)) (C := RX3) (T := TX3) (N := 8) hx hb hts (by decide +kernel) hown hK hP 42 cc_spl rfl 1 (by decide) (hts (.fieldLink RX3 17 "NumberFieldFactors$Splitter" "counts" "[I") (by decide +kernel)) (fun _ h9 => h9) rfl dX3_countTimes_12 ?_
        refine va_alen (v := 5) hx hb hK hP 44 0 cc_counts htI rfl dX3_countTimes_15 ?_
        refine lv_icmp_ge (tgt := 102) hx hb dX3_countTimes_16 (by decide) (fun c2 => ?_) (fun c2 => ?_)
        · rw [if_pos c2] at hf
          exact hk_2 x3 M C _ _ _ hP hS (lv_sub hl [0, 1, 2, 3] rfl) hf
        · rw [if_neg c2] at hf
          refine lv_aload_n hx hb dX3_countTimes_19 rfl (lv_at hl 0 rfl) ?_
          refine va_get (ci := 3) (v := .ref (ad 44)) (C := RX3) (T := TX3) (N := 8) hx hb hts (by decide +kernel) hown hK hP 42 cc_spl rfl 1 (by decide) (hts (.fieldLink RX3 17 "NumberFieldFactors$Splitter" "counts" "[I") (by decide +kernel)) (fun _ h9 => h9) rfl dX3_countTimes_20 ?_
          refine lv_iload_n hx hb dX3_countTimes_23 rfl (lv_at hl 3 rfl) ?_
          refine lv_iconst (v := 0) hx hb dX3_countTimes_24 (by decide) ?_
          by_cases b3 : x3 < 0 ∨ 5 ≤ (x3).toNatClampNeg
          · rw [if_pos b3] at hf; cases hf
          rw [if_neg b3] at hf
          refine va_iast hx hb hK hP (ww_D hj) hS 44 0 cc_counts htI b3 dX3_countTimes_25 (fun H locs hP hD hS => ?_)
          have hP := cs_C hP
          refine lv_aload_n hx hb dX3_countTimes_26 rfl (lv_at hl 0 rfl) ?_
          refine va_get (ci := 3) (v := .ref (ra ad (12 : Fin 20))) (C := RX3) (T := TX3) (N := 8) hx hb hts (by decide +kernel) hown hK hP 42 cc_spl rfl 5 (by decide) (hts (.fieldLink RX3 34 "NumberFieldFactors$Splitter" "rest" "LNumberFieldFactors$Row;") (by decide +kernel)) (fun _ h9 => h9) rfl dX3_countTimes_27 ?_
          refine lv_aload_n hx hb dX3_countTimes_30 rfl (lv_at hl 2 rfl) ?_
          obtain ⟨u4, g5, hf⟩ := Option.bind_eq_some_iff.mp hf
          try dsimp only at hf
          refine ct_call (va_runV (As := [.ref (ra ad x2)]) (rest := []) ⟨hx, hb, hml, hown, hts⟩ (C_X2_copy l D tys nw hn hnw hj htI htR (res := u4) g5) (cwV 1 hts gX3_countTimes_X2_copy rfl rfl rfl (by decide +kernel) ⟨Nat.le_of_ble_eq_true rfl, Nat.le_of_ble_eq_true rfl⟩) (ct_preV hn hP hK hN (ci := 2) (k := (20 + ((12 : Fin 20)).val)) rfl (ra_lt (12 : Fin 20)) (cl_row (12 : Fin 20))) rfl rfl hl.1 rfl (lv_room (Nat.le_of_ble_eq_true rfl)) dX3_countTimes_31 ⟨Nat.zero_le _, Nat.zero_le _⟩) hS (fun H locs hP hS => ?_)
          refine lv_iconst (v := 0) hx hb dX3_countTimes_34 (by decide) ?_
          refine lv_istore (lv' := [(4, .int 0), (0, .ref (ad 42)), (1, .ref (ad 41)), (2, .ref (ra ad x2)), (3, .int x3)]) hx hb dX3_countTimes_35 hl (by decide) rfl (fun ls hl => ?_)
          refine L37 x2 x3 _ (fun y18 M19 C20 H locs ls hP hS hl hf => ?_) fu 0 u4 (upd C (x3).toNatClampNeg 0) _ _ _ hP hS (lv_sub hl [1, 2, 3, 4, 0] rfl) hf
          try dsimp only at hf
          refine lv_iinc (v := x3 + 1) (lv' := [(3, .int (x3 + 1)), (0, .ref (ad 42)), (1, .ref (ad 41)), (2, .ref (ra ad x2)), (4, .int y18)]) hx hb dX3_countTimes_96 hl (k := 3) rfl rfl (by decide) rfl (fun ls hl => ?_)
          refine lv_goto (tgt := 2) hx hb dX3_countTimes_99 (by decide) ?_
          exact ih (x3 + 1) M19 C20 _ _ _ hP hS (lv_sub hl [1, 2, 3, 0] rfl) hf
  unfold f_X3_countTimes at hf
  refine lv_iconst (v := 0) hx hb dX3_countTimes_0 (by decide) ?_
  refine lv_istore_n (lv' := [(3, .int 0), (0, .ref (ad 42)), (1, .ref (ad 41)), (2, .ref (ra ad p1))]) hx hb dX3_countTimes_1 rfl hl (by decide) rfl (fun ls hl => ?_)
  refine L2 p1 _ (fun y21 M22 C23 H locs ls hP hS hl hf => ?_) fu 0 M C _ _ _ hP hS (lv_sub hl [1, 2, 3, 0] rfl) hf
  try dsimp only at hf
  obtain rfl := Option.some.inj hf
  exact W.vret hx hb hr (fun t ht hW => ⟨rfl, by rw [ht]; exact hP, hS.F ht⟩) hS.2.2 dX3_countTimes_102
def f_X3_find_l41 (k41 : Int32 → (Fin 20 → Nat → Int32) → (Nat → Int32) → Option ((Fin 20 → Nat → Int32) × (Nat → Fin 20) × (Nat → Int32) × (Nat → Int32))) (fu : Nat) (E : Nat → Int32) (P : Nat → Fin 20) (C : Nat → Int32) (x2 : Fin 20) : Nat → Int32 → (Fin 20 → Nat → Int32) → (Nat → Int32) → Option ((Fin 20 → Nat → Int32) × (Nat → Fin 20) × (Nat → Int32) × (Nat → Int32))
  | 0, _, _, _ => none
  | n + 1, x3, M, N =>
    if 5 < x3 then
      k41 x3 M N
    else
      (f_X2_degree fu M (12 : Fin 20)).bind (fun u9 =>
      if u9 < (2 * x3) then
        k41 x3 M N
      else
        nm (N 0) (fun v12 =>
        (f_X3_collect fu M E P N x3).bind (fun u13 =>
        (f_X3_separate fu u13.1 E P u13.2 v12 x3).bind (fun u15 =>
        f_X3_find_l41 k41 fu E P C x2 n (x3 + 1) u15.1 u15.2))))
def f_X3_find (fu : Nat) (M : Fin 20 → Nat → Int32) (E : Nat → Int32) (P : Nat → Fin 20) (C : Nat → Int32) (N : Nat → Int32) (p1 : Fin 20) : Option ((Fin 20 → Nat → Int32) × (Nat → Fin 20) × (Nat → Int32) × (Nat → Int32)) :=
  if (N 1) = 0 then
    (f_X1_findSquares fu M E p1 (14 : Fin 20)).bind (fun u2 =>
    (f_X3_keepRoot fu u2 E p1).bind (fun u4 =>
    (f_X2_copy fu u4 (12 : Fin 20) (11 : Fin 20)).bind (fun u6 =>
    f_X3_find_l41 (fun y17 M18 N19 =>
      (f_X2_degree fu M18 (12 : Fin 20)).bind (fun u20 =>
      ((
        if u20 ≤ 0 then
          some (M18, N19)
        else
          (f_X3_add fu M18 P N19 (12 : Fin 20)).bind (fun u24 =>
          some (u24.1, u24.2)) : Option ((Fin 20 → Nat → Int32) × (Nat → Int32)))).bind (fun w22 =>
      (f_X3_sort fu w22.1 P w22.2).bind (fun u26 =>
      (f_X3_countTimes fu w22.1 E u26 C w22.2 p1).bind (fun u28 =>
      some (u28.1, u26, u28.2, va_up w22.2 1 1)))))) fu E P C p1 fu 1 u6 (va_up N 0 0))))
  else
    some (M, P, C, N)
set_option maxHeartbeats 4000000 in
set_option maxRecDepth 100000 in
theorem C_X3_find (l : Launch) (D : va_G) (tys : List (ClassId × FieldType)) (nw : List Cond) (hn : nw.all nw_kind = true) (hnw : ∀ w ∈ nw0, w ∈ nw) {ad : Nat → Nat} (hj : ww_inj 46 ad) {cI : ClassId} {cR : ClassId} (htI : tys[0]? = some (cI, .int)) (htR : tys[1]? = some (cR, .object RX2)) {fu : Nat} {M : Fin 20 → Nat → Int32} {E : Nat → Int32} {P : Nat → Fin 20} {C : Nat → Int32} {N : Nat → Int32} {p1 : Fin 20} {res : (Fin 20 → Nat → Int32) × (Nat → Fin 20) × (Nat → Int32) × (Nat → Int32)} (hf : f_X3_find fu M E P C N p1 = some res) :
    Met l yX3_find wsX3_find ({ frames := 5, cells := 0, slots := 0, locals := 143 }) (va_Pc [.ref (ad 42), .ref (ad 41), .ref (ra ad p1)] (ws_B D tys nw (ww 46 ad (cellC cI cR ad M E P C N)))) (ct_Q D (ww 46 ad (cellC cI cR ad res.1 E res.2.1 res.2.2.1 res.2.2.2)) (ww_A 46 ad) (none)) 0 0 (ww_A 46 ad) := by
  refine Met.ofW (cc := cX3_find) (maxL := 5) (ret := none) (by decide) rfl ?_
  intro p e s m args below meth c s₁ B hml hv
  obtain ⟨rfl, hP, hK, hN⟩ := hv
  have hx := B.exec
  have hb := B.bytes
  have hr := B.returns
  have hts := atoms_spec (ws := wsX3_find) B.pre
  have hown : s.vm.findClass RX3 = some m.cls := findClass_of_methodNamed B.named
  have hlocks := B.notSynchronized
  have hS : va_S (ww_A 46 ad) s.heap s.heap [] := va_S.rf
  have hl := lv_entry ([.ref (ad 42), .ref (ad 41), .ref (ra ad p1)]) (n := 5) (Nat.le_of_ble_eq_true rfl)
  rw [lg_entry_eq]
  generalize (lg_sl ([.ref (ad 42), .ref (ad 41), .ref (ra ad p1)]) ++ List.replicate (5 - (lg_sl ([.ref (ad 42), .ref (ad 41), .ref (ra ad p1)])).length) Slot.unset).toArray = ls at hl ⊢
  have hl : lv_has ls 5 [(0, .ref (ad 42)), (1, .ref (ad 41)), (2, .ref (ra ad p1))] := hl
  have L41 : ∀ (P : Nat → Fin 20) (C : Nat → Int32) (x2 : Fin 20) (k41 : Int32 → (Fin 20 → Nat → Int32) → (Nat → Int32) → Option ((Fin 20 → Nat → Int32) × (Nat → Fin 20) × (Nat → Int32) × (Nat → Int32))), (∀ (x3 : Int32) (M : Fin 20 → Nat → Int32) (N : Nat → Int32) (H : Heap) (locs : List Loc) (ls : Array Slot), va_P D vwCl (ww 46 ad (cellC cI cR ad M E P C N)) H → va_S (ww_A 46 ad) s.heap H locs → lv_has ls 5 [(0, .ref (ad 42)), (1, .ref (ad 41)), (2, .ref (ra ad x2)), (3, .int x3)] →  k41 x3 M N = some res → W p l e (headSpec wsX3_find { frames := 5, cells := 0, slots := 0, locals := 143 }).room s m [.ref (ad 42), .ref (ad 41), .ref (ra ad p1)].toArray below meth c H locs 0 0 (MQ below (ct_Q D (ww 46 ad (cellC cI cR ad res.1 E res.2.1 res.2.2.1 res.2.2.2)) (ww_A 46 ad) (none)) [.ref (ad 42), .ref (ad 41), .ref (ra ad p1)].toArray s 0 0 (ww_A 46 ad)) (F0 m 85 ls [])) → ∀ (n : Nat) (x3 : Int32) (M : Fin 20 → Nat → Int32) (N : Nat → Int32) (H : Heap) (locs : List Loc) (ls : Array Slot), va_P D vwCl (ww 46 ad (cellC cI cR ad M E P C N)) H → va_S (ww_A 46 ad) s.heap H locs → lv_has ls 5 [(0, .ref (ad 42)), (1, .ref (ad 41)), (2, .ref (ra ad x2)), (3, .int x3)] →  f_X3_find_l41 k41 fu E P C x2 n x3 M N = some res → W p l e (headSpec wsX3_find { frames := 5, cells := 0, slots := 0, locals := 143 }).room s m [.ref (ad 42), .ref (ad 41), .ref (ra ad p1)].toArray below meth c H locs 0 0 (MQ below (ct_Q D (ww 46 ad (cellC cI cR ad res.1 E res.2.1 res.2.2.1 res.2.2.2)) (ww_A 46 ad) (none)) [.ref (ad 42), .ref (ad 41), .ref (ra ad p1)].toArray s 0 0 (ww_A 46 ad)) (F0 m 41 ls []) := by
    intro P C x2 k41 hk_41 n
    induction n with
    | zero => intro x3 M N H locs ls hP hS hl hf; rw [f_X3_find_l41] at hf; cases hf
    | succ n ih =>
      intro x3 M N H locs ls hP hS hl hf
      rw [f_X3_find_l41] at hf
      refine lv_iload_n hx hb dX3_find_41 rfl (lv_at hl 3 rfl) ?_
      refine lv_iconst (v := 5) hx hb dX3_find_42 (by decide) ?_
      refine lv_icmp_gt (tgt := 85) hx hb dX3_find_43 (by decide) (fun c8 => ?_) (fun c8 => ?_)
      · rw [if_pos c8] at hf
        exact hk_41 x3 M N _ _ _ hP hS (lv_sub hl [0, 1, 2, 3] rfl) hf
      · rw [if_neg c8] at hf
        refine lv_aload_n hx hb dX3_find_46 rfl (lv_at hl 0 rfl) ?_
        refine va_get (ci := 3) (v := .ref (ra ad (12 : Fin 20))) (C := RX3) (T := TX3) (N := 8) hx hb hts (by decide +kernel) hown hK hP 42 cc_spl rfl 5 (by decide) (hts (.fieldLink RX3 34 "NumberFieldFactors$Splitter" "rest" "LNumberFieldFactors$Row;") (by decide +kernel)) (fun _ h9 => h9) rfl dX3_find_47 ?_
        obtain ⟨u9, g10, hf⟩ := Option.bind_eq_some_iff.mp hf
        try dsimp only at hf
        refine ct_call (va_runV (As := []) (rest := []) ⟨hx, hb, hml, hown, hts⟩ (C_X2_degree l D tys nw hn hnw hj htI htR (res := u9) g10) (cwV 0 hts gX3_find_X2_degree rfl rfl rfl (by decide +kernel) ⟨Nat.le_of_ble_eq_true rfl, Nat.le_of_ble_eq_true rfl⟩) (ct_preV hn hP hK hN (ci := 2) (k := (20 + ((12 : Fin 20)).val)) rfl (ra_lt (12 : Fin 20)) (cl_row (12 : Fin 20))) rfl rfl hl.1 rfl (lv_room (Nat.le_of_ble_eq_true rfl)) dX3_find_50 ⟨Nat.zero_le _, Nat.zero_le _⟩) hS (fun H locs hP hS => ?_)
        refine lv_iconst (v := 2) hx hb dX3_find_53 (by decide) ?_
        refine lv_iload_n hx hb dX3_find_54 rfl (lv_at hl 3 rfl) ?_
        refine lv_imul hx hb dX3_find_55 ?_
        refine lv_icmp_lt (tgt := 85) hx hb dX3_find_56 (by decide) (fun c11 => ?_) (fun c11 => ?_)
        · rw [if_pos c11] at hf
          exact hk_41 x3 M N _ _ _ hP hS (lv_sub hl [0, 1, 2, 3] rfl) hf
        · rw [if_neg c11] at hf
          refine lv_aload_n hx hb dX3_find_59 rfl (lv_at hl 0 rfl) ?_
          refine va_get (ci := 3) (v := .int (N 0)) (C := RX3) (T := TX3) (N := 8) hx hb hts (by decide +kernel) hown hK hP 42 cc_spl rfl 2 (by decide) (hts (.fieldLink RX3 21 "NumberFieldFactors$Splitter" "count" "I") (by decide +kernel)) (fun _ h9 => h9) rfl dX3_find_60 ?_
          obtain ⟨v12, ev12, hf⟩ := nm_elim hf
          try dsimp only at hf
          refine tp_I ev12 ?_
          refine lv_istore (lv' := [(4, .int v12), (0, .ref (ad 42)), (1, .ref (ad 41)), (2, .ref (ra ad x2)), (3, .int x3)]) hx hb dX3_find_63 hl (by decide) rfl (fun ls hl => ?_)
          refine lv_aload_n hx hb dX3_find_65 rfl (lv_at hl 1 rfl) ?_
          refine lv_aload_n hx hb dX3_find_66 rfl (lv_at hl 2 rfl) ?_
          refine lv_iload_n hx hb dX3_find_67 rfl (lv_at hl 4 rfl) ?_
          obtain ⟨u13, g14, hf⟩ := Option.bind_eq_some_iff.mp hf
          try dsimp only at hf
          refine ct_call (va_runV (As := [.ref (ad 41), .int x3]) (rest := []) ⟨hx, hb, hml, hown, hts⟩ (C_X3_collect l D tys nw hn hnw hj htI htR (res := u13) g14) (cwV 2 hts gX3_find_X3_collect rfl rfl rfl (by decide +kernel) ⟨Nat.le_of_ble_eq_true rfl, Nat.le_of_ble_eq_true rfl⟩) (ct_preV hn hP hK hN (ci := 3) (k := 42) rfl (by decide) rfl) rfl rfl hl.1 rfl (lv_room (Nat.le_of_ble_eq_true rfl)) dX3_find_68 ⟨Nat.zero_le _, Nat.zero_le _⟩) hS (fun H locs hP hS => ?_)
          refine lv_aload_n hx hb dX3_find_71 rfl (lv_at hl 1 rfl) ?_
          refine lv_aload_n hx hb dX3_find_72 rfl (lv_at hl 2 rfl) ?_
          refine lv_iload hx hb dX3_find_73 (lv_at hl 0 rfl) ?_
          refine lv_iload_n hx hb dX3_find_75 rfl (lv_at hl 4 rfl) ?_
          obtain ⟨u15, g16, hf⟩ := Option.bind_eq_some_iff.mp hf
          try dsimp only at hf
          refine ct_call (va_runV (As := [.ref (ad 41), .int v12, .int x3]) (rest := []) ⟨hx, hb, hml, hown, hts⟩ (C_X3_separate l D tys nw hn hnw hj htI htR (res := u15) g16) (cwV 3 hts gX3_find_X3_separate rfl rfl rfl (by decide +kernel) ⟨Nat.le_of_ble_eq_true rfl, Nat.le_of_ble_eq_true rfl⟩) (ct_preV hn hP hK hN (ci := 3) (k := 42) rfl (by decide) rfl) rfl rfl hl.1 rfl (lv_room (Nat.le_of_ble_eq_true rfl)) dX3_find_76 ⟨Nat.zero_le _, Nat.zero_le _⟩) hS (fun H locs hP hS => ?_)
          refine lv_iinc (v := x3 + 1) (lv' := [(3, .int (x3 + 1)), (4, .int v12), (0, .ref (ad 42)), (1, .ref (ad 41)), (2, .ref (ra ad x2))]) hx hb dX3_find_79 hl (k := 4) rfl rfl (by decide) rfl (fun ls hl => ?_)
          refine lv_goto (tgt := 41) hx hb dX3_find_82 (by decide) ?_
          exact ih (x3 + 1) u15.1 u15.2 _ _ _ hP hS (lv_sub hl [2, 3, 4, 0] rfl) hf
  unfold f_X3_find at hf
  refine lv_aload_n hx hb dX3_find_0 rfl (lv_at hl 0 rfl) ?_
  refine va_get (ci := 3) (v := .int (N 1)) (C := RX3) (T := TX3) (N := 8) hx hb hts (by decide +kernel) hown hK hP 42 cc_spl rfl 3 (by decide) (hts (.fieldLink RX3 25 "NumberFieldFactors$Splitter" "found" "Z") (by decide +kernel)) (fun _ h9 => h9) rfl dX3_find_1 ?_
  refine lv_if_eq (tgt := 8) hx hb dX3_find_4 (by decide) (fun c1 => ?_) (fun c1 => ?_)
  · rw [if_pos c1] at hf
    refine lv_aload_n hx hb dX3_find_8 rfl (lv_at hl 0 rfl) ?_
    refine lv_iconst (v := 0) hx hb dX3_find_9 (by decide) ?_
    refine va_put (ci := 3) (v := .int 0) (ty := .int) (C := RX3) (T := TX3) (N := 8) hx hb hts (by decide +kernel) tyX3 tyX3_ok nmX3 hown hK hP (ww_D hj) hS 42 cc_spl rfl 2 (by decide) (hts (.fieldLink RX3 21 "NumberFieldFactors$Splitter" "count" "I") (by decide +kernel)) (fun _ h9 => h9) rfl (by decide +kernel) rfl rfl (Nat.le_of_ble_eq_true rfl) dX3_find_10 (fun H locs hP hD hS => ?_)
    have hP := cs_N0 hP
    refine lv_aload_n hx hb dX3_find_13 rfl (lv_at hl 1 rfl) ?_
    refine lv_aload_n hx hb dX3_find_14 rfl (lv_at hl 2 rfl) ?_
    refine lv_aload_n hx hb dX3_find_15 rfl (lv_at hl 0 rfl) ?_
    refine va_get (ci := 3) (v := .ref (ra ad (14 : Fin 20))) (C := RX3) (T := TX3) (N := 8) hx hb hts (by decide +kernel) hown hK hP 42 cc_spl rfl 7 (by decide) (hts (.fieldLink RX3 40 "NumberFieldFactors$Splitter" "shared" "LNumberFieldFactors$Row;") (by decide +kernel)) (fun _ h9 => h9) rfl dX3_find_16 ?_
    obtain ⟨u2, g3, hf⟩ := Option.bind_eq_some_iff.mp hf
    try dsimp only at hf
    refine ct_call (va_runV (As := [.ref (ra ad p1), .ref (ra ad (14 : Fin 20))]) (rest := []) ⟨hx, hb, hml, hown, hts⟩ (C_X1_findSquares l D tys nw hn hnw hj htI htR (res := u2) g3) (cwV 2 hts gX3_find_X1_findSquares rfl rfl rfl (by decide +kernel) ⟨Nat.le_of_ble_eq_true rfl, Nat.le_of_ble_eq_true rfl⟩) (ct_preV hn hP hK hN (ci := 1) (k := 41) rfl (by decide) rfl) rfl rfl hl.1 rfl (lv_room (Nat.le_of_ble_eq_true rfl)) dX3_find_19 ⟨Nat.zero_le _, Nat.zero_le _⟩) hS (fun H locs hP hS => ?_)
    refine lv_aload_n hx hb dX3_find_22 rfl (lv_at hl 0 rfl) ?_
    refine lv_aload_n hx hb dX3_find_23 rfl (lv_at hl 1 rfl) ?_
    refine lv_aload_n hx hb dX3_find_24 rfl (lv_at hl 2 rfl) ?_
    obtain ⟨u4, g5, hf⟩ := Option.bind_eq_some_iff.mp hf
    try dsimp only at hf
    refine ct_call (va_runV (As := [.ref (ad 41), .ref (ra ad p1)]) (rest := []) ⟨hx, hb, hml, hown, hts⟩ (C_X3_keepRoot l D tys nw hn hnw hj htI htR (res := u4) g5) (cwV 2 hts gX3_find_X3_keepRoot rfl rfl rfl (by decide +kernel) ⟨Nat.le_of_ble_eq_true rfl, Nat.le_of_ble_eq_true rfl⟩) (ct_preV hn hP hK hN (ci := 3) (k := 42) rfl (by decide) rfl) rfl rfl hl.1 rfl (lv_room (Nat.le_of_ble_eq_true rfl)) dX3_find_25 ⟨Nat.zero_le _, Nat.zero_le _⟩) hS (fun H locs hP hS => ?_)
    refine lv_aload_n hx hb dX3_find_28 rfl (lv_at hl 0 rfl) ?_
    refine va_get (ci := 3) (v := .ref (ra ad (12 : Fin 20))) (C := RX3) (T := TX3) (N := 8) hx hb hts (by decide +kernel) hown hK hP 42 cc_spl rfl 5 (by decide) (hts (.fieldLink RX3 34 "NumberFieldFactors$Splitter" "rest" "LNumberFieldFactors$Row;") (by decide +kernel)) (fun _ h9 => h9) rfl dX3_find_29 ?_
    refine lv_aload_n hx hb dX3_find_32 rfl (lv_at hl 0 rfl) ?_
    refine va_get (ci := 3) (v := .ref (ra ad (11 : Fin 20))) (C := RX3) (T := TX3) (N := 8) hx hb hts (by decide +kernel) hown hK hP 42 cc_spl rfl 4 (by decide) (hts (.fieldLink RX3 30 "NumberFieldFactors$Splitter" "root" "LNumberFieldFactors$Row;") (by decide +kernel)) (fun _ h9 => h9) rfl dX3_find_33 ?_
    obtain ⟨u6, g7, hf⟩ := Option.bind_eq_some_iff.mp hf
    try dsimp only at hf
    refine ct_call (va_runV (As := [.ref (ra ad (11 : Fin 20))]) (rest := []) ⟨hx, hb, hml, hown, hts⟩ (C_X2_copy l D tys nw hn hnw hj htI htR (res := u6) g7) (cwV 1 hts gX3_find_X2_copy rfl rfl rfl (by decide +kernel) ⟨Nat.le_of_ble_eq_true rfl, Nat.le_of_ble_eq_true rfl⟩) (ct_preV hn hP hK hN (ci := 2) (k := (20 + ((12 : Fin 20)).val)) rfl (ra_lt (12 : Fin 20)) (cl_row (12 : Fin 20))) rfl rfl hl.1 rfl (lv_room (Nat.le_of_ble_eq_true rfl)) dX3_find_36 ⟨Nat.zero_le _, Nat.zero_le _⟩) hS (fun H locs hP hS => ?_)
    refine lv_iconst (v := 1) hx hb dX3_find_39 (by decide) ?_
    refine lv_istore_n (lv' := [(3, .int 1), (0, .ref (ad 42)), (1, .ref (ad 41)), (2, .ref (ra ad p1))]) hx hb dX3_find_40 rfl hl (by decide) rfl (fun ls hl => ?_)
    refine L41 P C p1 _ (fun y17 M18 N19 H locs ls hP hS hl hf => ?_) fu 1 u6 (va_up N 0 0) _ _ _ hP hS (lv_sub hl [1, 2, 3, 0] rfl) hf
    try dsimp only at hf
    refine lv_aload_n hx hb dX3_find_85 rfl (lv_at hl 0 rfl) ?_
    refine va_get (ci := 3) (v := .ref (ra ad (12 : Fin 20))) (C := RX3) (T := TX3) (N := 8) hx hb hts (by decide +kernel) hown hK hP 42 cc_spl rfl 5 (by decide) (hts (.fieldLink RX3 34 "NumberFieldFactors$Splitter" "rest" "LNumberFieldFactors$Row;") (by decide +kernel)) (fun _ h9 => h9) rfl dX3_find_86 ?_
    obtain ⟨u20, g21, hf⟩ := Option.bind_eq_some_iff.mp hf
    try dsimp only at hf
    refine ct_call (va_runV (As := []) (rest := []) ⟨hx, hb, hml, hown, hts⟩ (C_X2_degree l D tys nw hn hnw hj htI htR (res := u20) g21) (cwV 0 hts gX3_find_X2_degree rfl rfl rfl (by decide +kernel) ⟨Nat.le_of_ble_eq_true rfl, Nat.le_of_ble_eq_true rfl⟩) (ct_preV hn hP hK hN (ci := 2) (k := (20 + ((12 : Fin 20)).val)) rfl (ra_lt (12 : Fin 20)) (cl_row (12 : Fin 20))) rfl rfl hl.1 rfl (lv_room (Nat.le_of_ble_eq_true rfl)) dX3_find_89 ⟨Nat.zero_le _, Nat.zero_le _⟩) hS (fun H locs hP hS => ?_)
    obtain ⟨w22, gw22, hf⟩ := Option.bind_eq_some_iff.mp hf
    try dsimp only at hf
    have hJ103_w22 : ∀ (H : Heap) (locs : List Loc) (ls : Array Slot), va_P D vwCl (ww 46 ad (cellC cI cR ad w22.1 E P C w22.2)) H → va_S (ww_A 46 ad) s.heap H locs → lv_has ls 5 [(0, .ref (ad 42)), (1, .ref (ad 41)), (2, .ref (ra ad p1)), (3, .int y17)] → W p l e (headSpec wsX3_find { frames := 5, cells := 0, slots := 0, locals := 143 }).room s m [.ref (ad 42), .ref (ad 41), .ref (ra ad p1)].toArray below meth c H locs 0 0 (MQ below (ct_Q D (ww 46 ad (cellC cI cR ad res.1 E res.2.1 res.2.2.1 res.2.2.2)) (ww_A 46 ad) (none)) [.ref (ad 42), .ref (ad 41), .ref (ra ad p1)].toArray s 0 0 (ww_A 46 ad)) (F0 m 103 ls []) := by
      intro H locs ls hP hS hl
      refine lv_aload_n hx hb dX3_find_103 rfl (lv_at hl 0 rfl) ?_
      obtain ⟨u26, g27, hf⟩ := Option.bind_eq_some_iff.mp hf
      try dsimp only at hf
      refine ct_call (va_runV (As := []) (rest := []) ⟨hx, hb, hml, hown, hts⟩ (C_X3_sort l D tys nw hn hnw hj htI htR (res := u26) g27) (cwV 0 hts gX3_find_X3_sort rfl rfl rfl (by decide +kernel) ⟨Nat.le_of_ble_eq_true rfl, Nat.le_of_ble_eq_true rfl⟩) (ct_preV hn hP hK hN (ci := 3) (k := 42) rfl (by decide) rfl) rfl rfl hl.1 rfl (lv_room (Nat.le_of_ble_eq_true rfl)) dX3_find_104 ⟨Nat.zero_le _, Nat.zero_le _⟩) hS (fun H locs hP hS => ?_)
      refine lv_aload_n hx hb dX3_find_107 rfl (lv_at hl 0 rfl) ?_
      refine lv_aload_n hx hb dX3_find_108 rfl (lv_at hl 1 rfl) ?_
      refine lv_aload_n hx hb dX3_find_109 rfl (lv_at hl 2 rfl) ?_
      obtain ⟨u28, g29, hf⟩ := Option.bind_eq_some_iff.mp hf
      try dsimp only at hf
      refine ct_call (va_runV (As := [.ref (ad 41), .ref (ra ad p1)]) (rest := []) ⟨hx, hb, hml, hown, hts⟩ (C_X3_countTimes l D tys nw hn hnw hj htI htR (res := u28) g29) (cwV 2 hts gX3_find_X3_countTimes rfl rfl rfl (by decide +kernel) ⟨Nat.le_of_ble_eq_true rfl, Nat.le_of_ble_eq_true rfl⟩) (ct_preV hn hP hK hN (ci := 3) (k := 42) rfl (by decide) rfl) rfl rfl hl.1 rfl (lv_room (Nat.le_of_ble_eq_true rfl)) dX3_find_110 ⟨Nat.zero_le _, Nat.zero_le _⟩) hS (fun H locs hP hS => ?_)
      refine lv_aload_n hx hb dX3_find_113 rfl (lv_at hl 0 rfl) ?_
      refine lv_iconst (v := 1) hx hb dX3_find_114 (by decide) ?_
      refine va_put (ci := 3) (v := .int 1) (ty := .boolean) (C := RX3) (T := TX3) (N := 8) hx hb hts (by decide +kernel) tyX3 tyX3_ok nmX3 hown hK hP (ww_D hj) hS 42 cc_spl rfl 3 (by decide) (hts (.fieldLink RX3 25 "NumberFieldFactors$Splitter" "found" "Z") (by decide +kernel)) (fun _ h9 => h9) rfl (by decide +kernel) (by decide) rfl (Nat.le_of_ble_eq_true rfl) dX3_find_115 (fun H locs hP hD hS => ?_)
      have hP := cs_N1 hP
      obtain rfl := Option.some.inj hf
      exact W.vret hx hb hr (fun t ht hW => ⟨rfl, by rw [ht]; exact hP, hS.F ht⟩) hS.2.2 dX3_find_118
    refine lv_if_le (tgt := 103) hx hb dX3_find_92 (by decide) (fun c23 => ?_) (fun c23 => ?_)
    · rw [if_pos c23] at gw22
      obtain rfl := Option.some.inj gw22
      exact hJ103_w22 _ _ _ hP hS (lv_sub hl [0, 1, 2, 3] rfl)
    · rw [if_neg c23] at gw22
      refine lv_aload_n hx hb dX3_find_95 rfl (lv_at hl 0 rfl) ?_
      refine lv_aload_n hx hb dX3_find_96 rfl (lv_at hl 0 rfl) ?_
      refine va_get (ci := 3) (v := .ref (ra ad (12 : Fin 20))) (C := RX3) (T := TX3) (N := 8) hx hb hts (by decide +kernel) hown hK hP 42 cc_spl rfl 5 (by decide) (hts (.fieldLink RX3 34 "NumberFieldFactors$Splitter" "rest" "LNumberFieldFactors$Row;") (by decide +kernel)) (fun _ h9 => h9) rfl dX3_find_97 ?_
      obtain ⟨u24, g25, gw22⟩ := Option.bind_eq_some_iff.mp gw22
      try dsimp only at gw22
      refine ct_call (va_runV (As := [.ref (ra ad (12 : Fin 20))]) (rest := []) ⟨hx, hb, hml, hown, hts⟩ (C_X3_add l D tys nw hn hnw hj htI htR (res := u24) g25) (cwV 1 hts gX3_find_X3_add rfl rfl rfl (by decide +kernel) ⟨Nat.le_of_ble_eq_true rfl, Nat.le_of_ble_eq_true rfl⟩) (ct_preV hn hP hK hN (ci := 3) (k := 42) rfl (by decide) rfl) rfl rfl hl.1 rfl (lv_room (Nat.le_of_ble_eq_true rfl)) dX3_find_100 ⟨Nat.zero_le _, Nat.zero_le _⟩) hS (fun H locs hP hS => ?_)
      obtain rfl := Option.some.inj gw22
      exact hJ103_w22 _ _ _ hP hS (lv_sub hl [0, 1, 2, 3] rfl)
  · rw [if_neg c1] at hf
    obtain rfl := Option.some.inj hf
    exact W.vret hx hb hr (fun t ht hW => ⟨rfl, by rw [ht]; exact hP, hS.F ht⟩) hS.2.2 dX3_find_7
end
