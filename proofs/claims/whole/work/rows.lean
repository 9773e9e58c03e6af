section
/-! ===== BEGIN words of one list among another's, by their places ===== -/
theorem goodIn_r {big : List Cond} (ws : List Cond) (ps : List Nat) (hp : ws = ps.filterMap (fun i => big[i]?)) (h : ws.all goodWord = true) : GoodIn big ws := by
  intro w hw
  have h1 := List.all_eq_true.mp h w hw
  rw [hp] at hw
  obtain ⟨i, -, hi⟩ := List.mem_filterMap.mp hw
  have hm : w ∈ big := by first | exact List.mem_of_getElem? hi | exact List.getElem?_mem hi
  exact ⟨hm, good_of_word h1⟩
theorem goodIn_app {big a b : List Cond} (ha : GoodIn big a) (hb : GoodIn big b) : GoodIn big (a ++ b) := fun w h => (List.mem_append.mp h).elim (ha w) (hb w)
theorem goodIn_ca {big a b : List Cond} {c : Cond} (ha : GoodIn big (c :: a)) (hb : GoodIn big b) : GoodIn big (c :: (a ++ b)) := fun w h => (List.mem_cons.mp h).elim (fun e => ha w (List.mem_cons.mpr (Or.inl e))) (fun h => (List.mem_append.mp h).elim (fun h => ha w (List.mem_cons.mpr (Or.inr h))) (hb w))
theorem goodIn_sub {big ws : List Cond} (hm : ∀ w ∈ ws, w ∈ big) (h : ws.all goodWord = true) : GoodIn big ws := fun w hw => ⟨hm w hw, good_of_word (List.all_eq_true.mp h w hw)⟩
/-! ===== END ===== -/

def RX0 : String := "NumberFieldFactors$Extension"
def TX0 : u_T := fun k => match k with
  | 0 => ("NumberFieldFactors$Extension", "degree", "I", false)
  | 1 => ("NumberFieldFactors$Extension", "size", "I", false)
  | 2 => ("NumberFieldFactors$Extension", "low0", "I", false)
  | 3 => ("NumberFieldFactors$Extension", "low1", "I", false)
  | 4 => ("NumberFieldFactors$Extension", "low2", "I", false)
  | 5 => ("NumberFieldFactors$Extension", "t", "I", false)
  | 6 => ("NumberFieldFactors$Extension", "mateOfT", "I", false)
  | _ => ("NumberFieldFactors$Extension", "mateOfTSquared", "I", false)
def tyX0 : Nat → FieldType := fun k => match k with
  | 0 => .int
  | 1 => .int
  | 2 => .int
  | 3 => .int
  | 4 => .int
  | 5 => .int
  | 6 => .int
  | _ => .int
abbrev wsX00 : List Cond := u_ws RX0 TX0 8
theorem nmX0 : ∀ a, a < 8 → ∀ b, b < 8 → a ≠ b → (TX0 a).2.1 ≠ (TX0 b).2.1 := by decide +kernel
theorem tyX0_ok : ∀ k, k < 8 → parseFieldDescriptor (TX0 k).2.2.1 = some (tyX0 k) := by decide +kernel
abbrev cX0_init : ByteArray := prog_2_method_1_code
def yX0_init : MethodName := ⟨RX0, "<init>", "()V"⟩
abbrev cX0_become : ByteArray := prog_2_method_2_code
def yX0_become : MethodName := ⟨RX0, "become", "(IIII)Z"⟩
abbrev cX0_hasRoot : ByteArray := prog_2_method_3_code
def yX0_hasRoot : MethodName := ⟨RX0, "hasRoot", "(IIII)Z"⟩
abbrev cX0_modulusAt : ByteArray := prog_2_method_4_code
def yX0_modulusAt : MethodName := ⟨RX0, "modulusAt", "(I)I"⟩
abbrev cX0_plus : ByteArray := prog_2_method_5_code
def yX0_plus : MethodName := ⟨RX0, "plus", "(II)I"⟩
abbrev cX0_minus : ByteArray := prog_2_method_6_code
def yX0_minus : MethodName := ⟨RX0, "minus", "(II)I"⟩
abbrev cX0_times : ByteArray := prog_2_method_7_code
def yX0_times : MethodName := ⟨RX0, "times", "(II)I"⟩
abbrev cX0_power : ByteArray := prog_2_method_8_code
def yX0_power : MethodName := ⟨RX0, "power", "(II)I"⟩
abbrev cX0_mate : ByteArray := prog_2_method_9_code
def yX0_mate : MethodName := ⟨RX0, "mate", "(I)I"⟩
abbrev cX0_isSquare : ByteArray := prog_2_method_10_code
def yX0_isSquare : MethodName := ⟨RX0, "isSquare", "(I)Z"⟩
abbrev cX0_matesProduct : ByteArray := prog_2_method_11_code
def yX0_matesProduct : MethodName := ⟨RX0, "matesProduct", "(I)I"⟩
abbrev cX0_matesSum : ByteArray := prog_2_method_12_code
def yX0_matesSum : MethodName := ⟨RX0, "matesSum", "(I)I"⟩
abbrev cX0_differentMates : ByteArray := prog_2_method_13_code
def yX0_differentMates : MethodName := ⟨RX0, "differentMates", "(I)I"⟩
def RX1 : String := "NumberFieldFactors$Ring"
def TX1 : u_T := fun k => match k with
  | 0 => ("NumberFieldFactors$Ring", "extension", "LNumberFieldFactors$Extension;", true)
  | 1 => ("NumberFieldFactors$Ring", "wide", "LNumberFieldFactors$Row;", true)
  | 2 => ("NumberFieldFactors$Ring", "quotient", "LNumberFieldFactors$Row;", true)
  | 3 => ("NumberFieldFactors$Ring", "older", "LNumberFieldFactors$Row;", true)
  | 4 => ("NumberFieldFactors$Ring", "newer", "LNumberFieldFactors$Row;", true)
  | 5 => ("NumberFieldFactors$Ring", "derived", "LNumberFieldFactors$Row;", true)
  | 6 => ("NumberFieldFactors$Ring", "mates", "LNumberFieldFactors$Row;", true)
  | 7 => ("NumberFieldFactors$Ring", "product", "LNumberFieldFactors$Row;", true)
  | 8 => ("NumberFieldFactors$Ring", "moved", "LNumberFieldFactors$Row;", true)
  | 9 => ("NumberFieldFactors$Ring", "least", "LNumberFieldFactors$Row;", true)
  | _ => ("NumberFieldFactors$Ring", "common", "LNumberFieldFactors$Row;", true)
def tyX1 : Nat → FieldType := fun k => match k with
  | 0 => .object "NumberFieldFactors$Extension"
  | 1 => .object "NumberFieldFactors$Row"
  | 2 => .object "NumberFieldFactors$Row"
  | 3 => .object "NumberFieldFactors$Row"
  | 4 => .object "NumberFieldFactors$Row"
  | 5 => .object "NumberFieldFactors$Row"
  | 6 => .object "NumberFieldFactors$Row"
  | 7 => .object "NumberFieldFactors$Row"
  | 8 => .object "NumberFieldFactors$Row"
  | 9 => .object "NumberFieldFactors$Row"
  | _ => .object "NumberFieldFactors$Row"
abbrev wsX10 : List Cond := u_ws RX1 TX1 11
theorem nmX1 : ∀ a, a < 11 → ∀ b, b < 11 → a ≠ b → (TX1 a).2.1 ≠ (TX1 b).2.1 := by decide +kernel
theorem tyX1_ok : ∀ k, k < 11 → parseFieldDescriptor (TX1 k).2.2.1 = some (tyX1 k) := by decide +kernel
abbrev cX1_init : ByteArray := prog_3_method_1_code
def yX1_init : MethodName := ⟨RX1, "<init>", "()V"⟩
abbrev cX1_valueOf : ByteArray := prog_3_method_2_code
def yX1_valueOf : MethodName := ⟨RX1, "valueOf", "(LNumberFieldFactors$Row;I)I"⟩
abbrev cX1_displace : ByteArray := prog_3_method_3_code
def yX1_displace : MethodName := ⟨RX1, "displace", "(LNumberFieldFactors$Row;I)V"⟩
abbrev cX1_multiply : ByteArray := prog_3_method_4_code
def yX1_multiply : MethodName := ⟨RX1, "multiply", "(LNumberFieldFactors$Row;LNumberFieldFactors$Row;)V"⟩
abbrev cX1_multiplyLinear : ByteArray := prog_3_method_5_code
def yX1_multiplyLinear : MethodName := ⟨RX1, "multiplyLinear", "(LNumberFieldFactors$Row;I)V"⟩
abbrev cX1_divide : ByteArray := prog_3_method_6_code
def yX1_divide : MethodName := ⟨RX1, "divide", "(LNumberFieldFactors$Row;LNumberFieldFactors$Row;)V"⟩
abbrev cX1_makeMonic : ByteArray := prog_3_method_7_code
def yX1_makeMonic : MethodName := ⟨RX1, "makeMonic", "(LNumberFieldFactors$Row;)V"⟩
abbrev cX1_findCommon : ByteArray := prog_3_method_8_code
def yX1_findCommon : MethodName := ⟨RX1, "findCommon", "(LNumberFieldFactors$Row;LNumberFieldFactors$Row;LNumberFieldFactors$Row;)V"⟩
abbrev cX1_findSquares : ByteArray := prog_3_method_9_code
def yX1_findSquares : MethodName := ⟨RX1, "findSquares", "(LNumberFieldFactors$Row;LNumberFieldFactors$Row;)V"⟩
abbrev cX1_raiseLinear : ByteArray := prog_3_method_10_code
def yX1_raiseLinear : MethodName := ⟨RX1, "raiseLinear", "(IJLNumberFieldFactors$Row;LNumberFieldFactors$Row;)V"⟩
abbrev cX1_normOf : ByteArray := prog_3_method_11_code
def yX1_normOf : MethodName := ⟨RX1, "normOf", "(LNumberFieldFactors$Row;)LNumberFieldFactors$Row;"⟩
abbrev cX1_leastPolynomial : ByteArray := prog_3_method_12_code
def yX1_leastPolynomial : MethodName := ⟨RX1, "leastPolynomial", "(I)LNumberFieldFactors$Row;"⟩
abbrev cX1_leastShift : ByteArray := prog_3_method_13_code
def yX1_leastShift : MethodName := ⟨RX1, "leastShift", "(LNumberFieldFactors$Row;)I"⟩
def RX2 : String := "NumberFieldFactors$Row"
def TX2 : u_T := fun k => match k with
  | _ => ("NumberFieldFactors$Row", "elements", "[I", true)
def tyX2 : Nat → FieldType := fun k => match k with
  | _ => .array .int
abbrev wsX20 : List Cond := u_ws RX2 TX2 1
theorem nmX2 : ∀ a, a < 1 → ∀ b, b < 1 → a ≠ b → (TX2 a).2.1 ≠ (TX2 b).2.1 := by decide +kernel
theorem tyX2_ok : ∀ k, k < 1 → parseFieldDescriptor (TX2 k).2.2.1 = some (tyX2 k) := by decide +kernel
abbrev cX2_init : ByteArray := prog_4_method_1_code
def yX2_init : MethodName := ⟨RX2, "<init>", "()V"⟩
abbrev cX2_get : ByteArray := prog_4_method_2_code
def yX2_get : MethodName := ⟨RX2, "get", "(I)I"⟩
abbrev cX2_set : ByteArray := prog_4_method_3_code
def yX2_set : MethodName := ⟨RX2, "set", "(II)V"⟩
abbrev cX2_degree : ByteArray := prog_4_method_4_code
def yX2_degree : MethodName := ⟨RX2, "degree", "()I"⟩
abbrev cX2_clear : ByteArray := prog_4_method_5_code
def yX2_clear : MethodName := ⟨RX2, "clear", "()V"⟩
abbrev cX2_copy : ByteArray := prog_4_method_6_code
def yX2_copy : MethodName := ⟨RX2, "copy", "(LNumberFieldFactors$Row;)V"⟩
abbrev cX2_becomeOne : ByteArray := prog_4_method_7_code
def yX2_becomeOne : MethodName := ⟨RX2, "becomeOne", "()V"⟩
abbrev cX2_isBefore : ByteArray := prog_4_method_8_code
def yX2_isBefore : MethodName := ⟨RX2, "isBefore", "(LNumberFieldFactors$Row;)Z"⟩
def RX3 : String := "NumberFieldFactors$Splitter"
def TX3 : u_T := fun k => match k with
  | 0 => ("NumberFieldFactors$Splitter", "parts", "[LNumberFieldFactors$Row;", true)
  | 1 => ("NumberFieldFactors$Splitter", "counts", "[I", true)
  | 2 => ("NumberFieldFactors$Splitter", "count", "I", false)
  | 3 => ("NumberFieldFactors$Splitter", "found", "Z", false)
  | 4 => ("NumberFieldFactors$Splitter", "root", "LNumberFieldFactors$Row;", true)
  | 5 => ("NumberFieldFactors$Splitter", "rest", "LNumberFieldFactors$Row;", true)
  | 6 => ("NumberFieldFactors$Splitter", "power", "LNumberFieldFactors$Row;", true)
  | _ => ("NumberFieldFactors$Splitter", "shared", "LNumberFieldFactors$Row;", true)
def tyX3 : Nat → FieldType := fun k => match k with
  | 0 => .array (.object "NumberFieldFactors$Row")
  | 1 => .array .int
  | 2 => .int
  | 3 => .boolean
  | 4 => .object "NumberFieldFactors$Row"
  | 5 => .object "NumberFieldFactors$Row"
  | 6 => .object "NumberFieldFactors$Row"
  | _ => .object "NumberFieldFactors$Row"
abbrev wsX30 : List Cond := u_ws RX3 TX3 8
theorem nmX3 : ∀ a, a < 8 → ∀ b, b < 8 → a ≠ b → (TX3 a).2.1 ≠ (TX3 b).2.1 := by decide +kernel
theorem tyX3_ok : ∀ k, k < 8 → parseFieldDescriptor (TX3 k).2.2.1 = some (tyX3 k) := by decide +kernel
abbrev cX3_init : ByteArray := prog_5_method_1_code
def yX3_init : MethodName := ⟨RX3, "<init>", "()V"⟩
abbrev cX3_forget : ByteArray := prog_5_method_2_code
def yX3_forget : MethodName := ⟨RX3, "forget", "()V"⟩
abbrev cX3_part : ByteArray := prog_5_method_3_code
def yX3_part : MethodName := ⟨RX3, "part", "(I)LNumberFieldFactors$Row;"⟩
abbrev cX3_timesOf : ByteArray := prog_5_method_4_code
def yX3_timesOf : MethodName := ⟨RX3, "timesOf", "(I)I"⟩
abbrev cX3_commonDegree : ByteArray := prog_5_method_5_code
def yX3_commonDegree : MethodName := ⟨RX3, "commonDegree", "()I"⟩
abbrev cX3_find : ByteArray := prog_5_method_6_code
def yX3_find : MethodName := ⟨RX3, "find", "(LNumberFieldFactors$Ring;LNumberFieldFactors$Row;)V"⟩
abbrev cX3_keepRoot : ByteArray := prog_5_method_7_code
def yX3_keepRoot : MethodName := ⟨RX3, "keepRoot", "(LNumberFieldFactors$Ring;LNumberFieldFactors$Row;)V"⟩
abbrev cX3_add : ByteArray := prog_5_method_8_code
def yX3_add : MethodName := ⟨RX3, "add", "(LNumberFieldFactors$Row;)V"⟩
abbrev cX3_sizeToThe : ByteArray := prog_5_method_9_code
def yX3_sizeToThe : MethodName := ⟨RX3, "sizeToThe", "(LNumberFieldFactors$Ring;I)J"⟩
abbrev cX3_collect : ByteArray := prog_5_method_10_code
def yX3_collect : MethodName := ⟨RX3, "collect", "(LNumberFieldFactors$Ring;I)V"⟩
abbrev cX3_separate : ByteArray := prog_5_method_11_code
def yX3_separate : MethodName := ⟨RX3, "separate", "(LNumberFieldFactors$Ring;II)V"⟩
abbrev cX3_sort : ByteArray := prog_5_method_12_code
def yX3_sort : MethodName := ⟨RX3, "sort", "()V"⟩
abbrev cX3_countTimes : ByteArray := prog_5_method_13_code
def yX3_countTimes : MethodName := ⟨RX3, "countTimes", "(LNumberFieldFactors$Ring;LNumberFieldFactors$Row;)V"⟩
def RX4 : String := "NumberFieldFactors"
def TX4 : u_T := fun k => match k with
  | 0 => ("NumberFieldFactors", "f", "LNumberFieldFactors$Row;", true)
  | 1 => ("NumberFieldFactors", "ring", "LNumberFieldFactors$Ring;", true)
  | _ => ("NumberFieldFactors", "splitter", "LNumberFieldFactors$Splitter;", true)
def tyX4 : Nat → FieldType := fun k => match k with
  | 0 => .object "NumberFieldFactors$Row"
  | 1 => .object "NumberFieldFactors$Ring"
  | _ => .object "NumberFieldFactors$Splitter"
abbrev wsX40 : List Cond := u_ws RX4 TX4 3
theorem nmX4 : ∀ a, a < 3 → ∀ b, b < 3 → a ≠ b → (TX4 a).2.1 ≠ (TX4 b).2.1 := by decide +kernel
theorem tyX4_ok : ∀ k, k < 3 → parseFieldDescriptor (TX4 k).2.2.1 = some (tyX4 k) := by decide +kernel
abbrev cX4_init : ByteArray := prog_1_method_1_code
def yX4_init : MethodName := ⟨RX4, "<init>", "()V"⟩
abbrev cX4_field : ByteArray := prog_1_method_2_code
def yX4_field : MethodName := ⟨RX4, "field", "(IJJJ)Z"⟩
abbrev cX4_modulus : ByteArray := prog_1_method_3_code
def yX4_modulus : MethodName := ⟨RX4, "modulus", "(I)I"⟩
abbrev cX4_put : ByteArray := prog_1_method_4_code
def yX4_put : MethodName := ⟨RX4, "put", "(II)Z"⟩
abbrev cX4_at : ByteArray := prog_1_method_5_code
def yX4_at : MethodName := ⟨RX4, "at", "(I)I"⟩
abbrev cX4_reckon : ByteArray := prog_1_method_6_code
def yX4_reckon : MethodName := ⟨RX4, "reckon", "(III)I"⟩
abbrev cX4_known : ByteArray := prog_1_method_7_code
def yX4_known : MethodName := ⟨RX4, "known", "(II)I"⟩
abbrev cX4_minimal : ByteArray := prog_1_method_8_code
def yX4_minimal : MethodName := ⟨RX4, "minimal", "(II)I"⟩
abbrev cX4_value : ByteArray := prog_1_method_9_code
def yX4_value : MethodName := ⟨RX4, "value", "(I)I"⟩
abbrev cX4_norm : ByteArray := prog_1_method_10_code
def yX4_norm : MethodName := ⟨RX4, "norm", "(I)I"⟩
abbrev cX4_shift : ByteArray := prog_1_method_11_code
def yX4_shift : MethodName := ⟨RX4, "shift", "()I"⟩
abbrev cX4_factors : ByteArray := prog_1_method_12_code
def yX4_factors : MethodName := ⟨RX4, "factors", "()I"⟩
abbrev cX4_factor : ByteArray := prog_1_method_13_code
def yX4_factor : MethodName := ⟨RX4, "factor", "(II)I"⟩
abbrev cX4_often : ByteArray := prog_1_method_14_code
def yX4_often : MethodName := ⟨RX4, "often", "(I)I"⟩
abbrev cX4_splitting : ByteArray := prog_1_method_15_code
def yX4_splitting : MethodName := ⟨RX4, "splitting", "()I"⟩
abbrev cX4_move : ByteArray := prog_1_method_16_code
def yX4_move : MethodName := ⟨RX4, "move", "(I)V"⟩
abbrev cX4_take : ByteArray := prog_1_method_17_code
def yX4_take : MethodName := ⟨RX4, "take", "(I)V"⟩
abbrev cX4_numberOf : ByteArray := prog_1_method_18_code
def yX4_numberOf : MethodName := ⟨RX4, "numberOf", "(J)I"⟩
abbrev cX4_requirePower : ByteArray := prog_1_method_19_code
def yX4_requirePower : MethodName := ⟨RX4, "requirePower", "(I)V"⟩
abbrev cX4_requireElement : ByteArray := prog_1_method_20_code
def yX4_requireElement : MethodName := ⟨RX4, "requireElement", "(I)V"⟩
abbrev cX4_requireSome : ByteArray := prog_1_method_21_code
def yX4_requireSome : MethodName := ⟨RX4, "requireSome", "()V"⟩
abbrev cX4_requireFactor : ByteArray := prog_1_method_22_code
def yX4_requireFactor : MethodName := ⟨RX4, "requireFactor", "(I)V"⟩
def RX5 : String := "NumberFieldFactorsModel"
def TX5 : u_T := fun k => match k with
  | 0 => ("NumberFieldFactorsModel", "thrown", "I", false)
  | 1 => ("NumberFieldFactorsModel", "k", "I", false)
  | 2 => ("NumberFieldFactorsModel", "many", "J", false)
  | 3 => ("NumberFieldFactorsModel", "modulus", "[I", true)
  | 4 => ("NumberFieldFactorsModel", "digits", "[I", true)
  | 5 => ("NumberFieldFactorsModel", "row", "[I", true)
  | 6 => ("NumberFieldFactorsModel", "degree", "[I", true)
  | 7 => ("NumberFieldFactorsModel", "known", "Z", false)
  | 8 => ("NumberFieldFactorsModel", "factors", "I", false)
  | _ => ("NumberFieldFactorsModel", "often", "[I", true)
def tyX5 : Nat → FieldType := fun k => match k with
  | 0 => .int
  | 1 => .int
  | 2 => .long
  | 3 => .array .int
  | 4 => .array .int
  | 5 => .array .int
  | 6 => .array .int
  | 7 => .boolean
  | 8 => .int
  | _ => .array .int
abbrev wsX50 : List Cond := u_ws RX5 TX5 10
theorem nmX5 : ∀ a, a < 10 → ∀ b, b < 10 → a ≠ b → (TX5 a).2.1 ≠ (TX5 b).2.1 := by decide +kernel
theorem tyX5_ok : ∀ k, k < 10 → parseFieldDescriptor (TX5 k).2.2.1 = some (tyX5 k) := by decide +kernel
abbrev cX5_init : ByteArray := prog_7_method_1_code
def yX5_init : MethodName := ⟨RX5, "<init>", "()V"⟩
abbrev cX5_thrown : ByteArray := prog_7_method_2_code
def yX5_thrown : MethodName := ⟨RX5, "thrown", "()I"⟩
abbrev cX5_fails : ByteArray := prog_7_method_3_code
def yX5_fails : MethodName := ⟨RX5, "fails", "(ZZ)Z"⟩
abbrev cX5_isElement : ByteArray := prog_7_method_4_code
def yX5_isElement : MethodName := ⟨RX5, "isElement", "(I)Z"⟩
abbrev cX5_digit : ByteArray := prog_7_method_5_code
def yX5_digit : MethodName := ⟨RX5, "digit", "(II)I"⟩
abbrev cX5_add : ByteArray := prog_7_method_6_code
def yX5_add : MethodName := ⟨RX5, "add", "(II)I"⟩
abbrev cX5_negative : ByteArray := prog_7_method_7_code
def yX5_negative : MethodName := ⟨RX5, "negative", "(I)I"⟩
abbrev cX5_less : ByteArray := prog_7_method_8_code
def yX5_less : MethodName := ⟨RX5, "less", "(II)I"⟩
abbrev cX5_times : ByteArray := prog_7_method_9_code
def yX5_times : MethodName := ⟨RX5, "times", "(II)I"⟩
abbrev cX5_power : ByteArray := prog_7_method_10_code
def yX5_power : MethodName := ⟨RX5, "power", "(IJ)I"⟩
abbrev cX5_inverse : ByteArray := prog_7_method_11_code
def yX5_inverse : MethodName := ⟨RX5, "inverse", "(I)I"⟩
abbrev cX5_mate : ByteArray := prog_7_method_12_code
def yX5_mate : MethodName := ⟨RX5, "mate", "(II)I"⟩
abbrev cX5_mates : ByteArray := prog_7_method_13_code
def yX5_mates : MethodName := ⟨RX5, "mates", "(I)I"⟩
abbrev cX5_number : ByteArray := prog_7_method_14_code
def yX5_number : MethodName := ⟨RX5, "number", "(J)I"⟩
abbrev cX5_field : ByteArray := prog_7_method_15_code
def yX5_field : MethodName := ⟨RX5, "field", "(IJJJ)Z"⟩
abbrev cX5_modulus : ByteArray := prog_7_method_16_code
def yX5_modulus : MethodName := ⟨RX5, "modulus", "(I)I"⟩
abbrev cX5_clear : ByteArray := prog_7_method_17_code
def yX5_clear : MethodName := ⟨RX5, "clear", "(I)V"⟩
abbrev cX5_copy : ByteArray := prog_7_method_18_code
def yX5_copy : MethodName := ⟨RX5, "copy", "(II)V"⟩
abbrev cX5_set : ByteArray := prog_7_method_19_code
def yX5_set : MethodName := ⟨RX5, "set", "(III)V"⟩
abbrev cX5_cell : ByteArray := prog_7_method_20_code
def yX5_cell : MethodName := ⟨RX5, "cell", "(II)I"⟩
abbrev cX5_product : ByteArray := prog_7_method_21_code
def yX5_product : MethodName := ⟨RX5, "product", "(III)V"⟩
abbrev cX5_divide : ByteArray := prog_7_method_22_code
def yX5_divide : MethodName := ⟨RX5, "divide", "(III)V"⟩
abbrev cX5_monic : ByteArray := prog_7_method_23_code
def yX5_monic : MethodName := ⟨RX5, "monic", "(I)V"⟩
abbrev cX5_divisor : ByteArray := prog_7_method_24_code
def yX5_divisor : MethodName := ⟨RX5, "divisor", "(II)V"⟩
abbrev cX5_slope : ByteArray := prog_7_method_25_code
def yX5_slope : MethodName := ⟨RX5, "slope", "(II)V"⟩
abbrev cX5_powers : ByteArray := prog_7_method_26_code
def yX5_powers : MethodName := ⟨RX5, "powers", "(IJII)V"⟩
abbrev cX5_moved : ByteArray := prog_7_method_27_code
def yX5_moved : MethodName := ⟨RX5, "moved", "(III)V"⟩
abbrev cX5_normOf : ByteArray := prog_7_method_28_code
def yX5_normOf : MethodName := ⟨RX5, "normOf", "(II)V"⟩
abbrev cX5_isPower : ByteArray := prog_7_method_29_code
def yX5_isPower : MethodName := ⟨RX5, "isPower", "(I)Z"⟩
abbrev cX5_put : ByteArray := prog_7_method_30_code
def yX5_put : MethodName := ⟨RX5, "put", "(II)Z"⟩
abbrev cX5_at : ByteArray := prog_7_method_31_code
def yX5_at : MethodName := ⟨RX5, "at", "(I)I"⟩
abbrev cX5_reckon : ByteArray := prog_7_method_32_code
def yX5_reckon : MethodName := ⟨RX5, "reckon", "(III)I"⟩
abbrev cX5_known : ByteArray := prog_7_method_33_code
def yX5_known : MethodName := ⟨RX5, "known", "(II)I"⟩
abbrev cX5_minimal : ByteArray := prog_7_method_34_code
def yX5_minimal : MethodName := ⟨RX5, "minimal", "(II)I"⟩
abbrev cX5_value : ByteArray := prog_7_method_35_code
def yX5_value : MethodName := ⟨RX5, "value", "(I)I"⟩
abbrev cX5_norm : ByteArray := prog_7_method_36_code
def yX5_norm : MethodName := ⟨RX5, "norm", "(I)I"⟩
abbrev cX5_root : ByteArray := prog_7_method_37_code
def yX5_root : MethodName := ⟨RX5, "root", "()V"⟩
abbrev cX5_found : ByteArray := prog_7_method_38_code
def yX5_found : MethodName := ⟨RX5, "found", "(I)V"⟩
abbrev cX5_parts : ByteArray := prog_7_method_39_code
def yX5_parts : MethodName := ⟨RX5, "parts", "(I)V"⟩
abbrev cX5_split : ByteArray := prog_7_method_40_code
def yX5_split : MethodName := ⟨RX5, "split", "()V"⟩
abbrev cX5_isAhead : ByteArray := prog_7_method_41_code
def yX5_isAhead : MethodName := ⟨RX5, "isAhead", "(II)Z"⟩
abbrev cX5_order : ByteArray := prog_7_method_42_code
def yX5_order : MethodName := ⟨RX5, "order", "()V"⟩
abbrev cX5_factorise : ByteArray := prog_7_method_43_code
def yX5_factorise : MethodName := ⟨RX5, "factorise", "()V"⟩
abbrev cX5_isNothing : ByteArray := prog_7_method_44_code
def yX5_isNothing : MethodName := ⟨RX5, "isNothing", "()Z"⟩
abbrev cX5_shift : ByteArray := prog_7_method_45_code
def yX5_shift : MethodName := ⟨RX5, "shift", "()I"⟩
abbrev cX5_factors : ByteArray := prog_7_method_46_code
def yX5_factors : MethodName := ⟨RX5, "factors", "()I"⟩
abbrev cX5_lacks : ByteArray := prog_7_method_47_code
def yX5_lacks : MethodName := ⟨RX5, "lacks", "(I)Z"⟩
abbrev cX5_factor : ByteArray := prog_7_method_48_code
def yX5_factor : MethodName := ⟨RX5, "factor", "(II)I"⟩
abbrev cX5_often : ByteArray := prog_7_method_49_code
def yX5_often : MethodName := ⟨RX5, "often", "(I)I"⟩
abbrev cX5_splitting : ByteArray := prog_7_method_50_code
def yX5_splitting : MethodName := ⟨RX5, "splitting", "()I"⟩
abbrev cX5_move : ByteArray := prog_7_method_51_code
def yX5_move : MethodName := ⟨RX5, "move", "(I)V"⟩
abbrev cX5_take : ByteArray := prog_7_method_52_code
def yX5_take : MethodName := ⟨RX5, "take", "(I)V"⟩
def RJ0 : String := "java/lang/String"
def TJ0 : u_T := fun k => match k with
  | _ => ("", "", "", false)
def tyJ0 : Nat → FieldType := fun k => match k with
  | _ => .int
abbrev wsJ00 : List Cond := u_ws RJ0 TJ0 0
theorem nmJ0 : ∀ a, a < 0 → ∀ b, b < 0 → a ≠ b → (TJ0 a).2.1 ≠ (TJ0 b).2.1 := by decide +kernel
theorem tyJ0_ok : ∀ k, k < 0 → parseFieldDescriptor (TJ0 k).2.2.1 = some (tyJ0 k) := by decide +kernel
def RL : String := "NumberFieldFactorsLaw"
abbrev cL_field : ByteArray := method_3_code
def yL_field : MethodName := ⟨RL, "field", "(LNumberFieldFactors;IJJJ[J)I"⟩
abbrev cL_modulus : ByteArray := method_4_code
def yL_modulus : MethodName := ⟨RL, "modulus", "(LNumberFieldFactors;I[J)I"⟩
abbrev cL_put : ByteArray := method_5_code
def yL_put : MethodName := ⟨RL, "put", "(LNumberFieldFactors;II[J)I"⟩
abbrev cL_at : ByteArray := method_6_code
def yL_at : MethodName := ⟨RL, "at", "(LNumberFieldFactors;I[J)I"⟩
abbrev cL_reckon : ByteArray := method_7_code
def yL_reckon : MethodName := ⟨RL, "reckon", "(LNumberFieldFactors;III[J)I"⟩
abbrev cL_known : ByteArray := method_8_code
def yL_known : MethodName := ⟨RL, "known", "(LNumberFieldFactors;II[J)I"⟩
abbrev cL_minimal : ByteArray := method_9_code
def yL_minimal : MethodName := ⟨RL, "minimal", "(LNumberFieldFactors;II[J)I"⟩
abbrev cL_value : ByteArray := method_10_code
def yL_value : MethodName := ⟨RL, "value", "(LNumberFieldFactors;I[J)I"⟩
abbrev cL_shift : ByteArray := method_11_code
def yL_shift : MethodName := ⟨RL, "shift", "(LNumberFieldFactors;[J)I"⟩
abbrev cL_factors : ByteArray := method_12_code
def yL_factors : MethodName := ⟨RL, "factors", "(LNumberFieldFactors;[J)I"⟩
abbrev cL_factor : ByteArray := method_13_code
def yL_factor : MethodName := ⟨RL, "factor", "(LNumberFieldFactors;II[J)I"⟩
abbrev cL_often : ByteArray := method_14_code
def yL_often : MethodName := ⟨RL, "often", "(LNumberFieldFactors;I[J)I"⟩
abbrev cL_splitting : ByteArray := method_15_code
def yL_splitting : MethodName := ⟨RL, "splitting", "(LNumberFieldFactors;[J)I"⟩
abbrev cL_move : ByteArray := method_16_code
def yL_move : MethodName := ⟨RL, "move", "(LNumberFieldFactors;I)I"⟩
abbrev cL_take : ByteArray := method_17_code
def yL_take : MethodName := ⟨RL, "take", "(LNumberFieldFactors;I)I"⟩
abbrev cL_law : ByteArray := code
def yL_law : MethodName := ⟨RL, "law", "([I)Z"⟩
def wsX0_init : List Cond := .code yX0_init cX0_init 1 none :: ([.methodLink RX0 3 objectInit, .instanceMethod objectInit, .code objectInit ⟨#[0xb1]⟩ 1 none, .fieldLink RX0 9 "NumberFieldFactors$Extension" "degree" "I", .fieldLink RX0 15 "NumberFieldFactors$Extension" "size" "I", .fieldLink RX0 18 "NumberFieldFactors$Extension" "low0" "I", .fieldLink RX0 21 "NumberFieldFactors$Extension" "low1" "I", .fieldLink RX0 24 "NumberFieldFactors$Extension" "low2" "I", .fieldLink RX0 27 "NumberFieldFactors$Extension" "t" "I", .fieldLink RX0 30 "NumberFieldFactors$Extension" "mateOfT" "I", .fieldLink RX0 33 "NumberFieldFactors$Extension" "mateOfTSquared" "I"] ++ wsX00)
def wsX0_hasRoot : List Cond := .code yX0_hasRoot cX0_hasRoot 6 (some .boolean) :: ([])
def wsX0_times : List Cond := .code yX0_times cX0_times 15 (some .int) :: ([.fieldLink RX0 9 "NumberFieldFactors$Extension" "degree" "I", .fieldLink RX0 21 "NumberFieldFactors$Extension" "low1" "I", .fieldLink RX0 18 "NumberFieldFactors$Extension" "low0" "I", .fieldLink RX0 24 "NumberFieldFactors$Extension" "low2" "I"] ++ wsX00)
def wsX0_power : List Cond := .code yX0_power cX0_power 6 (some .int) :: ([.methodLink RX0 45 yX0_times, .instanceMethod yX0_times, .selects RX0 yX0_times yX0_times, .initialized RX0, .code yX0_times cX0_times 15 (some .int), .fieldLink RX0 9 "NumberFieldFactors$Extension" "degree" "I", .fieldLink RX0 21 "NumberFieldFactors$Extension" "low1" "I", .fieldLink RX0 18 "NumberFieldFactors$Extension" "low0" "I", .fieldLink RX0 24 "NumberFieldFactors$Extension" "low2" "I"] ++ wsX00)
def wsX0_become : List Cond := .code yX0_become cX0_become 7 (some .boolean) :: ([.fieldLink RX0 9 "NumberFieldFactors$Extension" "degree" "I", .constant RX0 40 (1030301), .fieldLink RX0 15 "NumberFieldFactors$Extension" "size" "I", .fieldLink RX0 18 "NumberFieldFactors$Extension" "low0" "I", .fieldLink RX0 21 "NumberFieldFactors$Extension" "low1" "I", .fieldLink RX0 24 "NumberFieldFactors$Extension" "low2" "I", .fieldLink RX0 27 "NumberFieldFactors$Extension" "t" "I", .fieldLink RX0 30 "NumberFieldFactors$Extension" "mateOfT" "I", .fieldLink RX0 33 "NumberFieldFactors$Extension" "mateOfTSquared" "I", .methodLink RX0 36 yX0_hasRoot, .static yX0_hasRoot, .initialized RX0, .code yX0_hasRoot cX0_hasRoot 6 (some .boolean), .methodLink RX0 41 yX0_power, .instanceMethod yX0_power, .selects RX0 yX0_power yX0_power, .code yX0_power cX0_power 6 (some .int), .methodLink RX0 45 yX0_times, .instanceMethod yX0_times, .selects RX0 yX0_times yX0_times, .code yX0_times cX0_times 15 (some .int)] ++ wsX00)
def wsX0_modulusAt : List Cond := .code yX0_modulusAt cX0_modulusAt 2 (some .int) :: ([.fieldLink RX0 9 "NumberFieldFactors$Extension" "degree" "I", .fieldLink RX0 18 "NumberFieldFactors$Extension" "low0" "I", .fieldLink RX0 21 "NumberFieldFactors$Extension" "low1" "I", .fieldLink RX0 24 "NumberFieldFactors$Extension" "low2" "I"] ++ wsX00)
def wsX0_plus : List Cond := .code yX0_plus cX0_plus 6 (some .int) :: ([])
def wsX0_minus : List Cond := .code yX0_minus cX0_minus 6 (some .int) :: ([])
def wsX0_mate : List Cond := .code yX0_mate cX0_mate 4 (some .int) :: ([.fieldLink RX0 33 "NumberFieldFactors$Extension" "mateOfTSquared" "I", .fieldLink RX0 30 "NumberFieldFactors$Extension" "mateOfT" "I", .methodLink RX0 45 yX0_times, .instanceMethod yX0_times, .selects RX0 yX0_times yX0_times, .initialized RX0, .code yX0_times cX0_times 15 (some .int), .fieldLink RX0 9 "NumberFieldFactors$Extension" "degree" "I", .fieldLink RX0 21 "NumberFieldFactors$Extension" "low1" "I", .fieldLink RX0 18 "NumberFieldFactors$Extension" "low0" "I", .fieldLink RX0 24 "NumberFieldFactors$Extension" "low2" "I", .methodLink RX0 48 yX0_plus, .instanceMethod yX0_plus, .selects RX0 yX0_plus yX0_plus, .code yX0_plus cX0_plus 6 (some .int)] ++ wsX00)
def wsX0_isSquare : List Cond := .code yX0_isSquare cX0_isSquare 2 (some .boolean) :: ([.fieldLink RX0 15 "NumberFieldFactors$Extension" "size" "I", .methodLink RX0 41 yX0_power, .instanceMethod yX0_power, .selects RX0 yX0_power yX0_power, .initialized RX0, .code yX0_power cX0_power 6 (some .int), .methodLink RX0 45 yX0_times, .instanceMethod yX0_times, .selects RX0 yX0_times yX0_times, .code yX0_times cX0_times 15 (some .int), .fieldLink RX0 9 "NumberFieldFactors$Extension" "degree" "I", .fieldLink RX0 21 "NumberFieldFactors$Extension" "low1" "I", .fieldLink RX0 18 "NumberFieldFactors$Extension" "low0" "I", .fieldLink RX0 24 "NumberFieldFactors$Extension" "low2" "I"] ++ wsX00)
def wsX0_matesProduct : List Cond := .code yX0_matesProduct cX0_matesProduct 5 (some .int) :: ([.fieldLink RX0 9 "NumberFieldFactors$Extension" "degree" "I", .methodLink RX0 51 yX0_mate, .instanceMethod yX0_mate, .selects RX0 yX0_mate yX0_mate, .initialized RX0, .code yX0_mate cX0_mate 4 (some .int), .fieldLink RX0 33 "NumberFieldFactors$Extension" "mateOfTSquared" "I", .fieldLink RX0 30 "NumberFieldFactors$Extension" "mateOfT" "I", .methodLink RX0 45 yX0_times, .instanceMethod yX0_times, .selects RX0 yX0_times yX0_times, .code yX0_times cX0_times 15 (some .int), .fieldLink RX0 21 "NumberFieldFactors$Extension" "low1" "I", .fieldLink RX0 18 "NumberFieldFactors$Extension" "low0" "I", .fieldLink RX0 24 "NumberFieldFactors$Extension" "low2" "I", .methodLink RX0 48 yX0_plus, .instanceMethod yX0_plus, .selects RX0 yX0_plus yX0_plus, .code yX0_plus cX0_plus 6 (some .int)] ++ wsX00)
def wsX0_matesSum : List Cond := .code yX0_matesSum cX0_matesSum 5 (some .int) :: ([.fieldLink RX0 9 "NumberFieldFactors$Extension" "degree" "I", .methodLink RX0 51 yX0_mate, .instanceMethod yX0_mate, .selects RX0 yX0_mate yX0_mate, .initialized RX0, .code yX0_mate cX0_mate 4 (some .int), .fieldLink RX0 33 "NumberFieldFactors$Extension" "mateOfTSquared" "I", .fieldLink RX0 30 "NumberFieldFactors$Extension" "mateOfT" "I", .methodLink RX0 45 yX0_times, .instanceMethod yX0_times, .selects RX0 yX0_times yX0_times, .code yX0_times cX0_times 15 (some .int), .fieldLink RX0 21 "NumberFieldFactors$Extension" "low1" "I", .fieldLink RX0 18 "NumberFieldFactors$Extension" "low0" "I", .fieldLink RX0 24 "NumberFieldFactors$Extension" "low2" "I", .methodLink RX0 48 yX0_plus, .instanceMethod yX0_plus, .selects RX0 yX0_plus yX0_plus, .code yX0_plus cX0_plus 6 (some .int)] ++ wsX00)
def wsX0_differentMates : List Cond := .code yX0_differentMates cX0_differentMates 2 (some .int) :: ([.fieldLink RX0 9 "NumberFieldFactors$Extension" "degree" "I", .methodLink RX0 51 yX0_mate, .instanceMethod yX0_mate, .selects RX0 yX0_mate yX0_mate, .initialized RX0, .code yX0_mate cX0_mate 4 (some .int), .fieldLink RX0 33 "NumberFieldFactors$Extension" "mateOfTSquared" "I", .fieldLink RX0 30 "NumberFieldFactors$Extension" "mateOfT" "I", .methodLink RX0 45 yX0_times, .instanceMethod yX0_times, .selects RX0 yX0_times yX0_times, .code yX0_times cX0_times 15 (some .int), .fieldLink RX0 21 "NumberFieldFactors$Extension" "low1" "I", .fieldLink RX0 18 "NumberFieldFactors$Extension" "low0" "I", .fieldLink RX0 24 "NumberFieldFactors$Extension" "low2" "I", .methodLink RX0 48 yX0_plus, .instanceMethod yX0_plus, .selects RX0 yX0_plus yX0_plus, .code yX0_plus cX0_plus 6 (some .int)] ++ wsX00)
def wsX2_init : List Cond := .code yX2_init cX2_init 1 none :: ([.methodLink RX2 3 objectInit, .instanceMethod objectInit, .code objectInit ⟨#[0xb1]⟩ 1 none, .arrayClass .int, .fieldLink RX2 9 "NumberFieldFactors$Row" "elements" "[I"] ++ wsX20)
def wsX1_init_r1 : List Cond := [Cond.methodLink RX1 3 objectInit, Cond.instanceMethod objectInit, Cond.code objectInit ⟨#[0xb1]⟩ 1 none, Cond.classLink RX1 9 RX0, Cond.instantiable RX0 8, Cond.initialized RX0, Cond.fieldLink RX1 12 "NumberFieldFactors$Ring" "extension" "LNumberFieldFactors$Extension;", Cond.classLink RX1 18 RX2, Cond.instantiable RX2 1, Cond.initialized RX2, Cond.fieldLink RX1 21 "NumberFieldFactors$Ring" "wide" "LNumberFieldFactors$Row;", Cond.fieldLink RX1 25 "NumberFieldFactors$Ring" "quotient" "LNumberFieldFactors$Row;", Cond.fieldLink RX1 28 "NumberFieldFactors$Ring" "older" "LNumberFieldFactors$Row;", Cond.fieldLink RX1 31 "NumberFieldFactors$Ring" "newer" "LNumberFieldFactors$Row;", Cond.fieldLink RX1 34 "NumberFieldFactors$Ring" "derived" "LNumberFieldFactors$Row;", Cond.fieldLink RX1 37 "NumberFieldFactors$Ring" "mates" "LNumberFieldFactors$Row;", Cond.fieldLink RX1 40 "NumberFieldFactors$Ring" "product" "LNumberFieldFactors$Row;", Cond.fieldLink RX1 43 "NumberFieldFactors$Ring" "moved" "LNumberFieldFactors$Row;", Cond.fieldLink RX1 46 "NumberFieldFactors$Ring" "least" "LNumberFieldFactors$Row;", Cond.fieldLink RX1 49 "NumberFieldFactors$Ring" "common" "LNumberFieldFactors$Row;", Cond.instanceMethod yX0_init, Cond.code yX0_init cX0_init 1 none, Cond.methodLink RX0 3 objectInit, Cond.fieldLink RX0 9 "NumberFieldFactors$Extension" "degree" "I"]
def wsX1_init_r2 : List Cond := [Cond.fieldLink RX0 15 "NumberFieldFactors$Extension" "size" "I", Cond.fieldLink RX0 18 "NumberFieldFactors$Extension" "low0" "I", Cond.fieldLink RX0 21 "NumberFieldFactors$Extension" "low1" "I", Cond.fieldLink RX0 24 "NumberFieldFactors$Extension" "low2" "I", Cond.fieldLink RX0 27 "NumberFieldFactors$Extension" "t" "I", Cond.fieldLink RX0 30 "NumberFieldFactors$Extension" "mateOfT" "I", Cond.fieldLink RX0 33 "NumberFieldFactors$Extension" "mateOfTSquared" "I", Cond.instanceMethod yX2_init, Cond.code yX2_init cX2_init 1 none, Cond.methodLink RX2 3 objectInit, Cond.arrayClass .int, Cond.fieldLink RX2 9 "NumberFieldFactors$Row" "elements" "[I"]
def wsX1_init : List Cond := .code yX1_init cX1_init 1 none :: ((wsX1_init_r1 ++ wsX1_init_r2) ++ wsX00 ++ wsX10 ++ wsX20)
def wsX2_degree : List Cond := .code yX2_degree cX2_degree 2 (some .int) :: ([.fieldLink RX2 9 "NumberFieldFactors$Row" "elements" "[I"] ++ wsX20)
def wsX2_get : List Cond := .code yX2_get cX2_get 2 (some .int) :: ([.fieldLink RX2 9 "NumberFieldFactors$Row" "elements" "[I"] ++ wsX20)
def wsX1_valueOf : List Cond := .code yX1_valueOf cX1_valueOf 5 (some .int) :: ([.fieldLink RX1 12 "NumberFieldFactors$Ring" "extension" "LNumberFieldFactors$Extension;", .methodLink RX1 52 yX2_degree, .instanceMethod yX2_degree, .selects RX2 yX2_degree yX2_degree, .initialized RX2, .code yX2_degree cX2_degree 2 (some .int), .fieldLink RX2 9 "NumberFieldFactors$Row" "elements" "[I", .methodLink RX1 56 yX0_times, .instanceMethod yX0_times, .selects RX0 yX0_times yX0_times, .initialized RX0, .code yX0_times cX0_times 15 (some .int), .fieldLink RX0 9 "NumberFieldFactors$Extension" "degree" "I", .fieldLink RX0 21 "NumberFieldFactors$Extension" "low1" "I", .fieldLink RX0 18 "NumberFieldFactors$Extension" "low0" "I", .fieldLink RX0 24 "NumberFieldFactors$Extension" "low2" "I", .methodLink RX1 60 yX2_get, .instanceMethod yX2_get, .selects RX2 yX2_get yX2_get, .code yX2_get cX2_get 2 (some .int), .methodLink RX1 64 yX0_plus, .instanceMethod yX0_plus, .selects RX0 yX0_plus yX0_plus, .code yX0_plus cX0_plus 6 (some .int)] ++ wsX10 ++ wsX20 ++ wsX00)
def wsX2_set : List Cond := .code yX2_set cX2_set 3 none :: ([.fieldLink RX2 9 "NumberFieldFactors$Row" "elements" "[I"] ++ wsX20)
def wsX1_displace_r1 : List Cond := [Cond.fieldLink RX1 12 "NumberFieldFactors$Ring" "extension" "LNumberFieldFactors$Extension;", Cond.methodLink RX1 52 yX2_degree, Cond.instanceMethod yX2_degree, Cond.selects RX2 yX2_degree yX2_degree, Cond.initialized RX2, Cond.code yX2_degree cX2_degree 2 (some .int), Cond.fieldLink RX2 9 "NumberFieldFactors$Row" "elements" "[I", Cond.methodLink RX1 60 yX2_get, Cond.instanceMethod yX2_get, Cond.selects RX2 yX2_get yX2_get, Cond.code yX2_get cX2_get 2 (some .int), Cond.methodLink RX1 56 yX0_times, Cond.instanceMethod yX0_times, Cond.selects RX0 yX0_times yX0_times, Cond.initialized RX0, Cond.code yX0_times cX0_times 15 (some .int), Cond.fieldLink RX0 9 "NumberFieldFactors$Extension" "degree" "I", Cond.fieldLink RX0 21 "NumberFieldFactors$Extension" "low1" "I", Cond.fieldLink RX0 18 "NumberFieldFactors$Extension" "low0" "I", Cond.fieldLink RX0 24 "NumberFieldFactors$Extension" "low2" "I", Cond.methodLink RX1 64 yX0_plus, Cond.instanceMethod yX0_plus, Cond.selects RX0 yX0_plus yX0_plus, Cond.code yX0_plus cX0_plus 6 (some .int)]
def wsX1_displace_r2 : List Cond := [Cond.methodLink RX1 67 yX2_set, Cond.instanceMethod yX2_set, Cond.selects RX2 yX2_set yX2_set, Cond.code yX2_set cX2_set 3 none]
def wsX1_displace : List Cond := .code yX1_displace cX1_displace 6 none :: ((wsX1_displace_r1 ++ wsX1_displace_r2) ++ wsX10 ++ wsX20 ++ wsX00)
def wsX2_clear : List Cond := .code yX2_clear cX2_clear 2 none :: ([.fieldLink RX2 9 "NumberFieldFactors$Row" "elements" "[I"] ++ wsX20)
def wsX2_copy : List Cond := .code yX2_copy cX2_copy 3 none :: ([.fieldLink RX2 9 "NumberFieldFactors$Row" "elements" "[I", .methodLink RX2 15 yX2_get, .instanceMethod yX2_get, .selects RX2 yX2_get yX2_get, .initialized RX2, .code yX2_get cX2_get 2 (some .int)] ++ wsX20)
def wsX1_multiply_r1 : List Cond := [Cond.fieldLink RX1 21 "NumberFieldFactors$Ring" "wide" "LNumberFieldFactors$Row;", Cond.fieldLink RX1 12 "NumberFieldFactors$Ring" "extension" "LNumberFieldFactors$Extension;", Cond.methodLink RX1 52 yX2_degree, Cond.instanceMethod yX2_degree, Cond.selects RX2 yX2_degree yX2_degree, Cond.initialized RX2, Cond.code yX2_degree cX2_degree 2 (some .int), Cond.fieldLink RX2 9 "NumberFieldFactors$Row" "elements" "[I", Cond.methodLink RX1 71 yX2_clear, Cond.instanceMethod yX2_clear, Cond.selects RX2 yX2_clear yX2_clear, Cond.code yX2_clear cX2_clear 2 none, Cond.methodLink RX1 60 yX2_get, Cond.instanceMethod yX2_get, Cond.selects RX2 yX2_get yX2_get, Cond.code yX2_get cX2_get 2 (some .int), Cond.methodLink RX1 56 yX0_times, Cond.instanceMethod yX0_times, Cond.selects RX0 yX0_times yX0_times, Cond.initialized RX0, Cond.code yX0_times cX0_times 15 (some .int), Cond.fieldLink RX0 9 "NumberFieldFactors$Extension" "degree" "I", Cond.fieldLink RX0 21 "NumberFieldFactors$Extension" "low1" "I", Cond.fieldLink RX0 18 "NumberFieldFactors$Extension" "low0" "I"]
def wsX1_multiply_r2 : List Cond := [Cond.fieldLink RX0 24 "NumberFieldFactors$Extension" "low2" "I", Cond.methodLink RX1 64 yX0_plus, Cond.instanceMethod yX0_plus, Cond.selects RX0 yX0_plus yX0_plus, Cond.code yX0_plus cX0_plus 6 (some .int), Cond.methodLink RX1 67 yX2_set, Cond.instanceMethod yX2_set, Cond.selects RX2 yX2_set yX2_set, Cond.code yX2_set cX2_set 3 none, Cond.methodLink RX1 74 yX2_copy, Cond.instanceMethod yX2_copy, Cond.selects RX2 yX2_copy yX2_copy, Cond.code yX2_copy cX2_copy 3 none, Cond.methodLink RX2 15 yX2_get]
def wsX1_multiply : List Cond := .code yX1_multiply cX1_multiply 8 none :: ((wsX1_multiply_r1 ++ wsX1_multiply_r2) ++ wsX10 ++ wsX20 ++ wsX00)
def wsX1_multiplyLinear_r1 : List Cond := [Cond.fieldLink RX1 12 "NumberFieldFactors$Ring" "extension" "LNumberFieldFactors$Extension;", Cond.methodLink RX1 52 yX2_degree, Cond.instanceMethod yX2_degree, Cond.selects RX2 yX2_degree yX2_degree, Cond.initialized RX2, Cond.code yX2_degree cX2_degree 2 (some .int), Cond.fieldLink RX2 9 "NumberFieldFactors$Row" "elements" "[I", Cond.methodLink RX1 60 yX2_get, Cond.instanceMethod yX2_get, Cond.selects RX2 yX2_get yX2_get, Cond.code yX2_get cX2_get 2 (some .int), Cond.methodLink RX1 56 yX0_times, Cond.instanceMethod yX0_times, Cond.selects RX0 yX0_times yX0_times, Cond.initialized RX0, Cond.code yX0_times cX0_times 15 (some .int), Cond.fieldLink RX0 9 "NumberFieldFactors$Extension" "degree" "I", Cond.fieldLink RX0 21 "NumberFieldFactors$Extension" "low1" "I", Cond.fieldLink RX0 18 "NumberFieldFactors$Extension" "low0" "I", Cond.fieldLink RX0 24 "NumberFieldFactors$Extension" "low2" "I", Cond.methodLink RX1 64 yX0_plus, Cond.instanceMethod yX0_plus, Cond.selects RX0 yX0_plus yX0_plus, Cond.code yX0_plus cX0_plus 6 (some .int)]
def wsX1_multiplyLinear_r2 : List Cond := [Cond.methodLink RX1 67 yX2_set, Cond.instanceMethod yX2_set, Cond.selects RX2 yX2_set yX2_set, Cond.code yX2_set cX2_set 3 none]
def wsX1_multiplyLinear : List Cond := .code yX1_multiplyLinear cX1_multiplyLinear 4 none :: ((wsX1_multiplyLinear_r1 ++ wsX1_multiplyLinear_r2) ++ wsX10 ++ wsX20 ++ wsX00)
def wsX1_divide_r1 : List Cond := [Cond.fieldLink RX1 25 "NumberFieldFactors$Ring" "quotient" "LNumberFieldFactors$Row;", Cond.fieldLink RX1 12 "NumberFieldFactors$Ring" "extension" "LNumberFieldFactors$Extension;", Cond.methodLink RX1 52 yX2_degree, Cond.instanceMethod yX2_degree, Cond.selects RX2 yX2_degree yX2_degree, Cond.initialized RX2, Cond.code yX2_degree cX2_degree 2 (some .int), Cond.fieldLink RX2 9 "NumberFieldFactors$Row" "elements" "[I", Cond.methodLink RX1 71 yX2_clear, Cond.instanceMethod yX2_clear, Cond.selects RX2 yX2_clear yX2_clear, Cond.code yX2_clear cX2_clear 2 none, Cond.methodLink RX1 60 yX2_get, Cond.instanceMethod yX2_get, Cond.selects RX2 yX2_get yX2_get, Cond.code yX2_get cX2_get 2 (some .int), Cond.methodLink RX1 67 yX2_set, Cond.instanceMethod yX2_set, Cond.selects RX2 yX2_set yX2_set, Cond.code yX2_set cX2_set 3 none, Cond.methodLink RX1 56 yX0_times, Cond.instanceMethod yX0_times, Cond.selects RX0 yX0_times yX0_times, Cond.initialized RX0]
def wsX1_divide_r2 : List Cond := [Cond.code yX0_times cX0_times 15 (some .int), Cond.fieldLink RX0 9 "NumberFieldFactors$Extension" "degree" "I", Cond.fieldLink RX0 21 "NumberFieldFactors$Extension" "low1" "I", Cond.fieldLink RX0 18 "NumberFieldFactors$Extension" "low0" "I", Cond.fieldLink RX0 24 "NumberFieldFactors$Extension" "low2" "I", Cond.methodLink RX1 78 yX0_minus, Cond.instanceMethod yX0_minus, Cond.selects RX0 yX0_minus yX0_minus, Cond.code yX0_minus cX0_minus 6 (some .int)]
def wsX1_divide : List Cond := .code yX1_divide cX1_divide 8 none :: ((wsX1_divide_r1 ++ wsX1_divide_r2) ++ wsX10 ++ wsX20 ++ wsX00)
def wsX1_makeMonic_r1 : List Cond := [Cond.fieldLink RX1 12 "NumberFieldFactors$Ring" "extension" "LNumberFieldFactors$Extension;", Cond.methodLink RX1 52 yX2_degree, Cond.instanceMethod yX2_degree, Cond.selects RX2 yX2_degree yX2_degree, Cond.initialized RX2, Cond.code yX2_degree cX2_degree 2 (some .int), Cond.fieldLink RX2 9 "NumberFieldFactors$Row" "elements" "[I", Cond.methodLink RX1 60 yX2_get, Cond.instanceMethod yX2_get, Cond.selects RX2 yX2_get yX2_get, Cond.code yX2_get cX2_get 2 (some .int), Cond.methodLink RX1 85 yX0_power, Cond.instanceMethod yX0_power, Cond.selects RX0 yX0_power yX0_power, Cond.initialized RX0, Cond.code yX0_power cX0_power 6 (some .int), Cond.methodLink RX0 45 yX0_times, Cond.instanceMethod yX0_times, Cond.selects RX0 yX0_times yX0_times, Cond.code yX0_times cX0_times 15 (some .int), Cond.fieldLink RX0 9 "NumberFieldFactors$Extension" "degree" "I", Cond.fieldLink RX0 21 "NumberFieldFactors$Extension" "low1" "I", Cond.fieldLink RX0 18 "NumberFieldFactors$Extension" "low0" "I", Cond.fieldLink RX0 24 "NumberFieldFactors$Extension" "low2" "I"]
def wsX1_makeMonic_r2 : List Cond := [Cond.methodLink RX1 56 yX0_times, Cond.methodLink RX1 67 yX2_set, Cond.instanceMethod yX2_set, Cond.selects RX2 yX2_set yX2_set, Cond.code yX2_set cX2_set 3 none]
def wsX1_makeMonic : List Cond := .code yX1_makeMonic cX1_makeMonic 6 none :: ((wsX1_makeMonic_r1 ++ wsX1_makeMonic_r2) ++ wsX10 ++ wsX00 ++ wsX20)
def wsX1_findCommon_r1 : List Cond := [Cond.fieldLink RX1 28 "NumberFieldFactors$Ring" "older" "LNumberFieldFactors$Row;", Cond.fieldLink RX1 31 "NumberFieldFactors$Ring" "newer" "LNumberFieldFactors$Row;", Cond.methodLink RX1 74 yX2_copy, Cond.instanceMethod yX2_copy, Cond.selects RX2 yX2_copy yX2_copy, Cond.initialized RX2, Cond.code yX2_copy cX2_copy 3 none, Cond.fieldLink RX2 9 "NumberFieldFactors$Row" "elements" "[I", Cond.methodLink RX2 15 yX2_get, Cond.instanceMethod yX2_get, Cond.selects RX2 yX2_get yX2_get, Cond.code yX2_get cX2_get 2 (some .int), Cond.methodLink RX1 52 yX2_degree, Cond.instanceMethod yX2_degree, Cond.selects RX2 yX2_degree yX2_degree, Cond.code yX2_degree cX2_degree 2 (some .int), Cond.methodLink RX1 88 yX1_makeMonic, Cond.instanceMethod yX1_makeMonic, Cond.selects RX1 yX1_makeMonic yX1_makeMonic, Cond.initialized RX1, Cond.code yX1_makeMonic cX1_makeMonic 6 none, Cond.fieldLink RX1 12 "NumberFieldFactors$Ring" "extension" "LNumberFieldFactors$Extension;", Cond.methodLink RX1 60 yX2_get, Cond.methodLink RX1 85 yX0_power]
def wsX1_findCommon_r2 : List Cond := [Cond.instanceMethod yX0_power, Cond.selects RX0 yX0_power yX0_power, Cond.initialized RX0, Cond.code yX0_power cX0_power 6 (some .int), Cond.methodLink RX0 45 yX0_times, Cond.instanceMethod yX0_times, Cond.selects RX0 yX0_times yX0_times, Cond.code yX0_times cX0_times 15 (some .int), Cond.fieldLink RX0 9 "NumberFieldFactors$Extension" "degree" "I", Cond.fieldLink RX0 21 "NumberFieldFactors$Extension" "low1" "I", Cond.fieldLink RX0 18 "NumberFieldFactors$Extension" "low0" "I", Cond.fieldLink RX0 24 "NumberFieldFactors$Extension" "low2" "I", Cond.methodLink RX1 56 yX0_times, Cond.methodLink RX1 67 yX2_set, Cond.instanceMethod yX2_set, Cond.selects RX2 yX2_set yX2_set, Cond.code yX2_set cX2_set 3 none, Cond.methodLink RX1 91 yX1_divide, Cond.instanceMethod yX1_divide, Cond.selects RX1 yX1_divide yX1_divide, Cond.code yX1_divide cX1_divide 8 none, Cond.fieldLink RX1 25 "NumberFieldFactors$Ring" "quotient" "LNumberFieldFactors$Row;", Cond.methodLink RX1 71 yX2_clear, Cond.instanceMethod yX2_clear]
def wsX1_findCommon_r3 : List Cond := [Cond.selects RX2 yX2_clear yX2_clear, Cond.code yX2_clear cX2_clear 2 none, Cond.methodLink RX1 78 yX0_minus, Cond.instanceMethod yX0_minus, Cond.selects RX0 yX0_minus yX0_minus, Cond.code yX0_minus cX0_minus 6 (some .int)]
def wsX1_findCommon : List Cond := .code yX1_findCommon cX1_findCommon 8 none :: ((wsX1_findCommon_r1 ++ (wsX1_findCommon_r2 ++ wsX1_findCommon_r3)) ++ wsX10 ++ wsX20 ++ wsX00)
def wsX1_findSquares_r1 : List Cond := [Cond.fieldLink RX1 34 "NumberFieldFactors$Ring" "derived" "LNumberFieldFactors$Row;", Cond.fieldLink RX1 12 "NumberFieldFactors$Ring" "extension" "LNumberFieldFactors$Extension;", Cond.methodLink RX1 71 yX2_clear, Cond.instanceMethod yX2_clear, Cond.selects RX2 yX2_clear yX2_clear, Cond.initialized RX2, Cond.code yX2_clear cX2_clear 2 none, Cond.fieldLink RX2 9 "NumberFieldFactors$Row" "elements" "[I", Cond.methodLink RX1 52 yX2_degree, Cond.instanceMethod yX2_degree, Cond.selects RX2 yX2_degree yX2_degree, Cond.code yX2_degree cX2_degree 2 (some .int), Cond.methodLink RX1 60 yX2_get, Cond.instanceMethod yX2_get, Cond.selects RX2 yX2_get yX2_get, Cond.code yX2_get cX2_get 2 (some .int), Cond.methodLink RX1 56 yX0_times, Cond.instanceMethod yX0_times, Cond.selects RX0 yX0_times yX0_times, Cond.initialized RX0, Cond.code yX0_times cX0_times 15 (some .int), Cond.fieldLink RX0 9 "NumberFieldFactors$Extension" "degree" "I", Cond.fieldLink RX0 21 "NumberFieldFactors$Extension" "low1" "I", Cond.fieldLink RX0 18 "NumberFieldFactors$Extension" "low0" "I"]
def wsX1_findSquares_r2 : List Cond := [Cond.fieldLink RX0 24 "NumberFieldFactors$Extension" "low2" "I", Cond.methodLink RX1 67 yX2_set, Cond.instanceMethod yX2_set, Cond.selects RX2 yX2_set yX2_set, Cond.code yX2_set cX2_set 3 none, Cond.methodLink RX1 95 yX1_findCommon, Cond.instanceMethod yX1_findCommon, Cond.selects RX1 yX1_findCommon yX1_findCommon, Cond.initialized RX1, Cond.code yX1_findCommon cX1_findCommon 8 none, Cond.fieldLink RX1 28 "NumberFieldFactors$Ring" "older" "LNumberFieldFactors$Row;", Cond.fieldLink RX1 31 "NumberFieldFactors$Ring" "newer" "LNumberFieldFactors$Row;", Cond.methodLink RX1 74 yX2_copy, Cond.instanceMethod yX2_copy, Cond.selects RX2 yX2_copy yX2_copy, Cond.code yX2_copy cX2_copy 3 none, Cond.methodLink RX2 15 yX2_get, Cond.methodLink RX1 88 yX1_makeMonic, Cond.instanceMethod yX1_makeMonic, Cond.selects RX1 yX1_makeMonic yX1_makeMonic, Cond.code yX1_makeMonic cX1_makeMonic 6 none, Cond.methodLink RX1 85 yX0_power, Cond.instanceMethod yX0_power, Cond.selects RX0 yX0_power yX0_power]
def wsX1_findSquares_r3 : List Cond := [Cond.code yX0_power cX0_power 6 (some .int), Cond.methodLink RX0 45 yX0_times, Cond.methodLink RX1 91 yX1_divide, Cond.instanceMethod yX1_divide, Cond.selects RX1 yX1_divide yX1_divide, Cond.code yX1_divide cX1_divide 8 none, Cond.fieldLink RX1 25 "NumberFieldFactors$Ring" "quotient" "LNumberFieldFactors$Row;", Cond.methodLink RX1 78 yX0_minus, Cond.instanceMethod yX0_minus, Cond.selects RX0 yX0_minus yX0_minus, Cond.code yX0_minus cX0_minus 6 (some .int)]
def wsX1_findSquares : List Cond := .code yX1_findSquares cX1_findSquares 4 none :: ((wsX1_findSquares_r1 ++ (wsX1_findSquares_r2 ++ wsX1_findSquares_r3)) ++ wsX10 ++ wsX20 ++ wsX00)
def wsX2_becomeOne : List Cond := .code yX2_becomeOne cX2_becomeOne 1 none :: ([.methodLink RX2 19 yX2_clear, .instanceMethod yX2_clear, .selects RX2 yX2_clear yX2_clear, .initialized RX2, .code yX2_clear cX2_clear 2 none, .fieldLink RX2 9 "NumberFieldFactors$Row" "elements" "[I", .methodLink RX2 22 yX2_set, .instanceMethod yX2_set, .selects RX2 yX2_set yX2_set, .code yX2_set cX2_set 3 none] ++ wsX20)
def wsX1_raiseLinear_r1 : List Cond := [Cond.methodLink RX1 99 yX2_becomeOne, Cond.instanceMethod yX2_becomeOne, Cond.selects RX2 yX2_becomeOne yX2_becomeOne, Cond.initialized RX2, Cond.code yX2_becomeOne cX2_becomeOne 1 none, Cond.methodLink RX2 19 yX2_clear, Cond.instanceMethod yX2_clear, Cond.selects RX2 yX2_clear yX2_clear, Cond.code yX2_clear cX2_clear 2 none, Cond.fieldLink RX2 9 "NumberFieldFactors$Row" "elements" "[I", Cond.methodLink RX2 22 yX2_set, Cond.instanceMethod yX2_set, Cond.selects RX2 yX2_set yX2_set, Cond.code yX2_set cX2_set 3 none, Cond.methodLink RX1 102 yX1_multiply, Cond.instanceMethod yX1_multiply, Cond.selects RX1 yX1_multiply yX1_multiply, Cond.initialized RX1, Cond.code yX1_multiply cX1_multiply 8 none, Cond.fieldLink RX1 21 "NumberFieldFactors$Ring" "wide" "LNumberFieldFactors$Row;", Cond.fieldLink RX1 12 "NumberFieldFactors$Ring" "extension" "LNumberFieldFactors$Extension;", Cond.methodLink RX1 52 yX2_degree, Cond.instanceMethod yX2_degree, Cond.selects RX2 yX2_degree yX2_degree]
def wsX1_raiseLinear_r2 : List Cond := [Cond.code yX2_degree cX2_degree 2 (some .int), Cond.methodLink RX1 71 yX2_clear, Cond.methodLink RX1 60 yX2_get, Cond.instanceMethod yX2_get, Cond.selects RX2 yX2_get yX2_get, Cond.code yX2_get cX2_get 2 (some .int), Cond.methodLink RX1 56 yX0_times, Cond.instanceMethod yX0_times, Cond.selects RX0 yX0_times yX0_times, Cond.initialized RX0, Cond.code yX0_times cX0_times 15 (some .int), Cond.fieldLink RX0 9 "NumberFieldFactors$Extension" "degree" "I", Cond.fieldLink RX0 21 "NumberFieldFactors$Extension" "low1" "I", Cond.fieldLink RX0 18 "NumberFieldFactors$Extension" "low0" "I", Cond.fieldLink RX0 24 "NumberFieldFactors$Extension" "low2" "I", Cond.methodLink RX1 64 yX0_plus, Cond.instanceMethod yX0_plus, Cond.selects RX0 yX0_plus yX0_plus, Cond.code yX0_plus cX0_plus 6 (some .int), Cond.methodLink RX1 67 yX2_set, Cond.methodLink RX1 74 yX2_copy, Cond.instanceMethod yX2_copy, Cond.selects RX2 yX2_copy yX2_copy, Cond.code yX2_copy cX2_copy 3 none]
def wsX1_raiseLinear_r3 : List Cond := [Cond.methodLink RX2 15 yX2_get, Cond.methodLink RX1 105 yX1_multiplyLinear, Cond.instanceMethod yX1_multiplyLinear, Cond.selects RX1 yX1_multiplyLinear yX1_multiplyLinear, Cond.code yX1_multiplyLinear cX1_multiplyLinear 4 none, Cond.methodLink RX1 91 yX1_divide, Cond.instanceMethod yX1_divide, Cond.selects RX1 yX1_divide yX1_divide, Cond.code yX1_divide cX1_divide 8 none, Cond.fieldLink RX1 25 "NumberFieldFactors$Ring" "quotient" "LNumberFieldFactors$Row;", Cond.methodLink RX1 78 yX0_minus, Cond.instanceMethod yX0_minus, Cond.selects RX0 yX0_minus yX0_minus, Cond.code yX0_minus cX0_minus 6 (some .int)]
def wsX1_raiseLinear : List Cond := .code yX1_raiseLinear cX1_raiseLinear 7 none :: ((wsX1_raiseLinear_r1 ++ (wsX1_raiseLinear_r2 ++ wsX1_raiseLinear_r3)) ++ wsX20 ++ wsX10 ++ wsX00)
def wsX1_normOf_r1 : List Cond := [Cond.fieldLink RX1 40 "NumberFieldFactors$Ring" "product" "LNumberFieldFactors$Row;", Cond.fieldLink RX1 37 "NumberFieldFactors$Ring" "mates" "LNumberFieldFactors$Row;", Cond.fieldLink RX1 12 "NumberFieldFactors$Ring" "extension" "LNumberFieldFactors$Extension;", Cond.methodLink RX1 74 yX2_copy, Cond.instanceMethod yX2_copy, Cond.selects RX2 yX2_copy yX2_copy, Cond.initialized RX2, Cond.code yX2_copy cX2_copy 3 none, Cond.fieldLink RX2 9 "NumberFieldFactors$Row" "elements" "[I", Cond.methodLink RX2 15 yX2_get, Cond.instanceMethod yX2_get, Cond.selects RX2 yX2_get yX2_get, Cond.code yX2_get cX2_get 2 (some .int), Cond.methodLink RX1 52 yX2_degree, Cond.instanceMethod yX2_degree, Cond.selects RX2 yX2_degree yX2_degree, Cond.code yX2_degree cX2_degree 2 (some .int), Cond.methodLink RX1 60 yX2_get, Cond.methodLink RX1 111 yX0_mate, Cond.instanceMethod yX0_mate, Cond.selects RX0 yX0_mate yX0_mate, Cond.initialized RX0, Cond.code yX0_mate cX0_mate 4 (some .int), Cond.fieldLink RX0 33 "NumberFieldFactors$Extension" "mateOfTSquared" "I"]
def wsX1_normOf_r2 : List Cond := [Cond.fieldLink RX0 30 "NumberFieldFactors$Extension" "mateOfT" "I", Cond.methodLink RX0 45 yX0_times, Cond.instanceMethod yX0_times, Cond.selects RX0 yX0_times yX0_times, Cond.code yX0_times cX0_times 15 (some .int), Cond.fieldLink RX0 9 "NumberFieldFactors$Extension" "degree" "I", Cond.fieldLink RX0 21 "NumberFieldFactors$Extension" "low1" "I", Cond.fieldLink RX0 18 "NumberFieldFactors$Extension" "low0" "I", Cond.fieldLink RX0 24 "NumberFieldFactors$Extension" "low2" "I", Cond.methodLink RX0 48 yX0_plus, Cond.instanceMethod yX0_plus, Cond.selects RX0 yX0_plus yX0_plus, Cond.code yX0_plus cX0_plus 6 (some .int), Cond.methodLink RX1 67 yX2_set, Cond.instanceMethod yX2_set, Cond.selects RX2 yX2_set yX2_set, Cond.code yX2_set cX2_set 3 none, Cond.methodLink RX1 102 yX1_multiply, Cond.instanceMethod yX1_multiply, Cond.selects RX1 yX1_multiply yX1_multiply, Cond.initialized RX1, Cond.code yX1_multiply cX1_multiply 8 none, Cond.fieldLink RX1 21 "NumberFieldFactors$Ring" "wide" "LNumberFieldFactors$Row;", Cond.methodLink RX1 71 yX2_clear]
def wsX1_normOf_r3 : List Cond := [Cond.instanceMethod yX2_clear, Cond.selects RX2 yX2_clear yX2_clear, Cond.code yX2_clear cX2_clear 2 none, Cond.methodLink RX1 56 yX0_times, Cond.methodLink RX1 64 yX0_plus]
def wsX1_normOf : List Cond := .code yX1_normOf cX1_normOf 5 (some (.object "NumberFieldFactors$Row")) :: ((wsX1_normOf_r1 ++ (wsX1_normOf_r2 ++ wsX1_normOf_r3)) ++ wsX10 ++ wsX00 ++ wsX20)
def wsX1_leastPolynomial_r1 : List Cond := [Cond.fieldLink RX1 12 "NumberFieldFactors$Ring" "extension" "LNumberFieldFactors$Extension;", Cond.fieldLink RX1 46 "NumberFieldFactors$Ring" "least" "LNumberFieldFactors$Row;", Cond.methodLink RX1 114 yX0_differentMates, Cond.instanceMethod yX0_differentMates, Cond.selects RX0 yX0_differentMates yX0_differentMates, Cond.initialized RX0, Cond.code yX0_differentMates cX0_differentMates 2 (some .int), Cond.fieldLink RX0 9 "NumberFieldFactors$Extension" "degree" "I", Cond.methodLink RX0 51 yX0_mate, Cond.instanceMethod yX0_mate, Cond.selects RX0 yX0_mate yX0_mate, Cond.code yX0_mate cX0_mate 4 (some .int), Cond.fieldLink RX0 33 "NumberFieldFactors$Extension" "mateOfTSquared" "I", Cond.fieldLink RX0 30 "NumberFieldFactors$Extension" "mateOfT" "I", Cond.methodLink RX0 45 yX0_times, Cond.instanceMethod yX0_times, Cond.selects RX0 yX0_times yX0_times, Cond.code yX0_times cX0_times 15 (some .int), Cond.fieldLink RX0 21 "NumberFieldFactors$Extension" "low1" "I", Cond.fieldLink RX0 18 "NumberFieldFactors$Extension" "low0" "I", Cond.fieldLink RX0 24 "NumberFieldFactors$Extension" "low2" "I", Cond.methodLink RX0 48 yX0_plus, Cond.instanceMethod yX0_plus, Cond.selects RX0 yX0_plus yX0_plus]
def wsX1_leastPolynomial_r2 : List Cond := [Cond.code yX0_plus cX0_plus 6 (some .int), Cond.methodLink RX1 99 yX2_becomeOne, Cond.instanceMethod yX2_becomeOne, Cond.selects RX2 yX2_becomeOne yX2_becomeOne, Cond.initialized RX2, Cond.code yX2_becomeOne cX2_becomeOne 1 none, Cond.methodLink RX2 19 yX2_clear, Cond.instanceMethod yX2_clear, Cond.selects RX2 yX2_clear yX2_clear, Cond.code yX2_clear cX2_clear 2 none, Cond.fieldLink RX2 9 "NumberFieldFactors$Row" "elements" "[I", Cond.methodLink RX2 22 yX2_set, Cond.instanceMethod yX2_set, Cond.selects RX2 yX2_set yX2_set, Cond.code yX2_set cX2_set 3 none, Cond.methodLink RX1 78 yX0_minus, Cond.instanceMethod yX0_minus, Cond.selects RX0 yX0_minus yX0_minus, Cond.code yX0_minus cX0_minus 6 (some .int), Cond.methodLink RX1 105 yX1_multiplyLinear, Cond.instanceMethod yX1_multiplyLinear, Cond.selects RX1 yX1_multiplyLinear yX1_multiplyLinear, Cond.initialized RX1, Cond.code yX1_multiplyLinear cX1_multiplyLinear 4 none]
def wsX1_leastPolynomial_r3 : List Cond := [Cond.methodLink RX1 52 yX2_degree, Cond.instanceMethod yX2_degree, Cond.selects RX2 yX2_degree yX2_degree, Cond.code yX2_degree cX2_degree 2 (some .int), Cond.methodLink RX1 60 yX2_get, Cond.instanceMethod yX2_get, Cond.selects RX2 yX2_get yX2_get, Cond.code yX2_get cX2_get 2 (some .int), Cond.methodLink RX1 56 yX0_times, Cond.methodLink RX1 64 yX0_plus, Cond.methodLink RX1 67 yX2_set, Cond.methodLink RX1 111 yX0_mate]
def wsX1_leastPolynomial : List Cond := .code yX1_leastPolynomial cX1_leastPolynomial 5 (some (.object "NumberFieldFactors$Row")) :: ((wsX1_leastPolynomial_r1 ++ (wsX1_leastPolynomial_r2 ++ wsX1_leastPolynomial_r3)) ++ wsX10 ++ wsX00 ++ wsX20)
def wsX1_leastShift_r1 : List Cond := [Cond.fieldLink RX1 43 "NumberFieldFactors$Ring" "moved" "LNumberFieldFactors$Row;", Cond.fieldLink RX1 12 "NumberFieldFactors$Ring" "extension" "LNumberFieldFactors$Extension;", Cond.fieldLink RX1 49 "NumberFieldFactors$Ring" "common" "LNumberFieldFactors$Row;", Cond.methodLink RX1 74 yX2_copy, Cond.instanceMethod yX2_copy, Cond.selects RX2 yX2_copy yX2_copy, Cond.initialized RX2, Cond.code yX2_copy cX2_copy 3 none, Cond.fieldLink RX2 9 "NumberFieldFactors$Row" "elements" "[I", Cond.methodLink RX2 15 yX2_get, Cond.instanceMethod yX2_get, Cond.selects RX2 yX2_get yX2_get, Cond.code yX2_get cX2_get 2 (some .int), Cond.methodLink RX1 56 yX0_times, Cond.instanceMethod yX0_times, Cond.selects RX0 yX0_times yX0_times, Cond.initialized RX0, Cond.code yX0_times cX0_times 15 (some .int), Cond.fieldLink RX0 9 "NumberFieldFactors$Extension" "degree" "I", Cond.fieldLink RX0 21 "NumberFieldFactors$Extension" "low1" "I", Cond.fieldLink RX0 18 "NumberFieldFactors$Extension" "low0" "I", Cond.fieldLink RX0 24 "NumberFieldFactors$Extension" "low2" "I", Cond.methodLink RX1 78 yX0_minus, Cond.instanceMethod yX0_minus]
def wsX1_leastShift_r2 : List Cond := [Cond.selects RX0 yX0_minus yX0_minus, Cond.code yX0_minus cX0_minus 6 (some .int), Cond.methodLink RX1 120 yX1_displace, Cond.instanceMethod yX1_displace, Cond.selects RX1 yX1_displace yX1_displace, Cond.initialized RX1, Cond.code yX1_displace cX1_displace 6 none, Cond.methodLink RX1 52 yX2_degree, Cond.instanceMethod yX2_degree, Cond.selects RX2 yX2_degree yX2_degree, Cond.code yX2_degree cX2_degree 2 (some .int), Cond.methodLink RX1 60 yX2_get, Cond.methodLink RX1 64 yX0_plus, Cond.instanceMethod yX0_plus, Cond.selects RX0 yX0_plus yX0_plus, Cond.code yX0_plus cX0_plus 6 (some .int), Cond.methodLink RX1 67 yX2_set, Cond.instanceMethod yX2_set, Cond.selects RX2 yX2_set yX2_set, Cond.code yX2_set cX2_set 3 none, Cond.methodLink RX1 123 yX1_normOf, Cond.instanceMethod yX1_normOf, Cond.selects RX1 yX1_normOf yX1_normOf, Cond.code yX1_normOf cX1_normOf 5 (some (.object "NumberFieldFactors$Row"))]
def wsX1_leastShift_r3 : List Cond := [Cond.fieldLink RX1 40 "NumberFieldFactors$Ring" "product" "LNumberFieldFactors$Row;", Cond.fieldLink RX1 37 "NumberFieldFactors$Ring" "mates" "LNumberFieldFactors$Row;", Cond.methodLink RX1 111 yX0_mate, Cond.instanceMethod yX0_mate, Cond.selects RX0 yX0_mate yX0_mate, Cond.code yX0_mate cX0_mate 4 (some .int), Cond.fieldLink RX0 33 "NumberFieldFactors$Extension" "mateOfTSquared" "I", Cond.fieldLink RX0 30 "NumberFieldFactors$Extension" "mateOfT" "I", Cond.methodLink RX0 45 yX0_times, Cond.methodLink RX0 48 yX0_plus, Cond.methodLink RX1 102 yX1_multiply, Cond.instanceMethod yX1_multiply, Cond.selects RX1 yX1_multiply yX1_multiply, Cond.code yX1_multiply cX1_multiply 8 none, Cond.fieldLink RX1 21 "NumberFieldFactors$Ring" "wide" "LNumberFieldFactors$Row;", Cond.methodLink RX1 71 yX2_clear, Cond.instanceMethod yX2_clear, Cond.selects RX2 yX2_clear yX2_clear, Cond.code yX2_clear cX2_clear 2 none, Cond.methodLink RX1 127 yX1_findSquares, Cond.instanceMethod yX1_findSquares, Cond.selects RX1 yX1_findSquares yX1_findSquares, Cond.code yX1_findSquares cX1_findSquares 4 none, Cond.fieldLink RX1 34 "NumberFieldFactors$Ring" "derived" "LNumberFieldFactors$Row;"]
def wsX1_leastShift_r4 : List Cond := [Cond.methodLink RX1 95 yX1_findCommon, Cond.instanceMethod yX1_findCommon, Cond.selects RX1 yX1_findCommon yX1_findCommon, Cond.code yX1_findCommon cX1_findCommon 8 none, Cond.fieldLink RX1 28 "NumberFieldFactors$Ring" "older" "LNumberFieldFactors$Row;", Cond.fieldLink RX1 31 "NumberFieldFactors$Ring" "newer" "LNumberFieldFactors$Row;", Cond.methodLink RX1 88 yX1_makeMonic, Cond.instanceMethod yX1_makeMonic, Cond.selects RX1 yX1_makeMonic yX1_makeMonic, Cond.code yX1_makeMonic cX1_makeMonic 6 none, Cond.methodLink RX1 85 yX0_power, Cond.instanceMethod yX0_power, Cond.selects RX0 yX0_power yX0_power, Cond.code yX0_power cX0_power 6 (some .int), Cond.methodLink RX1 91 yX1_divide, Cond.instanceMethod yX1_divide, Cond.selects RX1 yX1_divide yX1_divide, Cond.code yX1_divide cX1_divide 8 none, Cond.fieldLink RX1 25 "NumberFieldFactors$Ring" "quotient" "LNumberFieldFactors$Row;"]
def wsX1_leastShift : List Cond := .code yX1_leastShift cX1_leastShift 3 (some .int) :: ((wsX1_leastShift_r1 ++ (wsX1_leastShift_r2 ++ (wsX1_leastShift_r3 ++ wsX1_leastShift_r4))) ++ wsX10 ++ wsX00 ++ wsX20)
def wsX2_isBefore : List Cond := .code yX2_isBefore cX2_isBefore 5 (some .boolean) :: ([.methodLink RX2 26 yX2_degree, .instanceMethod yX2_degree, .selects RX2 yX2_degree yX2_degree, .initialized RX2, .code yX2_degree cX2_degree 2 (some .int), .fieldLink RX2 9 "NumberFieldFactors$Row" "elements" "[I", .methodLink RX2 15 yX2_get, .instanceMethod yX2_get, .selects RX2 yX2_get yX2_get, .code yX2_get cX2_get 2 (some .int)] ++ wsX20)
def wsX3_init : List Cond := .code yX3_init cX3_init 2 none :: ([.methodLink RX3 3 objectInit, .instanceMethod objectInit, .code objectInit ⟨#[0xb1]⟩ 1 none, .classLink RX3 9 RX2, .fieldLink RX3 11 "NumberFieldFactors$Splitter" "parts" "[LNumberFieldFactors$Row;", .arrayClass .int, .fieldLink RX3 17 "NumberFieldFactors$Splitter" "counts" "[I", .fieldLink RX3 21 "NumberFieldFactors$Splitter" "count" "I", .fieldLink RX3 25 "NumberFieldFactors$Splitter" "found" "Z", .instantiable RX2 1, .initialized RX2, .fieldLink RX3 30 "NumberFieldFactors$Splitter" "root" "LNumberFieldFactors$Row;", .fieldLink RX3 34 "NumberFieldFactors$Splitter" "rest" "LNumberFieldFactors$Row;", .fieldLink RX3 37 "NumberFieldFactors$Splitter" "power" "LNumberFieldFactors$Row;", .fieldLink RX3 40 "NumberFieldFactors$Splitter" "shared" "LNumberFieldFactors$Row;", .instanceMethod yX2_init, .code yX2_init cX2_init 1 none, .methodLink RX2 3 objectInit, .fieldLink RX2 9 "NumberFieldFactors$Row" "elements" "[I"] ++ wsX30 ++ wsX20)
def wsX3_forget : List Cond := .code yX3_forget cX3_forget 1 none :: ([.fieldLink RX3 25 "NumberFieldFactors$Splitter" "found" "Z"] ++ wsX30)
def wsX3_part : List Cond := .code yX3_part cX3_part 2 (some (.object "NumberFieldFactors$Row")) :: ([.fieldLink RX3 11 "NumberFieldFactors$Splitter" "parts" "[LNumberFieldFactors$Row;", .fieldLink RX3 30 "NumberFieldFactors$Splitter" "root" "LNumberFieldFactors$Row;"] ++ wsX30)
def wsX3_timesOf : List Cond := .code yX3_timesOf cX3_timesOf 2 (some .int) :: ([.fieldLink RX3 17 "NumberFieldFactors$Splitter" "counts" "[I"] ++ wsX30)
def wsX3_commonDegree : List Cond := .code yX3_commonDegree cX3_commonDegree 5 (some .int) :: ([.fieldLink RX3 21 "NumberFieldFactors$Splitter" "count" "I", .methodLink RX3 43 yX3_part, .instanceMethod yX3_part, .selects RX3 yX3_part yX3_part, .initialized RX3, .code yX3_part cX3_part 2 (some (.object "NumberFieldFactors$Row")), .fieldLink RX3 11 "NumberFieldFactors$Splitter" "parts" "[LNumberFieldFactors$Row;", .fieldLink RX3 30 "NumberFieldFactors$Splitter" "root" "LNumberFieldFactors$Row;", .methodLink RX3 47 yX2_degree, .instanceMethod yX2_degree, .selects RX2 yX2_degree yX2_degree, .initialized RX2, .code yX2_degree cX2_degree 2 (some .int), .fieldLink RX2 9 "NumberFieldFactors$Row" "elements" "[I"] ++ wsX30 ++ wsX20)
def wsX3_keepRoot_r1 : List Cond := [Cond.fieldLink RX3 30 "NumberFieldFactors$Splitter" "root" "LNumberFieldFactors$Row;", Cond.fieldLink RX3 40 "NumberFieldFactors$Splitter" "shared" "LNumberFieldFactors$Row;", Cond.methodLink RX3 61 yX2_copy, Cond.instanceMethod yX2_copy, Cond.selects RX2 yX2_copy yX2_copy, Cond.initialized RX2, Cond.code yX2_copy cX2_copy 3 none, Cond.fieldLink RX2 9 "NumberFieldFactors$Row" "elements" "[I", Cond.methodLink RX2 15 yX2_get, Cond.instanceMethod yX2_get, Cond.selects RX2 yX2_get yX2_get, Cond.code yX2_get cX2_get 2 (some .int), Cond.methodLink RX3 82 yX1_divide, Cond.instanceMethod yX1_divide, Cond.selects RX1 yX1_divide yX1_divide, Cond.initialized RX1, Cond.code yX1_divide cX1_divide 8 none, Cond.fieldLink RX1 25 "NumberFieldFactors$Ring" "quotient" "LNumberFieldFactors$Row;", Cond.fieldLink RX1 12 "NumberFieldFactors$Ring" "extension" "LNumberFieldFactors$Extension;", Cond.methodLink RX1 52 yX2_degree, Cond.instanceMethod yX2_degree, Cond.selects RX2 yX2_degree yX2_degree, Cond.code yX2_degree cX2_degree 2 (some .int), Cond.methodLink RX1 71 yX2_clear]
def wsX3_keepRoot_r2 : List Cond := [Cond.instanceMethod yX2_clear, Cond.selects RX2 yX2_clear yX2_clear, Cond.code yX2_clear cX2_clear 2 none, Cond.methodLink RX1 60 yX2_get, Cond.methodLink RX1 67 yX2_set, Cond.instanceMethod yX2_set, Cond.selects RX2 yX2_set yX2_set, Cond.code yX2_set cX2_set 3 none, Cond.methodLink RX1 56 yX0_times, Cond.instanceMethod yX0_times, Cond.selects RX0 yX0_times yX0_times, Cond.initialized RX0, Cond.code yX0_times cX0_times 15 (some .int), Cond.fieldLink RX0 9 "NumberFieldFactors$Extension" "degree" "I", Cond.fieldLink RX0 21 "NumberFieldFactors$Extension" "low1" "I", Cond.fieldLink RX0 18 "NumberFieldFactors$Extension" "low0" "I", Cond.fieldLink RX0 24 "NumberFieldFactors$Extension" "low2" "I", Cond.methodLink RX1 78 yX0_minus, Cond.instanceMethod yX0_minus, Cond.selects RX0 yX0_minus yX0_minus, Cond.code yX0_minus cX0_minus 6 (some .int), Cond.methodLink RX3 88 yX1_makeMonic, Cond.instanceMethod yX1_makeMonic, Cond.selects RX1 yX1_makeMonic yX1_makeMonic]
def wsX3_keepRoot_r3 : List Cond := [Cond.code yX1_makeMonic cX1_makeMonic 6 none, Cond.methodLink RX1 85 yX0_power, Cond.instanceMethod yX0_power, Cond.selects RX0 yX0_power yX0_power, Cond.code yX0_power cX0_power 6 (some .int), Cond.methodLink RX0 45 yX0_times]
def wsX3_keepRoot : List Cond := .code yX3_keepRoot cX3_keepRoot 3 none :: ((wsX3_keepRoot_r1 ++ (wsX3_keepRoot_r2 ++ wsX3_keepRoot_r3)) ++ wsX30 ++ wsX10 ++ wsX20 ++ wsX00)
def wsX3_sizeToThe : List Cond := .code yX3_sizeToThe cX3_sizeToThe 4 (some .long) :: ([] ++ wsX10 ++ wsX00)
def wsX3_add : List Cond := .code yX3_add cX3_add 2 none :: ([.fieldLink RX3 21 "NumberFieldFactors$Splitter" "count" "I", .fieldLink RX3 11 "NumberFieldFactors$Splitter" "parts" "[LNumberFieldFactors$Row;", .methodLink RX3 61 yX2_copy, .instanceMethod yX2_copy, .selects RX2 yX2_copy yX2_copy, .initialized RX2, .code yX2_copy cX2_copy 3 none, .fieldLink RX2 9 "NumberFieldFactors$Row" "elements" "[I", .methodLink RX2 15 yX2_get, .instanceMethod yX2_get, .selects RX2 yX2_get yX2_get, .code yX2_get cX2_get 2 (some .int)] ++ wsX30 ++ wsX20)
def wsX3_collect_r1 : List Cond := [Cond.fieldLink RX3 34 "NumberFieldFactors$Splitter" "rest" "LNumberFieldFactors$Row;", Cond.fieldLink RX3 37 "NumberFieldFactors$Splitter" "power" "LNumberFieldFactors$Row;", Cond.fieldLink RX3 40 "NumberFieldFactors$Splitter" "shared" "LNumberFieldFactors$Row;", Cond.methodLink RX3 100 yX3_sizeToThe, Cond.static yX3_sizeToThe, Cond.initialized RX3, Cond.code yX3_sizeToThe cX3_sizeToThe 4 (some .long), Cond.methodLink RX3 104 yX1_raiseLinear, Cond.instanceMethod yX1_raiseLinear, Cond.selects RX1 yX1_raiseLinear yX1_raiseLinear, Cond.initialized RX1, Cond.code yX1_raiseLinear cX1_raiseLinear 7 none, Cond.methodLink RX1 99 yX2_becomeOne, Cond.instanceMethod yX2_becomeOne, Cond.selects RX2 yX2_becomeOne yX2_becomeOne, Cond.initialized RX2, Cond.code yX2_becomeOne cX2_becomeOne 1 none, Cond.methodLink RX2 19 yX2_clear, Cond.instanceMethod yX2_clear, Cond.selects RX2 yX2_clear yX2_clear, Cond.code yX2_clear cX2_clear 2 none, Cond.fieldLink RX2 9 "NumberFieldFactors$Row" "elements" "[I", Cond.methodLink RX2 22 yX2_set, Cond.instanceMethod yX2_set]
def wsX3_collect_r2 : List Cond := [Cond.selects RX2 yX2_set yX2_set, Cond.code yX2_set cX2_set 3 none, Cond.methodLink RX1 102 yX1_multiply, Cond.instanceMethod yX1_multiply, Cond.selects RX1 yX1_multiply yX1_multiply, Cond.code yX1_multiply cX1_multiply 8 none, Cond.fieldLink RX1 21 "NumberFieldFactors$Ring" "wide" "LNumberFieldFactors$Row;", Cond.fieldLink RX1 12 "NumberFieldFactors$Ring" "extension" "LNumberFieldFactors$Extension;", Cond.methodLink RX1 52 yX2_degree, Cond.instanceMethod yX2_degree, Cond.selects RX2 yX2_degree yX2_degree, Cond.code yX2_degree cX2_degree 2 (some .int), Cond.methodLink RX1 71 yX2_clear, Cond.methodLink RX1 60 yX2_get, Cond.instanceMethod yX2_get, Cond.selects RX2 yX2_get yX2_get, Cond.code yX2_get cX2_get 2 (some .int), Cond.methodLink RX1 56 yX0_times, Cond.instanceMethod yX0_times, Cond.selects RX0 yX0_times yX0_times, Cond.initialized RX0, Cond.code yX0_times cX0_times 15 (some .int), Cond.fieldLink RX0 9 "NumberFieldFactors$Extension" "degree" "I", Cond.fieldLink RX0 21 "NumberFieldFactors$Extension" "low1" "I"]
def wsX3_collect_r3 : List Cond := [Cond.fieldLink RX0 18 "NumberFieldFactors$Extension" "low0" "I", Cond.fieldLink RX0 24 "NumberFieldFactors$Extension" "low2" "I", Cond.methodLink RX1 64 yX0_plus, Cond.instanceMethod yX0_plus, Cond.selects RX0 yX0_plus yX0_plus, Cond.code yX0_plus cX0_plus 6 (some .int), Cond.methodLink RX1 67 yX2_set, Cond.methodLink RX1 74 yX2_copy, Cond.instanceMethod yX2_copy, Cond.selects RX2 yX2_copy yX2_copy, Cond.code yX2_copy cX2_copy 3 none, Cond.methodLink RX2 15 yX2_get, Cond.methodLink RX1 105 yX1_multiplyLinear, Cond.instanceMethod yX1_multiplyLinear, Cond.selects RX1 yX1_multiplyLinear yX1_multiplyLinear, Cond.code yX1_multiplyLinear cX1_multiplyLinear 4 none, Cond.methodLink RX1 91 yX1_divide, Cond.instanceMethod yX1_divide, Cond.selects RX1 yX1_divide yX1_divide, Cond.code yX1_divide cX1_divide 8 none, Cond.fieldLink RX1 25 "NumberFieldFactors$Ring" "quotient" "LNumberFieldFactors$Row;", Cond.methodLink RX1 78 yX0_minus, Cond.instanceMethod yX0_minus, Cond.selects RX0 yX0_minus yX0_minus]
def wsX3_collect_r4 : List Cond := [Cond.code yX0_minus cX0_minus 6 (some .int), Cond.methodLink RX3 108 yX2_get, Cond.methodLink RX3 112 yX0_minus, Cond.methodLink RX3 116 yX2_set, Cond.methodLink RX3 120 yX1_findCommon, Cond.instanceMethod yX1_findCommon, Cond.selects RX1 yX1_findCommon yX1_findCommon, Cond.code yX1_findCommon cX1_findCommon 8 none, Cond.fieldLink RX1 28 "NumberFieldFactors$Ring" "older" "LNumberFieldFactors$Row;", Cond.fieldLink RX1 31 "NumberFieldFactors$Ring" "newer" "LNumberFieldFactors$Row;", Cond.methodLink RX1 88 yX1_makeMonic, Cond.instanceMethod yX1_makeMonic, Cond.selects RX1 yX1_makeMonic yX1_makeMonic, Cond.code yX1_makeMonic cX1_makeMonic 6 none, Cond.methodLink RX1 85 yX0_power, Cond.instanceMethod yX0_power, Cond.selects RX0 yX0_power yX0_power, Cond.code yX0_power cX0_power 6 (some .int), Cond.methodLink RX0 45 yX0_times, Cond.methodLink RX3 47 yX2_degree, Cond.methodLink RX3 73 yX3_add, Cond.instanceMethod yX3_add, Cond.selects RX3 yX3_add yX3_add, Cond.code yX3_add cX3_add 2 none]
def wsX3_collect_r5 : List Cond := [Cond.fieldLink RX3 21 "NumberFieldFactors$Splitter" "count" "I", Cond.fieldLink RX3 11 "NumberFieldFactors$Splitter" "parts" "[LNumberFieldFactors$Row;", Cond.methodLink RX3 61 yX2_copy, Cond.methodLink RX3 82 yX1_divide]
def wsX3_collect : List Cond := .code yX3_collect cX3_collect 3 none :: ((wsX3_collect_r1 ++ (wsX3_collect_r2 ++ (wsX3_collect_r3 ++ (wsX3_collect_r4 ++ wsX3_collect_r5)))) ++ wsX30 ++ wsX10 ++ wsX00 ++ wsX20)
def wsX3_separate_r1 : List Cond := [Cond.constantLong RX3 124 (2), Cond.fieldLink RX3 21 "NumberFieldFactors$Splitter" "count" "I", Cond.fieldLink RX3 37 "NumberFieldFactors$Splitter" "power" "LNumberFieldFactors$Row;", Cond.fieldLink RX3 40 "NumberFieldFactors$Splitter" "shared" "LNumberFieldFactors$Row;", Cond.methodLink RX3 100 yX3_sizeToThe, Cond.static yX3_sizeToThe, Cond.initialized RX3, Cond.code yX3_sizeToThe cX3_sizeToThe 4 (some .long), Cond.methodLink RX3 43 yX3_part, Cond.instanceMethod yX3_part, Cond.selects RX3 yX3_part yX3_part, Cond.code yX3_part cX3_part 2 (some (.object "NumberFieldFactors$Row")), Cond.fieldLink RX3 11 "NumberFieldFactors$Splitter" "parts" "[LNumberFieldFactors$Row;", Cond.fieldLink RX3 30 "NumberFieldFactors$Splitter" "root" "LNumberFieldFactors$Row;", Cond.methodLink RX3 47 yX2_degree, Cond.instanceMethod yX2_degree, Cond.selects RX2 yX2_degree yX2_degree, Cond.initialized RX2, Cond.code yX2_degree cX2_degree 2 (some .int), Cond.fieldLink RX2 9 "NumberFieldFactors$Row" "elements" "[I", Cond.methodLink RX3 104 yX1_raiseLinear, Cond.instanceMethod yX1_raiseLinear, Cond.selects RX1 yX1_raiseLinear yX1_raiseLinear, Cond.initialized RX1]
def wsX3_separate_r2 : List Cond := [Cond.code yX1_raiseLinear cX1_raiseLinear 7 none, Cond.methodLink RX1 99 yX2_becomeOne, Cond.instanceMethod yX2_becomeOne, Cond.selects RX2 yX2_becomeOne yX2_becomeOne, Cond.code yX2_becomeOne cX2_becomeOne 1 none, Cond.methodLink RX2 19 yX2_clear, Cond.instanceMethod yX2_clear, Cond.selects RX2 yX2_clear yX2_clear, Cond.code yX2_clear cX2_clear 2 none, Cond.methodLink RX2 22 yX2_set, Cond.instanceMethod yX2_set, Cond.selects RX2 yX2_set yX2_set, Cond.code yX2_set cX2_set 3 none, Cond.methodLink RX1 102 yX1_multiply, Cond.instanceMethod yX1_multiply, Cond.selects RX1 yX1_multiply yX1_multiply, Cond.code yX1_multiply cX1_multiply 8 none, Cond.fieldLink RX1 21 "NumberFieldFactors$Ring" "wide" "LNumberFieldFactors$Row;", Cond.fieldLink RX1 12 "NumberFieldFactors$Ring" "extension" "LNumberFieldFactors$Extension;", Cond.methodLink RX1 52 yX2_degree, Cond.methodLink RX1 71 yX2_clear, Cond.methodLink RX1 60 yX2_get, Cond.instanceMethod yX2_get, Cond.selects RX2 yX2_get yX2_get]
def wsX3_separate_r3 : List Cond := [Cond.code yX2_get cX2_get 2 (some .int), Cond.methodLink RX1 56 yX0_times, Cond.instanceMethod yX0_times, Cond.selects RX0 yX0_times yX0_times, Cond.initialized RX0, Cond.code yX0_times cX0_times 15 (some .int), Cond.fieldLink RX0 9 "NumberFieldFactors$Extension" "degree" "I", Cond.fieldLink RX0 21 "NumberFieldFactors$Extension" "low1" "I", Cond.fieldLink RX0 18 "NumberFieldFactors$Extension" "low0" "I", Cond.fieldLink RX0 24 "NumberFieldFactors$Extension" "low2" "I", Cond.methodLink RX1 64 yX0_plus, Cond.instanceMethod yX0_plus, Cond.selects RX0 yX0_plus yX0_plus, Cond.code yX0_plus cX0_plus 6 (some .int), Cond.methodLink RX1 67 yX2_set, Cond.methodLink RX1 74 yX2_copy, Cond.instanceMethod yX2_copy, Cond.selects RX2 yX2_copy yX2_copy, Cond.code yX2_copy cX2_copy 3 none, Cond.methodLink RX2 15 yX2_get, Cond.methodLink RX1 105 yX1_multiplyLinear, Cond.instanceMethod yX1_multiplyLinear, Cond.selects RX1 yX1_multiplyLinear yX1_multiplyLinear, Cond.code yX1_multiplyLinear cX1_multiplyLinear 4 none]
def wsX3_separate_r4 : List Cond := [Cond.methodLink RX1 91 yX1_divide, Cond.instanceMethod yX1_divide, Cond.selects RX1 yX1_divide yX1_divide, Cond.code yX1_divide cX1_divide 8 none, Cond.fieldLink RX1 25 "NumberFieldFactors$Ring" "quotient" "LNumberFieldFactors$Row;", Cond.methodLink RX1 78 yX0_minus, Cond.instanceMethod yX0_minus, Cond.selects RX0 yX0_minus yX0_minus, Cond.code yX0_minus cX0_minus 6 (some .int), Cond.methodLink RX3 108 yX2_get, Cond.methodLink RX3 112 yX0_minus, Cond.methodLink RX3 116 yX2_set, Cond.methodLink RX3 120 yX1_findCommon, Cond.instanceMethod yX1_findCommon, Cond.selects RX1 yX1_findCommon yX1_findCommon, Cond.code yX1_findCommon cX1_findCommon 8 none, Cond.fieldLink RX1 28 "NumberFieldFactors$Ring" "older" "LNumberFieldFactors$Row;", Cond.fieldLink RX1 31 "NumberFieldFactors$Ring" "newer" "LNumberFieldFactors$Row;", Cond.methodLink RX1 88 yX1_makeMonic, Cond.instanceMethod yX1_makeMonic, Cond.selects RX1 yX1_makeMonic yX1_makeMonic, Cond.code yX1_makeMonic cX1_makeMonic 6 none, Cond.methodLink RX1 85 yX0_power, Cond.instanceMethod yX0_power]
def wsX3_separate_r5 : List Cond := [Cond.selects RX0 yX0_power yX0_power, Cond.code yX0_power cX0_power 6 (some .int), Cond.methodLink RX0 45 yX0_times, Cond.methodLink RX3 82 yX1_divide, Cond.methodLink RX3 61 yX2_copy, Cond.methodLink RX3 73 yX3_add, Cond.instanceMethod yX3_add, Cond.selects RX3 yX3_add yX3_add, Cond.code yX3_add cX3_add 2 none]
def wsX3_separate : List Cond := .code yX3_separate cX3_separate 13 none :: ((wsX3_separate_r1 ++ (wsX3_separate_r2 ++ (wsX3_separate_r3 ++ (wsX3_separate_r4 ++ wsX3_separate_r5)))) ++ wsX10 ++ wsX00 ++ wsX30 ++ wsX20)
def wsX3_sort : List Cond := .code yX3_sort cX3_sort 4 none :: ([.fieldLink RX3 21 "NumberFieldFactors$Splitter" "count" "I", .fieldLink RX3 11 "NumberFieldFactors$Splitter" "parts" "[LNumberFieldFactors$Row;", .methodLink RX3 126 yX2_isBefore, .instanceMethod yX2_isBefore, .selects RX2 yX2_isBefore yX2_isBefore, .initialized RX2, .code yX2_isBefore cX2_isBefore 5 (some .boolean), .methodLink RX2 26 yX2_degree, .instanceMethod yX2_degree, .selects RX2 yX2_degree yX2_degree, .code yX2_degree cX2_degree 2 (some .int), .fieldLink RX2 9 "NumberFieldFactors$Row" "elements" "[I", .methodLink RX2 15 yX2_get, .instanceMethod yX2_get, .selects RX2 yX2_get yX2_get, .code yX2_get cX2_get 2 (some .int)] ++ wsX30 ++ wsX20)
def wsX3_countTimes_r1 : List Cond := [Cond.fieldLink RX3 21 "NumberFieldFactors$Splitter" "count" "I", Cond.fieldLink RX3 17 "NumberFieldFactors$Splitter" "counts" "[I", Cond.fieldLink RX3 34 "NumberFieldFactors$Splitter" "rest" "LNumberFieldFactors$Row;", Cond.methodLink RX3 61 yX2_copy, Cond.instanceMethod yX2_copy, Cond.selects RX2 yX2_copy yX2_copy, Cond.initialized RX2, Cond.code yX2_copy cX2_copy 3 none, Cond.fieldLink RX2 9 "NumberFieldFactors$Row" "elements" "[I", Cond.methodLink RX2 15 yX2_get, Cond.instanceMethod yX2_get, Cond.selects RX2 yX2_get yX2_get, Cond.code yX2_get cX2_get 2 (some .int), Cond.methodLink RX3 43 yX3_part, Cond.instanceMethod yX3_part, Cond.selects RX3 yX3_part yX3_part, Cond.initialized RX3, Cond.code yX3_part cX3_part 2 (some (.object "NumberFieldFactors$Row")), Cond.fieldLink RX3 11 "NumberFieldFactors$Splitter" "parts" "[LNumberFieldFactors$Row;", Cond.fieldLink RX3 30 "NumberFieldFactors$Splitter" "root" "LNumberFieldFactors$Row;", Cond.methodLink RX3 82 yX1_divide, Cond.instanceMethod yX1_divide, Cond.selects RX1 yX1_divide yX1_divide, Cond.initialized RX1]
def wsX3_countTimes_r2 : List Cond := [Cond.code yX1_divide cX1_divide 8 none, Cond.fieldLink RX1 25 "NumberFieldFactors$Ring" "quotient" "LNumberFieldFactors$Row;", Cond.fieldLink RX1 12 "NumberFieldFactors$Ring" "extension" "LNumberFieldFactors$Extension;", Cond.methodLink RX1 52 yX2_degree, Cond.instanceMethod yX2_degree, Cond.selects RX2 yX2_degree yX2_degree, Cond.code yX2_degree cX2_degree 2 (some .int), Cond.methodLink RX1 71 yX2_clear, Cond.instanceMethod yX2_clear, Cond.selects RX2 yX2_clear yX2_clear, Cond.code yX2_clear cX2_clear 2 none, Cond.methodLink RX1 60 yX2_get, Cond.methodLink RX1 67 yX2_set, Cond.instanceMethod yX2_set, Cond.selects RX2 yX2_set yX2_set, Cond.code yX2_set cX2_set 3 none, Cond.methodLink RX1 56 yX0_times, Cond.instanceMethod yX0_times, Cond.selects RX0 yX0_times yX0_times, Cond.initialized RX0, Cond.code yX0_times cX0_times 15 (some .int), Cond.fieldLink RX0 9 "NumberFieldFactors$Extension" "degree" "I", Cond.fieldLink RX0 21 "NumberFieldFactors$Extension" "low1" "I", Cond.fieldLink RX0 18 "NumberFieldFactors$Extension" "low0" "I"]
def wsX3_countTimes_r3 : List Cond := [Cond.fieldLink RX0 24 "NumberFieldFactors$Extension" "low2" "I", Cond.methodLink RX1 78 yX0_minus, Cond.instanceMethod yX0_minus, Cond.selects RX0 yX0_minus yX0_minus, Cond.code yX0_minus cX0_minus 6 (some .int), Cond.methodLink RX3 47 yX2_degree]
def wsX3_countTimes : List Cond := .code yX3_countTimes cX3_countTimes 5 none :: ((wsX3_countTimes_r1 ++ (wsX3_countTimes_r2 ++ wsX3_countTimes_r3)) ++ wsX30 ++ wsX10 ++ wsX20 ++ wsX00)
def wsX3_find_r1 : List Cond := [Cond.fieldLink RX3 25 "NumberFieldFactors$Splitter" "found" "Z", Cond.fieldLink RX3 21 "NumberFieldFactors$Splitter" "count" "I", Cond.fieldLink RX3 40 "NumberFieldFactors$Splitter" "shared" "LNumberFieldFactors$Row;", Cond.fieldLink RX3 34 "NumberFieldFactors$Splitter" "rest" "LNumberFieldFactors$Row;", Cond.fieldLink RX3 30 "NumberFieldFactors$Splitter" "root" "LNumberFieldFactors$Row;", Cond.methodLink RX3 51 yX1_findSquares, Cond.instanceMethod yX1_findSquares, Cond.selects RX1 yX1_findSquares yX1_findSquares, Cond.initialized RX1, Cond.code yX1_findSquares cX1_findSquares 4 none, Cond.fieldLink RX1 34 "NumberFieldFactors$Ring" "derived" "LNumberFieldFactors$Row;", Cond.fieldLink RX1 12 "NumberFieldFactors$Ring" "extension" "LNumberFieldFactors$Extension;", Cond.methodLink RX1 71 yX2_clear, Cond.instanceMethod yX2_clear, Cond.selects RX2 yX2_clear yX2_clear, Cond.initialized RX2, Cond.code yX2_clear cX2_clear 2 none, Cond.fieldLink RX2 9 "NumberFieldFactors$Row" "elements" "[I", Cond.methodLink RX1 52 yX2_degree, Cond.instanceMethod yX2_degree, Cond.selects RX2 yX2_degree yX2_degree, Cond.code yX2_degree cX2_degree 2 (some .int), Cond.methodLink RX1 60 yX2_get, Cond.instanceMethod yX2_get]
def wsX3_find_r2 : List Cond := [Cond.selects RX2 yX2_get yX2_get, Cond.code yX2_get cX2_get 2 (some .int), Cond.methodLink RX1 56 yX0_times, Cond.instanceMethod yX0_times, Cond.selects RX0 yX0_times yX0_times, Cond.initialized RX0, Cond.code yX0_times cX0_times 15 (some .int), Cond.fieldLink RX0 9 "NumberFieldFactors$Extension" "degree" "I", Cond.fieldLink RX0 21 "NumberFieldFactors$Extension" "low1" "I", Cond.fieldLink RX0 18 "NumberFieldFactors$Extension" "low0" "I", Cond.fieldLink RX0 24 "NumberFieldFactors$Extension" "low2" "I", Cond.methodLink RX1 67 yX2_set, Cond.instanceMethod yX2_set, Cond.selects RX2 yX2_set yX2_set, Cond.code yX2_set cX2_set 3 none, Cond.methodLink RX1 95 yX1_findCommon, Cond.instanceMethod yX1_findCommon, Cond.selects RX1 yX1_findCommon yX1_findCommon, Cond.code yX1_findCommon cX1_findCommon 8 none, Cond.fieldLink RX1 28 "NumberFieldFactors$Ring" "older" "LNumberFieldFactors$Row;", Cond.fieldLink RX1 31 "NumberFieldFactors$Ring" "newer" "LNumberFieldFactors$Row;", Cond.methodLink RX1 74 yX2_copy, Cond.instanceMethod yX2_copy, Cond.selects RX2 yX2_copy yX2_copy]
def wsX3_find_r3 : List Cond := [Cond.code yX2_copy cX2_copy 3 none, Cond.methodLink RX2 15 yX2_get, Cond.methodLink RX1 88 yX1_makeMonic, Cond.instanceMethod yX1_makeMonic, Cond.selects RX1 yX1_makeMonic yX1_makeMonic, Cond.code yX1_makeMonic cX1_makeMonic 6 none, Cond.methodLink RX1 85 yX0_power, Cond.instanceMethod yX0_power, Cond.selects RX0 yX0_power yX0_power, Cond.code yX0_power cX0_power 6 (some .int), Cond.methodLink RX0 45 yX0_times, Cond.methodLink RX1 91 yX1_divide, Cond.instanceMethod yX1_divide, Cond.selects RX1 yX1_divide yX1_divide, Cond.code yX1_divide cX1_divide 8 none, Cond.fieldLink RX1 25 "NumberFieldFactors$Ring" "quotient" "LNumberFieldFactors$Row;", Cond.methodLink RX1 78 yX0_minus, Cond.instanceMethod yX0_minus, Cond.selects RX0 yX0_minus yX0_minus, Cond.code yX0_minus cX0_minus 6 (some .int), Cond.methodLink RX3 57 yX3_keepRoot, Cond.instanceMethod yX3_keepRoot, Cond.selects RX3 yX3_keepRoot yX3_keepRoot, Cond.initialized RX3]
def wsX3_find_r4 : List Cond := [Cond.code yX3_keepRoot cX3_keepRoot 3 none, Cond.methodLink RX3 61 yX2_copy, Cond.methodLink RX3 82 yX1_divide, Cond.methodLink RX3 88 yX1_makeMonic, Cond.methodLink RX3 47 yX2_degree, Cond.methodLink RX3 65 yX3_collect, Cond.instanceMethod yX3_collect, Cond.selects RX3 yX3_collect yX3_collect, Cond.code yX3_collect cX3_collect 3 none, Cond.fieldLink RX3 37 "NumberFieldFactors$Splitter" "power" "LNumberFieldFactors$Row;", Cond.methodLink RX3 100 yX3_sizeToThe, Cond.static yX3_sizeToThe, Cond.code yX3_sizeToThe cX3_sizeToThe 4 (some .long), Cond.methodLink RX3 104 yX1_raiseLinear, Cond.instanceMethod yX1_raiseLinear, Cond.selects RX1 yX1_raiseLinear yX1_raiseLinear, Cond.code yX1_raiseLinear cX1_raiseLinear 7 none, Cond.methodLink RX1 99 yX2_becomeOne, Cond.instanceMethod yX2_becomeOne, Cond.selects RX2 yX2_becomeOne yX2_becomeOne, Cond.code yX2_becomeOne cX2_becomeOne 1 none, Cond.methodLink RX2 19 yX2_clear, Cond.methodLink RX2 22 yX2_set, Cond.methodLink RX1 102 yX1_multiply]
def wsX3_find_r5 : List Cond := [Cond.instanceMethod yX1_multiply, Cond.selects RX1 yX1_multiply yX1_multiply, Cond.code yX1_multiply cX1_multiply 8 none, Cond.fieldLink RX1 21 "NumberFieldFactors$Ring" "wide" "LNumberFieldFactors$Row;", Cond.methodLink RX1 64 yX0_plus, Cond.instanceMethod yX0_plus, Cond.selects RX0 yX0_plus yX0_plus, Cond.code yX0_plus cX0_plus 6 (some .int), Cond.methodLink RX1 105 yX1_multiplyLinear, Cond.instanceMethod yX1_multiplyLinear, Cond.selects RX1 yX1_multiplyLinear yX1_multiplyLinear, Cond.code yX1_multiplyLinear cX1_multiplyLinear 4 none, Cond.methodLink RX3 108 yX2_get, Cond.methodLink RX3 112 yX0_minus, Cond.methodLink RX3 116 yX2_set, Cond.methodLink RX3 120 yX1_findCommon, Cond.methodLink RX3 73 yX3_add, Cond.instanceMethod yX3_add, Cond.selects RX3 yX3_add yX3_add, Cond.code yX3_add cX3_add 2 none, Cond.fieldLink RX3 11 "NumberFieldFactors$Splitter" "parts" "[LNumberFieldFactors$Row;", Cond.methodLink RX3 69 yX3_separate, Cond.instanceMethod yX3_separate, Cond.selects RX3 yX3_separate yX3_separate]
def wsX3_find_r6 : List Cond := [Cond.code yX3_separate cX3_separate 13 none, Cond.constantLong RX3 124 (2), Cond.methodLink RX3 43 yX3_part, Cond.instanceMethod yX3_part, Cond.selects RX3 yX3_part yX3_part, Cond.code yX3_part cX3_part 2 (some (.object "NumberFieldFactors$Row")), Cond.methodLink RX3 76 yX3_sort, Cond.instanceMethod yX3_sort, Cond.selects RX3 yX3_sort yX3_sort, Cond.code yX3_sort cX3_sort 4 none, Cond.methodLink RX3 126 yX2_isBefore, Cond.instanceMethod yX2_isBefore, Cond.selects RX2 yX2_isBefore yX2_isBefore, Cond.code yX2_isBefore cX2_isBefore 5 (some .boolean), Cond.methodLink RX2 26 yX2_degree, Cond.methodLink RX3 79 yX3_countTimes, Cond.instanceMethod yX3_countTimes, Cond.selects RX3 yX3_countTimes yX3_countTimes, Cond.code yX3_countTimes cX3_countTimes 5 none, Cond.fieldLink RX3 17 "NumberFieldFactors$Splitter" "counts" "[I"]
def wsX3_find : List Cond := .code yX3_find cX3_find 5 none :: ((wsX3_find_r1 ++ (wsX3_find_r2 ++ (wsX3_find_r3 ++ (wsX3_find_r4 ++ (wsX3_find_r5 ++ wsX3_find_r6))))) ++ wsX30 ++ wsX10 ++ wsX20 ++ wsX00)
abbrev vwCl : List vw_C := [(RX0, TX0, 8), (RX1, TX1, 11), (RX2, TX2, 1), (RX3, TX3, 8), (RX4, TX4, 3), (RX5, TX5, 10)]
end
section
theorem dX2_init_0 : decode cX2_init 0 = .ok (.aload_n 0, 1) := by decide +kernel
theorem dX2_init_1 : decode cX2_init 1 = .ok (.invokespecial 3, 3) := by decide +kernel
theorem dX2_init_4 : decode cX2_init 4 = .ok (.aload_n 0, 1) := by decide +kernel
theorem dX2_init_5 : decode cX2_init 5 = .ok (.bipush 16, 2) := by decide +kernel
theorem dX2_init_7 : decode cX2_init 7 = .ok (.newarray .int, 2) := by decide +kernel
theorem dX2_init_9 : decode cX2_init 9 = .ok (.putfield 9, 3) := by decide +kernel
theorem dX2_init_12 : decode cX2_init 12 = .ok (.return_, 1) := by decide +kernel
theorem dX2_get_0 : decode cX2_get 0 = .ok (.iload_n 1, 1) := by decide +kernel
theorem dX2_get_1 : decode cX2_get 1 = .ok (.ifCond .lt 21, 3) := by decide +kernel
theorem dX2_get_4 : decode cX2_get 4 = .ok (.iload_n 1, 1) := by decide +kernel
theorem dX2_get_5 : decode cX2_get 5 = .ok (.aload_n 0, 1) := by decide +kernel
theorem dX2_get_6 : decode cX2_get 6 = .ok (.getfield 9, 3) := by decide +kernel
theorem dX2_get_9 : decode cX2_get 9 = .ok (.arraylength, 1) := by decide +kernel
theorem dX2_get_10 : decode cX2_get 10 = .ok (.if_icmp .ge 12, 3) := by decide +kernel
theorem dX2_get_13 : decode cX2_get 13 = .ok (.aload_n 0, 1) := by decide +kernel
theorem dX2_get_14 : decode cX2_get 14 = .ok (.getfield 9, 3) := by decide +kernel
theorem dX2_get_17 : decode cX2_get 17 = .ok (.iload_n 1, 1) := by decide +kernel
theorem dX2_get_18 : decode cX2_get 18 = .ok (.iaload, 1) := by decide +kernel
theorem dX2_get_19 : decode cX2_get 19 = .ok (.goto 4, 3) := by decide +kernel
theorem dX2_get_22 : decode cX2_get 22 = .ok (.iconst 0, 1) := by decide +kernel
theorem dX2_get_23 : decode cX2_get 23 = .ok (.ireturn, 1) := by decide +kernel
theorem dX2_set_0 : decode cX2_set 0 = .ok (.iload_n 1, 1) := by decide +kernel
theorem dX2_set_1 : decode cX2_set 1 = .ok (.ifCond .lt 19, 3) := by decide +kernel
theorem dX2_set_4 : decode cX2_set 4 = .ok (.iload_n 1, 1) := by decide +kernel
theorem dX2_set_5 : decode cX2_set 5 = .ok (.aload_n 0, 1) := by decide +kernel
theorem dX2_set_6 : decode cX2_set 6 = .ok (.getfield 9, 3) := by decide +kernel
theorem dX2_set_9 : decode cX2_set 9 = .ok (.arraylength, 1) := by decide +kernel
theorem dX2_set_10 : decode cX2_set 10 = .ok (.if_icmp .ge 10, 3) := by decide +kernel
theorem dX2_set_13 : decode cX2_set 13 = .ok (.aload_n 0, 1) := by decide +kernel
theorem dX2_set_14 : decode cX2_set 14 = .ok (.getfield 9, 3) := by decide +kernel
theorem dX2_set_17 : decode cX2_set 17 = .ok (.iload_n 1, 1) := by decide +kernel
theorem dX2_set_18 : decode cX2_set 18 = .ok (.iload_n 2, 1) := by decide +kernel
theorem dX2_set_19 : decode cX2_set 19 = .ok (.iastore, 1) := by decide +kernel
theorem dX2_set_20 : decode cX2_set 20 = .ok (.return_, 1) := by decide +kernel
theorem dX2_degree_0 : decode cX2_degree 0 = .ok (.aload_n 0, 1) := by decide +kernel
theorem dX2_degree_1 : decode cX2_degree 1 = .ok (.getfield 9, 3) := by decide +kernel
theorem dX2_degree_4 : decode cX2_degree 4 = .ok (.arraylength, 1) := by decide +kernel
theorem dX2_degree_5 : decode cX2_degree 5 = .ok (.iconst 1, 1) := by decide +kernel
theorem dX2_degree_6 : decode cX2_degree 6 = .ok (.isub, 1) := by decide +kernel
theorem dX2_degree_7 : decode cX2_degree 7 = .ok (.istore_n 1, 1) := by decide +kernel
theorem dX2_degree_8 : decode cX2_degree 8 = .ok (.iload_n 1, 1) := by decide +kernel
theorem dX2_degree_9 : decode cX2_degree 9 = .ok (.ifCond .lt 18, 3) := by decide +kernel
theorem dX2_degree_12 : decode cX2_degree 12 = .ok (.aload_n 0, 1) := by decide +kernel
theorem dX2_degree_13 : decode cX2_degree 13 = .ok (.getfield 9, 3) := by decide +kernel
theorem dX2_degree_16 : decode cX2_degree 16 = .ok (.iload_n 1, 1) := by decide +kernel
theorem dX2_degree_17 : decode cX2_degree 17 = .ok (.iaload, 1) := by decide +kernel
theorem dX2_degree_18 : decode cX2_degree 18 = .ok (.ifCond .ne 9, 3) := by decide +kernel
theorem dX2_degree_21 : decode cX2_degree 21 = .ok (.iinc 1 (-1), 3) := by decide +kernel
theorem dX2_degree_24 : decode cX2_degree 24 = .ok (.goto (-16), 3) := by decide +kernel
theorem dX2_degree_27 : decode cX2_degree 27 = .ok (.iload_n 1, 1) := by decide +kernel
theorem dX2_degree_28 : decode cX2_degree 28 = .ok (.ireturn, 1) := by decide +kernel
theorem dX2_clear_0 : decode cX2_clear 0 = .ok (.iconst 0, 1) := by decide +kernel
theorem dX2_clear_1 : decode cX2_clear 1 = .ok (.istore_n 1, 1) := by decide +kernel
theorem dX2_clear_2 : decode cX2_clear 2 = .ok (.iload_n 1, 1) := by decide +kernel
theorem dX2_clear_3 : decode cX2_clear 3 = .ok (.aload_n 0, 1) := by decide +kernel
theorem dX2_clear_4 : decode cX2_clear 4 = .ok (.getfield 9, 3) := by decide +kernel
theorem dX2_clear_7 : decode cX2_clear 7 = .ok (.arraylength, 1) := by decide +kernel
theorem dX2_clear_8 : decode cX2_clear 8 = .ok (.if_icmp .ge 16, 3) := by decide +kernel
theorem dX2_clear_11 : decode cX2_clear 11 = .ok (.aload_n 0, 1) := by decide +kernel
theorem dX2_clear_12 : decode cX2_clear 12 = .ok (.getfield 9, 3) := by decide +kernel
theorem dX2_clear_15 : decode cX2_clear 15 = .ok (.iload_n 1, 1) := by decide +kernel
theorem dX2_clear_16 : decode cX2_clear 16 = .ok (.iconst 0, 1) := by decide +kernel
theorem dX2_clear_17 : decode cX2_clear 17 = .ok (.iastore, 1) := by decide +kernel
theorem dX2_clear_18 : decode cX2_clear 18 = .ok (.iinc 1 1, 3) := by decide +kernel
theorem dX2_clear_21 : decode cX2_clear 21 = .ok (.goto (-19), 3) := by decide +kernel
theorem dX2_clear_24 : decode cX2_clear 24 = .ok (.return_, 1) := by decide +kernel
set_option maxRecDepth 20000 in
theorem ggX2_copy_X2_get : GoodIn wsX2_copy wsX2_get := goodIn_r _ [6, 1, 7] (by decide +kernel) (by decide +kernel)
set_option maxRecDepth 20000 in
theorem gX2_copy_X2_get : GoodIn wsX2_copy (wsV RX2 15 RX2 yX2_get wsX2_get) := goodIn_app (goodIn_of _ (by decide +kernel)) ggX2_copy_X2_get
theorem dX2_copy_0 : decode cX2_copy 0 = .ok (.iconst 0, 1) := by decide +kernel
theorem dX2_copy_1 : decode cX2_copy 1 = .ok (.istore_n 2, 1) := by decide +kernel
theorem dX2_copy_2 : decode cX2_copy 2 = .ok (.iload_n 2, 1) := by decide +kernel
theorem dX2_copy_3 : decode cX2_copy 3 = .ok (.aload_n 0, 1) := by decide +kernel
theorem dX2_copy_4 : decode cX2_copy 4 = .ok (.getfield 9, 3) := by decide +kernel
theorem dX2_copy_7 : decode cX2_copy 7 = .ok (.arraylength, 1) := by decide +kernel
theorem dX2_copy_8 : decode cX2_copy 8 = .ok (.if_icmp .ge 20, 3) := by decide +kernel
theorem dX2_copy_11 : decode cX2_copy 11 = .ok (.aload_n 0, 1) := by decide +kernel
theorem dX2_copy_12 : decode cX2_copy 12 = .ok (.getfield 9, 3) := by decide +kernel
theorem dX2_copy_15 : decode cX2_copy 15 = .ok (.iload_n 2, 1) := by decide +kernel
theorem dX2_copy_16 : decode cX2_copy 16 = .ok (.aload_n 1, 1) := by decide +kernel
theorem dX2_copy_17 : decode cX2_copy 17 = .ok (.iload_n 2, 1) := by decide +kernel
theorem dX2_copy_18 : decode cX2_copy 18 = .ok (.invokevirtual 15, 3) := by decide +kernel
theorem dX2_copy_21 : decode cX2_copy 21 = .ok (.iastore, 1) := by decide +kernel
theorem dX2_copy_22 : decode cX2_copy 22 = .ok (.iinc 2 1, 3) := by decide +kernel
theorem dX2_copy_25 : decode cX2_copy 25 = .ok (.goto (-23), 3) := by decide +kernel
theorem dX2_copy_28 : decode cX2_copy 28 = .ok (.return_, 1) := by decide +kernel
set_option maxRecDepth 20000 in
theorem ggX2_becomeOne_X2_clear : GoodIn wsX2_becomeOne wsX2_clear := goodIn_r _ [5, 6, 11] (by decide +kernel) (by decide +kernel)
set_option maxRecDepth 20000 in
theorem gX2_becomeOne_X2_clear : GoodIn wsX2_becomeOne (wsV RX2 19 RX2 yX2_clear wsX2_clear) := goodIn_app (goodIn_of _ (by decide +kernel)) ggX2_becomeOne_X2_clear
set_option maxRecDepth 20000 in
theorem ggX2_becomeOne_X2_set : GoodIn wsX2_becomeOne wsX2_set := goodIn_r _ [10, 6, 11] (by decide +kernel) (by decide +kernel)
set_option maxRecDepth 20000 in
theorem gX2_becomeOne_X2_set : GoodIn wsX2_becomeOne (wsV RX2 22 RX2 yX2_set wsX2_set) := goodIn_app (goodIn_of _ (by decide +kernel)) ggX2_becomeOne_X2_set
theorem dX2_becomeOne_0 : decode cX2_becomeOne 0 = .ok (.aload_n 0, 1) := by decide +kernel
theorem dX2_becomeOne_1 : decode cX2_becomeOne 1 = .ok (.invokevirtual 19, 3) := by decide +kernel
theorem dX2_becomeOne_4 : decode cX2_becomeOne 4 = .ok (.aload_n 0, 1) := by decide +kernel
theorem dX2_becomeOne_5 : decode cX2_becomeOne 5 = .ok (.iconst 0, 1) := by decide +kernel
theorem dX2_becomeOne_6 : decode cX2_becomeOne 6 = .ok (.iconst 1, 1) := by decide +kernel
theorem dX2_becomeOne_7 : decode cX2_becomeOne 7 = .ok (.invokevirtual 22, 3) := by decide +kernel
theorem dX2_becomeOne_10 : decode cX2_becomeOne 10 = .ok (.return_, 1) := by decide +kernel
set_option maxRecDepth 20000 in
theorem ggX2_isBefore_X2_degree : GoodIn wsX2_isBefore wsX2_degree := goodIn_r _ [5, 6, 11] (by decide +kernel) (by decide +kernel)
set_option maxRecDepth 20000 in
theorem gX2_isBefore_X2_degree : GoodIn wsX2_isBefore (wsV RX2 26 RX2 yX2_degree wsX2_degree) := goodIn_app (goodIn_of _ (by decide +kernel)) ggX2_isBefore_X2_degree
set_option maxRecDepth 20000 in
theorem ggX2_isBefore_X2_get : GoodIn wsX2_isBefore wsX2_get := goodIn_r _ [10, 6, 11] (by decide +kernel) (by decide +kernel)
set_option maxRecDepth 20000 in
theorem gX2_isBefore_X2_get : GoodIn wsX2_isBefore (wsV RX2 15 RX2 yX2_get wsX2_get) := goodIn_app (goodIn_of _ (by decide +kernel)) ggX2_isBefore_X2_get
theorem dX2_isBefore_0 : decode cX2_isBefore 0 = .ok (.aload_n 0, 1) := by decide +kernel
theorem dX2_isBefore_1 : decode cX2_isBefore 1 = .ok (.invokevirtual 26, 3) := by decide +kernel
theorem dX2_isBefore_4 : decode cX2_isBefore 4 = .ok (.istore_n 2, 1) := by decide +kernel
theorem dX2_isBefore_5 : decode cX2_isBefore 5 = .ok (.aload_n 1, 1) := by decide +kernel
theorem dX2_isBefore_6 : decode cX2_isBefore 6 = .ok (.invokevirtual 26, 3) := by decide +kernel
theorem dX2_isBefore_9 : decode cX2_isBefore 9 = .ok (.istore_n 3, 1) := by decide +kernel
theorem dX2_isBefore_10 : decode cX2_isBefore 10 = .ok (.iload_n 2, 1) := by decide +kernel
theorem dX2_isBefore_11 : decode cX2_isBefore 11 = .ok (.iload_n 3, 1) := by decide +kernel
theorem dX2_isBefore_12 : decode cX2_isBefore 12 = .ok (.if_icmp .eq 14, 3) := by decide +kernel
theorem dX2_isBefore_15 : decode cX2_isBefore 15 = .ok (.iload_n 2, 1) := by decide +kernel
theorem dX2_isBefore_16 : decode cX2_isBefore 16 = .ok (.iload_n 3, 1) := by decide +kernel
theorem dX2_isBefore_17 : decode cX2_isBefore 17 = .ok (.if_icmp .ge 7, 3) := by decide +kernel
theorem dX2_isBefore_20 : decode cX2_isBefore 20 = .ok (.iconst 1, 1) := by decide +kernel
theorem dX2_isBefore_21 : decode cX2_isBefore 21 = .ok (.goto 4, 3) := by decide +kernel
theorem dX2_isBefore_24 : decode cX2_isBefore 24 = .ok (.iconst 0, 1) := by decide +kernel
theorem dX2_isBefore_25 : decode cX2_isBefore 25 = .ok (.ireturn, 1) := by decide +kernel
theorem dX2_isBefore_26 : decode cX2_isBefore 26 = .ok (.iload_n 2, 1) := by decide +kernel
theorem dX2_isBefore_27 : decode cX2_isBefore 27 = .ok (.istore 4, 2) := by decide +kernel
theorem dX2_isBefore_29 : decode cX2_isBefore 29 = .ok (.iload 4, 2) := by decide +kernel
theorem dX2_isBefore_31 : decode cX2_isBefore 31 = .ok (.ifCond .lt 45, 3) := by decide +kernel
theorem dX2_isBefore_34 : decode cX2_isBefore 34 = .ok (.aload_n 0, 1) := by decide +kernel
theorem dX2_isBefore_35 : decode cX2_isBefore 35 = .ok (.iload 4, 2) := by decide +kernel
theorem dX2_isBefore_37 : decode cX2_isBefore 37 = .ok (.invokevirtual 15, 3) := by decide +kernel
theorem dX2_isBefore_40 : decode cX2_isBefore 40 = .ok (.aload_n 1, 1) := by decide +kernel
theorem dX2_isBefore_41 : decode cX2_isBefore 41 = .ok (.iload 4, 2) := by decide +kernel
theorem dX2_isBefore_43 : decode cX2_isBefore 43 = .ok (.invokevirtual 15, 3) := by decide +kernel
theorem dX2_isBefore_46 : decode cX2_isBefore 46 = .ok (.if_icmp .eq 24, 3) := by decide +kernel
theorem dX2_isBefore_49 : decode cX2_isBefore 49 = .ok (.aload_n 0, 1) := by decide +kernel
theorem dX2_isBefore_50 : decode cX2_isBefore 50 = .ok (.iload 4, 2) := by decide +kernel
theorem dX2_isBefore_52 : decode cX2_isBefore 52 = .ok (.invokevirtual 15, 3) := by decide +kernel
theorem dX2_isBefore_55 : decode cX2_isBefore 55 = .ok (.aload_n 1, 1) := by decide +kernel
theorem dX2_isBefore_56 : decode cX2_isBefore 56 = .ok (.iload 4, 2) := by decide +kernel
theorem dX2_isBefore_58 : decode cX2_isBefore 58 = .ok (.invokevirtual 15, 3) := by decide +kernel
theorem dX2_isBefore_61 : decode cX2_isBefore 61 = .ok (.if_icmp .ge 7, 3) := by decide +kernel
theorem dX2_isBefore_64 : decode cX2_isBefore 64 = .ok (.iconst 1, 1) := by decide +kernel
theorem dX2_isBefore_65 : decode cX2_isBefore 65 = .ok (.goto 4, 3) := by decide +kernel
theorem dX2_isBefore_68 : decode cX2_isBefore 68 = .ok (.iconst 0, 1) := by decide +kernel
theorem dX2_isBefore_69 : decode cX2_isBefore 69 = .ok (.ireturn, 1) := by decide +kernel
theorem dX2_isBefore_70 : decode cX2_isBefore 70 = .ok (.iinc 4 (-1), 3) := by decide +kernel
theorem dX2_isBefore_73 : decode cX2_isBefore 73 = .ok (.goto (-44), 3) := by decide +kernel
theorem dX2_isBefore_76 : decode cX2_isBefore 76 = .ok (.iconst 0, 1) := by decide +kernel
theorem dX2_isBefore_77 : decode cX2_isBefore 77 = .ok (.ireturn, 1) := by decide +kernel
end
section
theorem dX0_init_0 : decode cX0_init 0 = .ok (.aload_n 0, 1) := by decide +kernel
theorem dX0_init_1 : decode cX0_init 1 = .ok (.invokespecial 3, 3) := by decide +kernel
theorem dX0_init_4 : decode cX0_init 4 = .ok (.aload_n 0, 1) := by decide +kernel
theorem dX0_init_5 : decode cX0_init 5 = .ok (.iconst 1, 1) := by decide +kernel
theorem dX0_init_6 : decode cX0_init 6 = .ok (.putfield 9, 3) := by decide +kernel
theorem dX0_init_9 : decode cX0_init 9 = .ok (.aload_n 0, 1) := by decide +kernel
theorem dX0_init_10 : decode cX0_init 10 = .ok (.bipush 101, 2) := by decide +kernel
theorem dX0_init_12 : decode cX0_init 12 = .ok (.putfield 15, 3) := by decide +kernel
theorem dX0_init_15 : decode cX0_init 15 = .ok (.aload_n 0, 1) := by decide +kernel
theorem dX0_init_16 : decode cX0_init 16 = .ok (.iconst 0, 1) := by decide +kernel
theorem dX0_init_17 : decode cX0_init 17 = .ok (.putfield 18, 3) := by decide +kernel
theorem dX0_init_20 : decode cX0_init 20 = .ok (.aload_n 0, 1) := by decide +kernel
theorem dX0_init_21 : decode cX0_init 21 = .ok (.iconst 0, 1) := by decide +kernel
theorem dX0_init_22 : decode cX0_init 22 = .ok (.putfield 21, 3) := by decide +kernel
theorem dX0_init_25 : decode cX0_init 25 = .ok (.aload_n 0, 1) := by decide +kernel
theorem dX0_init_26 : decode cX0_init 26 = .ok (.iconst 0, 1) := by decide +kernel
theorem dX0_init_27 : decode cX0_init 27 = .ok (.putfield 24, 3) := by decide +kernel
theorem dX0_init_30 : decode cX0_init 30 = .ok (.aload_n 0, 1) := by decide +kernel
theorem dX0_init_31 : decode cX0_init 31 = .ok (.iconst 0, 1) := by decide +kernel
theorem dX0_init_32 : decode cX0_init 32 = .ok (.putfield 27, 3) := by decide +kernel
theorem dX0_init_35 : decode cX0_init 35 = .ok (.aload_n 0, 1) := by decide +kernel
theorem dX0_init_36 : decode cX0_init 36 = .ok (.iconst 0, 1) := by decide +kernel
theorem dX0_init_37 : decode cX0_init 37 = .ok (.putfield 30, 3) := by decide +kernel
theorem dX0_init_40 : decode cX0_init 40 = .ok (.aload_n 0, 1) := by decide +kernel
theorem dX0_init_41 : decode cX0_init 41 = .ok (.iconst 0, 1) := by decide +kernel
theorem dX0_init_42 : decode cX0_init 42 = .ok (.putfield 33, 3) := by decide +kernel
theorem dX0_init_45 : decode cX0_init 45 = .ok (.return_, 1) := by decide +kernel
set_option maxRecDepth 20000 in
theorem ggX0_become_X0_hasRoot : GoodIn wsX0_become wsX0_hasRoot := goodIn_r _ [13] (by decide +kernel) (by decide +kernel)
set_option maxRecDepth 20000 in
theorem gX0_become_X0_hasRoot : GoodIn wsX0_become (va_wsS RX0 36 yX0_hasRoot wsX0_hasRoot) := goodIn_app (goodIn_of _ (by decide +kernel)) ggX0_become_X0_hasRoot
set_option maxRecDepth 20000 in
theorem ggX0_become_X0_power : GoodIn wsX0_become wsX0_power := goodIn_r _ [17, 18, 19, 20, 12, 21, 1, 5, 4, 6, 22, 23, 24, 25, 26, 27, 28, 29] (by decide +kernel) (by decide +kernel)
set_option maxRecDepth 20000 in
theorem gX0_become_X0_power : GoodIn wsX0_become (wsV RX0 41 RX0 yX0_power wsX0_power) := goodIn_app (goodIn_of _ (by decide +kernel)) ggX0_become_X0_power
set_option maxRecDepth 20000 in
theorem ggX0_become_X0_times : GoodIn wsX0_become wsX0_times := goodIn_r _ [21, 1, 5, 4, 6, 22, 23, 24, 25, 26, 27, 28, 29] (by decide +kernel) (by decide +kernel)
set_option maxRecDepth 20000 in
theorem gX0_become_X0_times : GoodIn wsX0_become (wsV RX0 45 RX0 yX0_times wsX0_times) := goodIn_app (goodIn_of _ (by decide +kernel)) ggX0_become_X0_times
theorem dX0_become_0 : decode cX0_become 0 = .ok (.iload_n 1, 1) := by decide +kernel
theorem dX0_become_1 : decode cX0_become 1 = .ok (.iconst 1, 1) := by decide +kernel
theorem dX0_become_2 : decode cX0_become 2 = .ok (.if_icmp .le 7, 3) := by decide +kernel
theorem dX0_become_5 : decode cX0_become 5 = .ok (.iload_n 3, 1) := by decide +kernel
theorem dX0_become_6 : decode cX0_become 6 = .ok (.goto 4, 3) := by decide +kernel
theorem dX0_become_9 : decode cX0_become 9 = .ok (.iconst 0, 1) := by decide +kernel
theorem dX0_become_10 : decode cX0_become 10 = .ok (.istore 5, 2) := by decide +kernel
theorem dX0_become_12 : decode cX0_become 12 = .ok (.iload_n 1, 1) := by decide +kernel
theorem dX0_become_13 : decode cX0_become 13 = .ok (.iconst 2, 1) := by decide +kernel
theorem dX0_become_14 : decode cX0_become 14 = .ok (.if_icmp .le 8, 3) := by decide +kernel
theorem dX0_become_17 : decode cX0_become 17 = .ok (.iload 4, 2) := by decide +kernel
theorem dX0_become_19 : decode cX0_become 19 = .ok (.goto 4, 3) := by decide +kernel
theorem dX0_become_22 : decode cX0_become 22 = .ok (.iconst 0, 1) := by decide +kernel
theorem dX0_become_23 : decode cX0_become 23 = .ok (.istore 6, 2) := by decide +kernel
theorem dX0_become_25 : decode cX0_become 25 = .ok (.iload_n 1, 1) := by decide +kernel
theorem dX0_become_26 : decode cX0_become 26 = .ok (.iconst 1, 1) := by decide +kernel
theorem dX0_become_27 : decode cX0_become 27 = .ok (.if_icmp .le 17, 3) := by decide +kernel
theorem dX0_become_30 : decode cX0_become 30 = .ok (.iload_n 1, 1) := by decide +kernel
theorem dX0_become_31 : decode cX0_become 31 = .ok (.iload_n 2, 1) := by decide +kernel
theorem dX0_become_32 : decode cX0_become 32 = .ok (.iload 5, 2) := by decide +kernel
theorem dX0_become_34 : decode cX0_become 34 = .ok (.iload 6, 2) := by decide +kernel
theorem dX0_become_36 : decode cX0_become 36 = .ok (.invokestatic 36, 3) := by decide +kernel
theorem dX0_become_39 : decode cX0_become 39 = .ok (.ifCond .eq 5, 3) := by decide +kernel
theorem dX0_become_42 : decode cX0_become 42 = .ok (.iconst 0, 1) := by decide +kernel
theorem dX0_become_43 : decode cX0_become 43 = .ok (.ireturn, 1) := by decide +kernel
theorem dX0_become_44 : decode cX0_become 44 = .ok (.aload_n 0, 1) := by decide +kernel
theorem dX0_become_45 : decode cX0_become 45 = .ok (.iload_n 1, 1) := by decide +kernel
theorem dX0_become_46 : decode cX0_become 46 = .ok (.putfield 9, 3) := by decide +kernel
theorem dX0_become_49 : decode cX0_become 49 = .ok (.aload_n 0, 1) := by decide +kernel
theorem dX0_become_50 : decode cX0_become 50 = .ok (.iload_n 1, 1) := by decide +kernel
theorem dX0_become_51 : decode cX0_become 51 = .ok (.iconst 1, 1) := by decide +kernel
theorem dX0_become_52 : decode cX0_become 52 = .ok (.if_icmp .ne 8, 3) := by decide +kernel
theorem dX0_become_55 : decode cX0_become 55 = .ok (.bipush 101, 2) := by decide +kernel
theorem dX0_become_57 : decode cX0_become 57 = .ok (.goto 16, 3) := by decide +kernel
theorem dX0_become_60 : decode cX0_become 60 = .ok (.iload_n 1, 1) := by decide +kernel
theorem dX0_become_61 : decode cX0_become 61 = .ok (.iconst 2, 1) := by decide +kernel
theorem dX0_become_62 : decode cX0_become 62 = .ok (.if_icmp .ne 9, 3) := by decide +kernel
theorem dX0_become_65 : decode cX0_become 65 = .ok (.sipush 10201, 3) := by decide +kernel
theorem dX0_become_68 : decode cX0_become 68 = .ok (.goto 5, 3) := by decide +kernel
theorem dX0_become_71 : decode cX0_become 71 = .ok (.ldc 40, 2) := by decide +kernel
theorem dX0_become_73 : decode cX0_become 73 = .ok (.putfield 15, 3) := by decide +kernel
theorem dX0_become_76 : decode cX0_become 76 = .ok (.aload_n 0, 1) := by decide +kernel
theorem dX0_become_77 : decode cX0_become 77 = .ok (.iload_n 2, 1) := by decide +kernel
theorem dX0_become_78 : decode cX0_become 78 = .ok (.putfield 18, 3) := by decide +kernel
theorem dX0_become_81 : decode cX0_become 81 = .ok (.aload_n 0, 1) := by decide +kernel
theorem dX0_become_82 : decode cX0_become 82 = .ok (.iload 5, 2) := by decide +kernel
theorem dX0_become_84 : decode cX0_become 84 = .ok (.putfield 21, 3) := by decide +kernel
theorem dX0_become_87 : decode cX0_become 87 = .ok (.aload_n 0, 1) := by decide +kernel
theorem dX0_become_88 : decode cX0_become 88 = .ok (.iload 6, 2) := by decide +kernel
theorem dX0_become_90 : decode cX0_become 90 = .ok (.putfield 24, 3) := by decide +kernel
theorem dX0_become_93 : decode cX0_become 93 = .ok (.aload_n 0, 1) := by decide +kernel
theorem dX0_become_94 : decode cX0_become 94 = .ok (.iload_n 1, 1) := by decide +kernel
theorem dX0_become_95 : decode cX0_become 95 = .ok (.iconst 1, 1) := by decide +kernel
theorem dX0_become_96 : decode cX0_become 96 = .ok (.if_icmp .ne 13, 3) := by decide +kernel
theorem dX0_become_99 : decode cX0_become 99 = .ok (.bipush 101, 2) := by decide +kernel
theorem dX0_become_101 : decode cX0_become 101 = .ok (.iload_n 2, 1) := by decide +kernel
theorem dX0_become_102 : decode cX0_become 102 = .ok (.isub, 1) := by decide +kernel
theorem dX0_become_103 : decode cX0_become 103 = .ok (.bipush 101, 2) := by decide +kernel
theorem dX0_become_105 : decode cX0_become 105 = .ok (.irem, 1) := by decide +kernel
theorem dX0_become_106 : decode cX0_become 106 = .ok (.goto 5, 3) := by decide +kernel
theorem dX0_become_109 : decode cX0_become 109 = .ok (.bipush 101, 2) := by decide +kernel
theorem dX0_become_111 : decode cX0_become 111 = .ok (.putfield 27, 3) := by decide +kernel
theorem dX0_become_114 : decode cX0_become 114 = .ok (.aload_n 0, 1) := by decide +kernel
theorem dX0_become_115 : decode cX0_become 115 = .ok (.aload_n 0, 1) := by decide +kernel
theorem dX0_become_116 : decode cX0_become 116 = .ok (.aload_n 0, 1) := by decide +kernel
theorem dX0_become_117 : decode cX0_become 117 = .ok (.getfield 27, 3) := by decide +kernel
theorem dX0_become_120 : decode cX0_become 120 = .ok (.bipush 101, 2) := by decide +kernel
theorem dX0_become_122 : decode cX0_become 122 = .ok (.invokevirtual 41, 3) := by decide +kernel
theorem dX0_become_125 : decode cX0_become 125 = .ok (.putfield 30, 3) := by decide +kernel
theorem dX0_become_128 : decode cX0_become 128 = .ok (.aload_n 0, 1) := by decide +kernel
theorem dX0_become_129 : decode cX0_become 129 = .ok (.aload_n 0, 1) := by decide +kernel
theorem dX0_become_130 : decode cX0_become 130 = .ok (.aload_n 0, 1) := by decide +kernel
theorem dX0_become_131 : decode cX0_become 131 = .ok (.getfield 30, 3) := by decide +kernel
theorem dX0_become_134 : decode cX0_become 134 = .ok (.aload_n 0, 1) := by decide +kernel
theorem dX0_become_135 : decode cX0_become 135 = .ok (.getfield 30, 3) := by decide +kernel
theorem dX0_become_138 : decode cX0_become 138 = .ok (.invokevirtual 45, 3) := by decide +kernel
theorem dX0_become_141 : decode cX0_become 141 = .ok (.putfield 33, 3) := by decide +kernel
theorem dX0_become_144 : decode cX0_become 144 = .ok (.iconst 1, 1) := by decide +kernel
theorem dX0_become_145 : decode cX0_become 145 = .ok (.ireturn, 1) := by decide +kernel
theorem dX0_hasRoot_0 : decode cX0_hasRoot 0 = .ok (.iconst 0, 1) := by decide +kernel
theorem dX0_hasRoot_1 : decode cX0_hasRoot 1 = .ok (.istore 4, 2) := by decide +kernel
theorem dX0_hasRoot_3 : decode cX0_hasRoot 3 = .ok (.iload 4, 2) := by decide +kernel
theorem dX0_hasRoot_5 : decode cX0_hasRoot 5 = .ok (.bipush 101, 2) := by decide +kernel
theorem dX0_hasRoot_7 : decode cX0_hasRoot 7 = .ok (.if_icmp .ge 50, 3) := by decide +kernel
theorem dX0_hasRoot_10 : decode cX0_hasRoot 10 = .ok (.iload_n 0, 1) := by decide +kernel
theorem dX0_hasRoot_11 : decode cX0_hasRoot 11 = .ok (.iconst 2, 1) := by decide +kernel
theorem dX0_hasRoot_12 : decode cX0_hasRoot 12 = .ok (.if_icmp .ne 7, 3) := by decide +kernel
theorem dX0_hasRoot_15 : decode cX0_hasRoot 15 = .ok (.iconst 1, 1) := by decide +kernel
theorem dX0_hasRoot_16 : decode cX0_hasRoot 16 = .ok (.goto 10, 3) := by decide +kernel
theorem dX0_hasRoot_19 : decode cX0_hasRoot 19 = .ok (.iload 4, 2) := by decide +kernel
theorem dX0_hasRoot_21 : decode cX0_hasRoot 21 = .ok (.iload_n 3, 1) := by decide +kernel
theorem dX0_hasRoot_22 : decode cX0_hasRoot 22 = .ok (.iadd, 1) := by decide +kernel
theorem dX0_hasRoot_23 : decode cX0_hasRoot 23 = .ok (.bipush 101, 2) := by decide +kernel
theorem dX0_hasRoot_25 : decode cX0_hasRoot 25 = .ok (.irem, 1) := by decide +kernel
theorem dX0_hasRoot_26 : decode cX0_hasRoot 26 = .ok (.istore 5, 2) := by decide +kernel
theorem dX0_hasRoot_28 : decode cX0_hasRoot 28 = .ok (.iload 5, 2) := by decide +kernel
theorem dX0_hasRoot_30 : decode cX0_hasRoot 30 = .ok (.iload 4, 2) := by decide +kernel
theorem dX0_hasRoot_32 : decode cX0_hasRoot 32 = .ok (.imul, 1) := by decide +kernel
theorem dX0_hasRoot_33 : decode cX0_hasRoot 33 = .ok (.iload_n 2, 1) := by decide +kernel
theorem dX0_hasRoot_34 : decode cX0_hasRoot 34 = .ok (.iadd, 1) := by decide +kernel
theorem dX0_hasRoot_35 : decode cX0_hasRoot 35 = .ok (.bipush 101, 2) := by decide +kernel
theorem dX0_hasRoot_37 : decode cX0_hasRoot 37 = .ok (.irem, 1) := by decide +kernel
theorem dX0_hasRoot_38 : decode cX0_hasRoot 38 = .ok (.iload 4, 2) := by decide +kernel
theorem dX0_hasRoot_40 : decode cX0_hasRoot 40 = .ok (.imul, 1) := by decide +kernel
theorem dX0_hasRoot_41 : decode cX0_hasRoot 41 = .ok (.iload_n 1, 1) := by decide +kernel
theorem dX0_hasRoot_42 : decode cX0_hasRoot 42 = .ok (.iadd, 1) := by decide +kernel
theorem dX0_hasRoot_43 : decode cX0_hasRoot 43 = .ok (.bipush 101, 2) := by decide +kernel
theorem dX0_hasRoot_45 : decode cX0_hasRoot 45 = .ok (.irem, 1) := by decide +kernel
theorem dX0_hasRoot_46 : decode cX0_hasRoot 46 = .ok (.ifCond .ne 5, 3) := by decide +kernel
theorem dX0_hasRoot_49 : decode cX0_hasRoot 49 = .ok (.iconst 1, 1) := by decide +kernel
theorem dX0_hasRoot_50 : decode cX0_hasRoot 50 = .ok (.ireturn, 1) := by decide +kernel
theorem dX0_hasRoot_51 : decode cX0_hasRoot 51 = .ok (.iinc 4 1, 3) := by decide +kernel
theorem dX0_hasRoot_54 : decode cX0_hasRoot 54 = .ok (.goto (-51), 3) := by decide +kernel
theorem dX0_hasRoot_57 : decode cX0_hasRoot 57 = .ok (.iconst 0, 1) := by decide +kernel
theorem dX0_hasRoot_58 : decode cX0_hasRoot 58 = .ok (.ireturn, 1) := by decide +kernel
theorem dX0_modulusAt_0 : decode cX0_modulusAt 0 = .ok (.iload_n 1, 1) := by decide +kernel
theorem dX0_modulusAt_1 : decode cX0_modulusAt 1 = .ok (.aload_n 0, 1) := by decide +kernel
theorem dX0_modulusAt_2 : decode cX0_modulusAt 2 = .ok (.getfield 9, 3) := by decide +kernel
theorem dX0_modulusAt_5 : decode cX0_modulusAt 5 = .ok (.if_icmp .ne 5, 3) := by decide +kernel
theorem dX0_modulusAt_8 : decode cX0_modulusAt 8 = .ok (.iconst 1, 1) := by decide +kernel
theorem dX0_modulusAt_9 : decode cX0_modulusAt 9 = .ok (.ireturn, 1) := by decide +kernel
theorem dX0_modulusAt_10 : decode cX0_modulusAt 10 = .ok (.iload_n 1, 1) := by decide +kernel
theorem dX0_modulusAt_11 : decode cX0_modulusAt 11 = .ok (.tableswitch 40 0 2 #[25, 30, 35], 25) := by decide +kernel
theorem dX0_modulusAt_36 : decode cX0_modulusAt 36 = .ok (.aload_n 0, 1) := by decide +kernel
theorem dX0_modulusAt_37 : decode cX0_modulusAt 37 = .ok (.getfield 18, 3) := by decide +kernel
theorem dX0_modulusAt_40 : decode cX0_modulusAt 40 = .ok (.ireturn, 1) := by decide +kernel
theorem dX0_modulusAt_41 : decode cX0_modulusAt 41 = .ok (.aload_n 0, 1) := by decide +kernel
theorem dX0_modulusAt_42 : decode cX0_modulusAt 42 = .ok (.getfield 21, 3) := by decide +kernel
theorem dX0_modulusAt_45 : decode cX0_modulusAt 45 = .ok (.ireturn, 1) := by decide +kernel
theorem dX0_modulusAt_46 : decode cX0_modulusAt 46 = .ok (.aload_n 0, 1) := by decide +kernel
theorem dX0_modulusAt_47 : decode cX0_modulusAt 47 = .ok (.getfield 24, 3) := by decide +kernel
theorem dX0_modulusAt_50 : decode cX0_modulusAt 50 = .ok (.ireturn, 1) := by decide +kernel
theorem dX0_modulusAt_51 : decode cX0_modulusAt 51 = .ok (.iconst 0, 1) := by decide +kernel
theorem dX0_modulusAt_52 : decode cX0_modulusAt 52 = .ok (.ireturn, 1) := by decide +kernel
theorem dX0_plus_0 : decode cX0_plus 0 = .ok (.iload_n 1, 1) := by decide +kernel
theorem dX0_plus_1 : decode cX0_plus 1 = .ok (.bipush 101, 2) := by decide +kernel
theorem dX0_plus_3 : decode cX0_plus 3 = .ok (.irem, 1) := by decide +kernel
theorem dX0_plus_4 : decode cX0_plus 4 = .ok (.iload_n 2, 1) := by decide +kernel
theorem dX0_plus_5 : decode cX0_plus 5 = .ok (.bipush 101, 2) := by decide +kernel
theorem dX0_plus_7 : decode cX0_plus 7 = .ok (.irem, 1) := by decide +kernel
theorem dX0_plus_8 : decode cX0_plus 8 = .ok (.iadd, 1) := by decide +kernel
theorem dX0_plus_9 : decode cX0_plus 9 = .ok (.bipush 101, 2) := by decide +kernel
theorem dX0_plus_11 : decode cX0_plus 11 = .ok (.irem, 1) := by decide +kernel
theorem dX0_plus_12 : decode cX0_plus 12 = .ok (.istore_n 3, 1) := by decide +kernel
theorem dX0_plus_13 : decode cX0_plus 13 = .ok (.iload_n 1, 1) := by decide +kernel
theorem dX0_plus_14 : decode cX0_plus 14 = .ok (.bipush 101, 2) := by decide +kernel
theorem dX0_plus_16 : decode cX0_plus 16 = .ok (.idiv, 1) := by decide +kernel
theorem dX0_plus_17 : decode cX0_plus 17 = .ok (.bipush 101, 2) := by decide +kernel
theorem dX0_plus_19 : decode cX0_plus 19 = .ok (.irem, 1) := by decide +kernel
theorem dX0_plus_20 : decode cX0_plus 20 = .ok (.iload_n 2, 1) := by decide +kernel
theorem dX0_plus_21 : decode cX0_plus 21 = .ok (.bipush 101, 2) := by decide +kernel
theorem dX0_plus_23 : decode cX0_plus 23 = .ok (.idiv, 1) := by decide +kernel
theorem dX0_plus_24 : decode cX0_plus 24 = .ok (.bipush 101, 2) := by decide +kernel
theorem dX0_plus_26 : decode cX0_plus 26 = .ok (.irem, 1) := by decide +kernel
theorem dX0_plus_27 : decode cX0_plus 27 = .ok (.iadd, 1) := by decide +kernel
theorem dX0_plus_28 : decode cX0_plus 28 = .ok (.bipush 101, 2) := by decide +kernel
theorem dX0_plus_30 : decode cX0_plus 30 = .ok (.irem, 1) := by decide +kernel
theorem dX0_plus_31 : decode cX0_plus 31 = .ok (.istore 4, 2) := by decide +kernel
theorem dX0_plus_33 : decode cX0_plus 33 = .ok (.iload_n 1, 1) := by decide +kernel
theorem dX0_plus_34 : decode cX0_plus 34 = .ok (.sipush 10201, 3) := by decide +kernel
theorem dX0_plus_37 : decode cX0_plus 37 = .ok (.idiv, 1) := by decide +kernel
theorem dX0_plus_38 : decode cX0_plus 38 = .ok (.iload_n 2, 1) := by decide +kernel
theorem dX0_plus_39 : decode cX0_plus 39 = .ok (.sipush 10201, 3) := by decide +kernel
theorem dX0_plus_42 : decode cX0_plus 42 = .ok (.idiv, 1) := by decide +kernel
theorem dX0_plus_43 : decode cX0_plus 43 = .ok (.iadd, 1) := by decide +kernel
theorem dX0_plus_44 : decode cX0_plus 44 = .ok (.bipush 101, 2) := by decide +kernel
theorem dX0_plus_46 : decode cX0_plus 46 = .ok (.irem, 1) := by decide +kernel
theorem dX0_plus_47 : decode cX0_plus 47 = .ok (.istore 5, 2) := by decide +kernel
theorem dX0_plus_49 : decode cX0_plus 49 = .ok (.iload_n 3, 1) := by decide +kernel
theorem dX0_plus_50 : decode cX0_plus 50 = .ok (.bipush 101, 2) := by decide +kernel
theorem dX0_plus_52 : decode cX0_plus 52 = .ok (.iload 4, 2) := by decide +kernel
theorem dX0_plus_54 : decode cX0_plus 54 = .ok (.imul, 1) := by decide +kernel
theorem dX0_plus_55 : decode cX0_plus 55 = .ok (.iadd, 1) := by decide +kernel
theorem dX0_plus_56 : decode cX0_plus 56 = .ok (.sipush 10201, 3) := by decide +kernel
theorem dX0_plus_59 : decode cX0_plus 59 = .ok (.iload 5, 2) := by decide +kernel
theorem dX0_plus_61 : decode cX0_plus 61 = .ok (.imul, 1) := by decide +kernel
theorem dX0_plus_62 : decode cX0_plus 62 = .ok (.iadd, 1) := by decide +kernel
theorem dX0_plus_63 : decode cX0_plus 63 = .ok (.ireturn, 1) := by decide +kernel
theorem dX0_minus_0 : decode cX0_minus 0 = .ok (.iload_n 1, 1) := by decide +kernel
theorem dX0_minus_1 : decode cX0_minus 1 = .ok (.bipush 101, 2) := by decide +kernel
theorem dX0_minus_3 : decode cX0_minus 3 = .ok (.irem, 1) := by decide +kernel
theorem dX0_minus_4 : decode cX0_minus 4 = .ok (.iload_n 2, 1) := by decide +kernel
theorem dX0_minus_5 : decode cX0_minus 5 = .ok (.bipush 101, 2) := by decide +kernel
theorem dX0_minus_7 : decode cX0_minus 7 = .ok (.irem, 1) := by decide +kernel
theorem dX0_minus_8 : decode cX0_minus 8 = .ok (.isub, 1) := by decide +kernel
theorem dX0_minus_9 : decode cX0_minus 9 = .ok (.bipush 101, 2) := by decide +kernel
theorem dX0_minus_11 : decode cX0_minus 11 = .ok (.iadd, 1) := by decide +kernel
theorem dX0_minus_12 : decode cX0_minus 12 = .ok (.bipush 101, 2) := by decide +kernel
theorem dX0_minus_14 : decode cX0_minus 14 = .ok (.irem, 1) := by decide +kernel
theorem dX0_minus_15 : decode cX0_minus 15 = .ok (.istore_n 3, 1) := by decide +kernel
theorem dX0_minus_16 : decode cX0_minus 16 = .ok (.iload_n 1, 1) := by decide +kernel
theorem dX0_minus_17 : decode cX0_minus 17 = .ok (.bipush 101, 2) := by decide +kernel
theorem dX0_minus_19 : decode cX0_minus 19 = .ok (.idiv, 1) := by decide +kernel
theorem dX0_minus_20 : decode cX0_minus 20 = .ok (.bipush 101, 2) := by decide +kernel
theorem dX0_minus_22 : decode cX0_minus 22 = .ok (.irem, 1) := by decide +kernel
theorem dX0_minus_23 : decode cX0_minus 23 = .ok (.iload_n 2, 1) := by decide +kernel
theorem dX0_minus_24 : decode cX0_minus 24 = .ok (.bipush 101, 2) := by decide +kernel
theorem dX0_minus_26 : decode cX0_minus 26 = .ok (.idiv, 1) := by decide +kernel
theorem dX0_minus_27 : decode cX0_minus 27 = .ok (.bipush 101, 2) := by decide +kernel
theorem dX0_minus_29 : decode cX0_minus 29 = .ok (.irem, 1) := by decide +kernel
theorem dX0_minus_30 : decode cX0_minus 30 = .ok (.isub, 1) := by decide +kernel
theorem dX0_minus_31 : decode cX0_minus 31 = .ok (.bipush 101, 2) := by decide +kernel
theorem dX0_minus_33 : decode cX0_minus 33 = .ok (.iadd, 1) := by decide +kernel
theorem dX0_minus_34 : decode cX0_minus 34 = .ok (.bipush 101, 2) := by decide +kernel
theorem dX0_minus_36 : decode cX0_minus 36 = .ok (.irem, 1) := by decide +kernel
theorem dX0_minus_37 : decode cX0_minus 37 = .ok (.istore 4, 2) := by decide +kernel
theorem dX0_minus_39 : decode cX0_minus 39 = .ok (.iload_n 1, 1) := by decide +kernel
theorem dX0_minus_40 : decode cX0_minus 40 = .ok (.sipush 10201, 3) := by decide +kernel
theorem dX0_minus_43 : decode cX0_minus 43 = .ok (.idiv, 1) := by decide +kernel
theorem dX0_minus_44 : decode cX0_minus 44 = .ok (.iload_n 2, 1) := by decide +kernel
theorem dX0_minus_45 : decode cX0_minus 45 = .ok (.sipush 10201, 3) := by decide +kernel
theorem dX0_minus_48 : decode cX0_minus 48 = .ok (.idiv, 1) := by decide +kernel
theorem dX0_minus_49 : decode cX0_minus 49 = .ok (.isub, 1) := by decide +kernel
theorem dX0_minus_50 : decode cX0_minus 50 = .ok (.bipush 101, 2) := by decide +kernel
theorem dX0_minus_52 : decode cX0_minus 52 = .ok (.iadd, 1) := by decide +kernel
theorem dX0_minus_53 : decode cX0_minus 53 = .ok (.bipush 101, 2) := by decide +kernel
theorem dX0_minus_55 : decode cX0_minus 55 = .ok (.irem, 1) := by decide +kernel
theorem dX0_minus_56 : decode cX0_minus 56 = .ok (.istore 5, 2) := by decide +kernel
theorem dX0_minus_58 : decode cX0_minus 58 = .ok (.iload_n 3, 1) := by decide +kernel
theorem dX0_minus_59 : decode cX0_minus 59 = .ok (.bipush 101, 2) := by decide +kernel
theorem dX0_minus_61 : decode cX0_minus 61 = .ok (.iload 4, 2) := by decide +kernel
theorem dX0_minus_63 : decode cX0_minus 63 = .ok (.imul, 1) := by decide +kernel
theorem dX0_minus_64 : decode cX0_minus 64 = .ok (.iadd, 1) := by decide +kernel
theorem dX0_minus_65 : decode cX0_minus 65 = .ok (.sipush 10201, 3) := by decide +kernel
theorem dX0_minus_68 : decode cX0_minus 68 = .ok (.iload 5, 2) := by decide +kernel
theorem dX0_minus_70 : decode cX0_minus 70 = .ok (.imul, 1) := by decide +kernel
theorem dX0_minus_71 : decode cX0_minus 71 = .ok (.iadd, 1) := by decide +kernel
theorem dX0_minus_72 : decode cX0_minus 72 = .ok (.ireturn, 1) := by decide +kernel
theorem dX0_times_0 : decode cX0_times 0 = .ok (.iload_n 1, 1) := by decide +kernel
theorem dX0_times_1 : decode cX0_times 1 = .ok (.bipush 101, 2) := by decide +kernel
theorem dX0_times_3 : decode cX0_times 3 = .ok (.if_icmp .ge 16, 3) := by decide +kernel
theorem dX0_times_6 : decode cX0_times 6 = .ok (.iload_n 2, 1) := by decide +kernel
theorem dX0_times_7 : decode cX0_times 7 = .ok (.bipush 101, 2) := by decide +kernel
theorem dX0_times_9 : decode cX0_times 9 = .ok (.if_icmp .ge 10, 3) := by decide +kernel
theorem dX0_times_12 : decode cX0_times 12 = .ok (.iload_n 1, 1) := by decide +kernel
theorem dX0_times_13 : decode cX0_times 13 = .ok (.iload_n 2, 1) := by decide +kernel
theorem dX0_times_14 : decode cX0_times 14 = .ok (.imul, 1) := by decide +kernel
theorem dX0_times_15 : decode cX0_times 15 = .ok (.bipush 101, 2) := by decide +kernel
theorem dX0_times_17 : decode cX0_times 17 = .ok (.irem, 1) := by decide +kernel
theorem dX0_times_18 : decode cX0_times 18 = .ok (.ireturn, 1) := by decide +kernel
theorem dX0_times_19 : decode cX0_times 19 = .ok (.iload_n 1, 1) := by decide +kernel
theorem dX0_times_20 : decode cX0_times 20 = .ok (.bipush 101, 2) := by decide +kernel
theorem dX0_times_22 : decode cX0_times 22 = .ok (.irem, 1) := by decide +kernel
theorem dX0_times_23 : decode cX0_times 23 = .ok (.istore_n 3, 1) := by decide +kernel
theorem dX0_times_24 : decode cX0_times 24 = .ok (.iload_n 1, 1) := by decide +kernel
theorem dX0_times_25 : decode cX0_times 25 = .ok (.bipush 101, 2) := by decide +kernel
theorem dX0_times_27 : decode cX0_times 27 = .ok (.idiv, 1) := by decide +kernel
theorem dX0_times_28 : decode cX0_times 28 = .ok (.bipush 101, 2) := by decide +kernel
theorem dX0_times_30 : decode cX0_times 30 = .ok (.irem, 1) := by decide +kernel
theorem dX0_times_31 : decode cX0_times 31 = .ok (.istore 4, 2) := by decide +kernel
theorem dX0_times_33 : decode cX0_times 33 = .ok (.iload_n 1, 1) := by decide +kernel
theorem dX0_times_34 : decode cX0_times 34 = .ok (.sipush 10201, 3) := by decide +kernel
theorem dX0_times_37 : decode cX0_times 37 = .ok (.idiv, 1) := by decide +kernel
theorem dX0_times_38 : decode cX0_times 38 = .ok (.istore 5, 2) := by decide +kernel
theorem dX0_times_40 : decode cX0_times 40 = .ok (.iload_n 2, 1) := by decide +kernel
theorem dX0_times_41 : decode cX0_times 41 = .ok (.bipush 101, 2) := by decide +kernel
theorem dX0_times_43 : decode cX0_times 43 = .ok (.irem, 1) := by decide +kernel
theorem dX0_times_44 : decode cX0_times 44 = .ok (.istore 6, 2) := by decide +kernel
theorem dX0_times_46 : decode cX0_times 46 = .ok (.iload_n 2, 1) := by decide +kernel
theorem dX0_times_47 : decode cX0_times 47 = .ok (.bipush 101, 2) := by decide +kernel
theorem dX0_times_49 : decode cX0_times 49 = .ok (.idiv, 1) := by decide +kernel
theorem dX0_times_50 : decode cX0_times 50 = .ok (.bipush 101, 2) := by decide +kernel
theorem dX0_times_52 : decode cX0_times 52 = .ok (.irem, 1) := by decide +kernel
theorem dX0_times_53 : decode cX0_times 53 = .ok (.istore 7, 2) := by decide +kernel
theorem dX0_times_55 : decode cX0_times 55 = .ok (.iload_n 2, 1) := by decide +kernel
theorem dX0_times_56 : decode cX0_times 56 = .ok (.sipush 10201, 3) := by decide +kernel
theorem dX0_times_59 : decode cX0_times 59 = .ok (.idiv, 1) := by decide +kernel
theorem dX0_times_60 : decode cX0_times 60 = .ok (.istore 8, 2) := by decide +kernel
theorem dX0_times_62 : decode cX0_times 62 = .ok (.iload_n 3, 1) := by decide +kernel
theorem dX0_times_63 : decode cX0_times 63 = .ok (.iload 6, 2) := by decide +kernel
theorem dX0_times_65 : decode cX0_times 65 = .ok (.imul, 1) := by decide +kernel
theorem dX0_times_66 : decode cX0_times 66 = .ok (.istore 9, 2) := by decide +kernel
theorem dX0_times_68 : decode cX0_times 68 = .ok (.iload_n 3, 1) := by decide +kernel
theorem dX0_times_69 : decode cX0_times 69 = .ok (.iload 7, 2) := by decide +kernel
theorem dX0_times_71 : decode cX0_times 71 = .ok (.imul, 1) := by decide +kernel
theorem dX0_times_72 : decode cX0_times 72 = .ok (.iload 4, 2) := by decide +kernel
theorem dX0_times_74 : decode cX0_times 74 = .ok (.iload 6, 2) := by decide +kernel
theorem dX0_times_76 : decode cX0_times 76 = .ok (.imul, 1) := by decide +kernel
theorem dX0_times_77 : decode cX0_times 77 = .ok (.iadd, 1) := by decide +kernel
theorem dX0_times_78 : decode cX0_times 78 = .ok (.istore 10, 2) := by decide +kernel
theorem dX0_times_80 : decode cX0_times 80 = .ok (.iload_n 3, 1) := by decide +kernel
theorem dX0_times_81 : decode cX0_times 81 = .ok (.iload 8, 2) := by decide +kernel
theorem dX0_times_83 : decode cX0_times 83 = .ok (.imul, 1) := by decide +kernel
theorem dX0_times_84 : decode cX0_times 84 = .ok (.iload 4, 2) := by decide +kernel
theorem dX0_times_86 : decode cX0_times 86 = .ok (.iload 7, 2) := by decide +kernel
theorem dX0_times_88 : decode cX0_times 88 = .ok (.imul, 1) := by decide +kernel
theorem dX0_times_89 : decode cX0_times 89 = .ok (.iadd, 1) := by decide +kernel
theorem dX0_times_90 : decode cX0_times 90 = .ok (.iload 5, 2) := by decide +kernel
theorem dX0_times_92 : decode cX0_times 92 = .ok (.iload 6, 2) := by decide +kernel
theorem dX0_times_94 : decode cX0_times 94 = .ok (.imul, 1) := by decide +kernel
theorem dX0_times_95 : decode cX0_times 95 = .ok (.iadd, 1) := by decide +kernel
theorem dX0_times_96 : decode cX0_times 96 = .ok (.istore 11, 2) := by decide +kernel
theorem dX0_times_98 : decode cX0_times 98 = .ok (.aload_n 0, 1) := by decide +kernel
theorem dX0_times_99 : decode cX0_times 99 = .ok (.getfield 9, 3) := by decide +kernel
theorem dX0_times_102 : decode cX0_times 102 = .ok (.iconst 2, 1) := by decide +kernel
theorem dX0_times_103 : decode cX0_times 103 = .ok (.if_icmp .ne 55, 3) := by decide +kernel
theorem dX0_times_106 : decode cX0_times 106 = .ok (.bipush 101, 2) := by decide +kernel
theorem dX0_times_108 : decode cX0_times 108 = .ok (.iload 11, 2) := by decide +kernel
theorem dX0_times_110 : decode cX0_times 110 = .ok (.bipush 101, 2) := by decide +kernel
theorem dX0_times_112 : decode cX0_times 112 = .ok (.irem, 1) := by decide +kernel
theorem dX0_times_113 : decode cX0_times 113 = .ok (.isub, 1) := by decide +kernel
theorem dX0_times_114 : decode cX0_times 114 = .ok (.bipush 101, 2) := by decide +kernel
theorem dX0_times_116 : decode cX0_times 116 = .ok (.irem, 1) := by decide +kernel
theorem dX0_times_117 : decode cX0_times 117 = .ok (.istore 12, 2) := by decide +kernel
theorem dX0_times_119 : decode cX0_times 119 = .ok (.iload 10, 2) := by decide +kernel
theorem dX0_times_121 : decode cX0_times 121 = .ok (.iload 12, 2) := by decide +kernel
theorem dX0_times_123 : decode cX0_times 123 = .ok (.aload_n 0, 1) := by decide +kernel
theorem dX0_times_124 : decode cX0_times 124 = .ok (.getfield 21, 3) := by decide +kernel
theorem dX0_times_127 : decode cX0_times 127 = .ok (.imul, 1) := by decide +kernel
theorem dX0_times_128 : decode cX0_times 128 = .ok (.iadd, 1) := by decide +kernel
theorem dX0_times_129 : decode cX0_times 129 = .ok (.istore 10, 2) := by decide +kernel
theorem dX0_times_131 : decode cX0_times 131 = .ok (.iload 9, 2) := by decide +kernel
theorem dX0_times_133 : decode cX0_times 133 = .ok (.iload 12, 2) := by decide +kernel
theorem dX0_times_135 : decode cX0_times 135 = .ok (.aload_n 0, 1) := by decide +kernel
theorem dX0_times_136 : decode cX0_times 136 = .ok (.getfield 18, 3) := by decide +kernel
theorem dX0_times_139 : decode cX0_times 139 = .ok (.imul, 1) := by decide +kernel
theorem dX0_times_140 : decode cX0_times 140 = .ok (.iadd, 1) := by decide +kernel
theorem dX0_times_141 : decode cX0_times 141 = .ok (.istore 9, 2) := by decide +kernel
theorem dX0_times_143 : decode cX0_times 143 = .ok (.iload 9, 2) := by decide +kernel
theorem dX0_times_145 : decode cX0_times 145 = .ok (.bipush 101, 2) := by decide +kernel
theorem dX0_times_147 : decode cX0_times 147 = .ok (.irem, 1) := by decide +kernel
theorem dX0_times_148 : decode cX0_times 148 = .ok (.bipush 101, 2) := by decide +kernel
theorem dX0_times_150 : decode cX0_times 150 = .ok (.iload 10, 2) := by decide +kernel
theorem dX0_times_152 : decode cX0_times 152 = .ok (.bipush 101, 2) := by decide +kernel
theorem dX0_times_154 : decode cX0_times 154 = .ok (.irem, 1) := by decide +kernel
theorem dX0_times_155 : decode cX0_times 155 = .ok (.imul, 1) := by decide +kernel
theorem dX0_times_156 : decode cX0_times 156 = .ok (.iadd, 1) := by decide +kernel
theorem dX0_times_157 : decode cX0_times 157 = .ok (.ireturn, 1) := by decide +kernel
theorem dX0_times_158 : decode cX0_times 158 = .ok (.bipush 101, 2) := by decide +kernel
theorem dX0_times_160 : decode cX0_times 160 = .ok (.iload 5, 2) := by decide +kernel
theorem dX0_times_162 : decode cX0_times 162 = .ok (.iload 8, 2) := by decide +kernel
theorem dX0_times_164 : decode cX0_times 164 = .ok (.imul, 1) := by decide +kernel
theorem dX0_times_165 : decode cX0_times 165 = .ok (.bipush 101, 2) := by decide +kernel
theorem dX0_times_167 : decode cX0_times 167 = .ok (.irem, 1) := by decide +kernel
theorem dX0_times_168 : decode cX0_times 168 = .ok (.isub, 1) := by decide +kernel
theorem dX0_times_169 : decode cX0_times 169 = .ok (.bipush 101, 2) := by decide +kernel
theorem dX0_times_171 : decode cX0_times 171 = .ok (.irem, 1) := by decide +kernel
theorem dX0_times_172 : decode cX0_times 172 = .ok (.istore 12, 2) := by decide +kernel
theorem dX0_times_174 : decode cX0_times 174 = .ok (.iload 4, 2) := by decide +kernel
theorem dX0_times_176 : decode cX0_times 176 = .ok (.iload 8, 2) := by decide +kernel
theorem dX0_times_178 : decode cX0_times 178 = .ok (.imul, 1) := by decide +kernel
theorem dX0_times_179 : decode cX0_times 179 = .ok (.iload 5, 2) := by decide +kernel
theorem dX0_times_181 : decode cX0_times 181 = .ok (.iload 7, 2) := by decide +kernel
theorem dX0_times_183 : decode cX0_times 183 = .ok (.imul, 1) := by decide +kernel
theorem dX0_times_184 : decode cX0_times 184 = .ok (.iadd, 1) := by decide +kernel
theorem dX0_times_185 : decode cX0_times 185 = .ok (.iload 12, 2) := by decide +kernel
theorem dX0_times_187 : decode cX0_times 187 = .ok (.aload_n 0, 1) := by decide +kernel
theorem dX0_times_188 : decode cX0_times 188 = .ok (.getfield 24, 3) := by decide +kernel
theorem dX0_times_191 : decode cX0_times 191 = .ok (.imul, 1) := by decide +kernel
theorem dX0_times_192 : decode cX0_times 192 = .ok (.iadd, 1) := by decide +kernel
theorem dX0_times_193 : decode cX0_times 193 = .ok (.istore 13, 2) := by decide +kernel
theorem dX0_times_195 : decode cX0_times 195 = .ok (.bipush 101, 2) := by decide +kernel
theorem dX0_times_197 : decode cX0_times 197 = .ok (.iload 13, 2) := by decide +kernel
theorem dX0_times_199 : decode cX0_times 199 = .ok (.bipush 101, 2) := by decide +kernel
theorem dX0_times_201 : decode cX0_times 201 = .ok (.irem, 1) := by decide +kernel
theorem dX0_times_202 : decode cX0_times 202 = .ok (.isub, 1) := by decide +kernel
theorem dX0_times_203 : decode cX0_times 203 = .ok (.bipush 101, 2) := by decide +kernel
theorem dX0_times_205 : decode cX0_times 205 = .ok (.irem, 1) := by decide +kernel
theorem dX0_times_206 : decode cX0_times 206 = .ok (.istore 14, 2) := by decide +kernel
theorem dX0_times_208 : decode cX0_times 208 = .ok (.iload 11, 2) := by decide +kernel
theorem dX0_times_210 : decode cX0_times 210 = .ok (.iload 12, 2) := by decide +kernel
theorem dX0_times_212 : decode cX0_times 212 = .ok (.aload_n 0, 1) := by decide +kernel
theorem dX0_times_213 : decode cX0_times 213 = .ok (.getfield 21, 3) := by decide +kernel
theorem dX0_times_216 : decode cX0_times 216 = .ok (.imul, 1) := by decide +kernel
theorem dX0_times_217 : decode cX0_times 217 = .ok (.iload 14, 2) := by decide +kernel
theorem dX0_times_219 : decode cX0_times 219 = .ok (.aload_n 0, 1) := by decide +kernel
theorem dX0_times_220 : decode cX0_times 220 = .ok (.getfield 24, 3) := by decide +kernel
theorem dX0_times_223 : decode cX0_times 223 = .ok (.imul, 1) := by decide +kernel
theorem dX0_times_224 : decode cX0_times 224 = .ok (.iadd, 1) := by decide +kernel
theorem dX0_times_225 : decode cX0_times 225 = .ok (.iadd, 1) := by decide +kernel
theorem dX0_times_226 : decode cX0_times 226 = .ok (.istore 11, 2) := by decide +kernel
theorem dX0_times_228 : decode cX0_times 228 = .ok (.iload 10, 2) := by decide +kernel
theorem dX0_times_230 : decode cX0_times 230 = .ok (.iload 12, 2) := by decide +kernel
theorem dX0_times_232 : decode cX0_times 232 = .ok (.aload_n 0, 1) := by decide +kernel
theorem dX0_times_233 : decode cX0_times 233 = .ok (.getfield 18, 3) := by decide +kernel
theorem dX0_times_236 : decode cX0_times 236 = .ok (.imul, 1) := by decide +kernel
theorem dX0_times_237 : decode cX0_times 237 = .ok (.iload 14, 2) := by decide +kernel
theorem dX0_times_239 : decode cX0_times 239 = .ok (.aload_n 0, 1) := by decide +kernel
theorem dX0_times_240 : decode cX0_times 240 = .ok (.getfield 21, 3) := by decide +kernel
theorem dX0_times_243 : decode cX0_times 243 = .ok (.imul, 1) := by decide +kernel
theorem dX0_times_244 : decode cX0_times 244 = .ok (.iadd, 1) := by decide +kernel
theorem dX0_times_245 : decode cX0_times 245 = .ok (.iadd, 1) := by decide +kernel
theorem dX0_times_246 : decode cX0_times 246 = .ok (.istore 10, 2) := by decide +kernel
theorem dX0_times_248 : decode cX0_times 248 = .ok (.iload 9, 2) := by decide +kernel
theorem dX0_times_250 : decode cX0_times 250 = .ok (.iload 14, 2) := by decide +kernel
theorem dX0_times_252 : decode cX0_times 252 = .ok (.aload_n 0, 1) := by decide +kernel
theorem dX0_times_253 : decode cX0_times 253 = .ok (.getfield 18, 3) := by decide +kernel
theorem dX0_times_256 : decode cX0_times 256 = .ok (.imul, 1) := by decide +kernel
theorem dX0_times_257 : decode cX0_times 257 = .ok (.iadd, 1) := by decide +kernel
theorem dX0_times_258 : decode cX0_times 258 = .ok (.istore 9, 2) := by decide +kernel
theorem dX0_times_260 : decode cX0_times 260 = .ok (.iload 9, 2) := by decide +kernel
theorem dX0_times_262 : decode cX0_times 262 = .ok (.bipush 101, 2) := by decide +kernel
theorem dX0_times_264 : decode cX0_times 264 = .ok (.irem, 1) := by decide +kernel
theorem dX0_times_265 : decode cX0_times 265 = .ok (.bipush 101, 2) := by decide +kernel
theorem dX0_times_267 : decode cX0_times 267 = .ok (.iload 10, 2) := by decide +kernel
theorem dX0_times_269 : decode cX0_times 269 = .ok (.bipush 101, 2) := by decide +kernel
theorem dX0_times_271 : decode cX0_times 271 = .ok (.irem, 1) := by decide +kernel
theorem dX0_times_272 : decode cX0_times 272 = .ok (.imul, 1) := by decide +kernel
theorem dX0_times_273 : decode cX0_times 273 = .ok (.iadd, 1) := by decide +kernel
theorem dX0_times_274 : decode cX0_times 274 = .ok (.sipush 10201, 3) := by decide +kernel
theorem dX0_times_277 : decode cX0_times 277 = .ok (.iload 11, 2) := by decide +kernel
theorem dX0_times_279 : decode cX0_times 279 = .ok (.bipush 101, 2) := by decide +kernel
theorem dX0_times_281 : decode cX0_times 281 = .ok (.irem, 1) := by decide +kernel
theorem dX0_times_282 : decode cX0_times 282 = .ok (.imul, 1) := by decide +kernel
theorem dX0_times_283 : decode cX0_times 283 = .ok (.iadd, 1) := by decide +kernel
theorem dX0_times_284 : decode cX0_times 284 = .ok (.ireturn, 1) := by decide +kernel
set_option maxRecDepth 20000 in
theorem ggX0_power_X0_times : GoodIn wsX0_power wsX0_times := goodIn_r _ [5, 6, 7, 8, 9, 10, 11, 12, 13, 14, 15, 16, 17] (by decide +kernel) (by decide +kernel)
set_option maxRecDepth 20000 in
theorem gX0_power_X0_times : GoodIn wsX0_power (wsV RX0 45 RX0 yX0_times wsX0_times) := goodIn_app (goodIn_of _ (by decide +kernel)) ggX0_power_X0_times
theorem dX0_power_0 : decode cX0_power 0 = .ok (.iconst 1, 1) := by decide +kernel
theorem dX0_power_1 : decode cX0_power 1 = .ok (.istore_n 3, 1) := by decide +kernel
theorem dX0_power_2 : decode cX0_power 2 = .ok (.iload_n 1, 1) := by decide +kernel
theorem dX0_power_3 : decode cX0_power 3 = .ok (.istore 4, 2) := by decide +kernel
theorem dX0_power_5 : decode cX0_power 5 = .ok (.iload_n 2, 1) := by decide +kernel
theorem dX0_power_6 : decode cX0_power 6 = .ok (.istore 5, 2) := by decide +kernel
theorem dX0_power_8 : decode cX0_power 8 = .ok (.iload 5, 2) := by decide +kernel
theorem dX0_power_10 : decode cX0_power 10 = .ok (.ifCond .le 38, 3) := by decide +kernel
theorem dX0_power_13 : decode cX0_power 13 = .ok (.iload 5, 2) := by decide +kernel
theorem dX0_power_15 : decode cX0_power 15 = .ok (.iconst 1, 1) := by decide +kernel
theorem dX0_power_16 : decode cX0_power 16 = .ok (.iand, 1) := by decide +kernel
theorem dX0_power_17 : decode cX0_power 17 = .ok (.iconst 1, 1) := by decide +kernel
theorem dX0_power_18 : decode cX0_power 18 = .ok (.if_icmp .ne 11, 3) := by decide +kernel
theorem dX0_power_21 : decode cX0_power 21 = .ok (.aload_n 0, 1) := by decide +kernel
theorem dX0_power_22 : decode cX0_power 22 = .ok (.iload_n 3, 1) := by decide +kernel
theorem dX0_power_23 : decode cX0_power 23 = .ok (.iload 4, 2) := by decide +kernel
theorem dX0_power_25 : decode cX0_power 25 = .ok (.invokevirtual 45, 3) := by decide +kernel
theorem dX0_power_28 : decode cX0_power 28 = .ok (.istore_n 3, 1) := by decide +kernel
theorem dX0_power_29 : decode cX0_power 29 = .ok (.aload_n 0, 1) := by decide +kernel
theorem dX0_power_30 : decode cX0_power 30 = .ok (.iload 4, 2) := by decide +kernel
theorem dX0_power_32 : decode cX0_power 32 = .ok (.iload 4, 2) := by decide +kernel
theorem dX0_power_34 : decode cX0_power 34 = .ok (.invokevirtual 45, 3) := by decide +kernel
theorem dX0_power_37 : decode cX0_power 37 = .ok (.istore 4, 2) := by decide +kernel
theorem dX0_power_39 : decode cX0_power 39 = .ok (.iload 5, 2) := by decide +kernel
theorem dX0_power_41 : decode cX0_power 41 = .ok (.iconst 1, 1) := by decide +kernel
theorem dX0_power_42 : decode cX0_power 42 = .ok (.ishr, 1) := by decide +kernel
theorem dX0_power_43 : decode cX0_power 43 = .ok (.istore 5, 2) := by decide +kernel
theorem dX0_power_45 : decode cX0_power 45 = .ok (.goto (-37), 3) := by decide +kernel
theorem dX0_power_48 : decode cX0_power 48 = .ok (.iload_n 3, 1) := by decide +kernel
theorem dX0_power_49 : decode cX0_power 49 = .ok (.ireturn, 1) := by decide +kernel
set_option maxRecDepth 20000 in
theorem ggX0_mate_X0_times : GoodIn wsX0_mate wsX0_times := goodIn_r _ [7, 8, 9, 10, 11, 16, 17, 18, 19, 20, 21, 22, 23] (by decide +kernel) (by decide +kernel)
set_option maxRecDepth 20000 in
theorem gX0_mate_X0_times : GoodIn wsX0_mate (wsV RX0 45 RX0 yX0_times wsX0_times) := goodIn_app (goodIn_of _ (by decide +kernel)) ggX0_mate_X0_times
set_option maxRecDepth 20000 in
theorem ggX0_mate_X0_plus : GoodIn wsX0_mate wsX0_plus := goodIn_r _ [15] (by decide +kernel) (by decide +kernel)
set_option maxRecDepth 20000 in
theorem gX0_mate_X0_plus : GoodIn wsX0_mate (wsV RX0 48 RX0 yX0_plus wsX0_plus) := goodIn_app (goodIn_of _ (by decide +kernel)) ggX0_mate_X0_plus
theorem dX0_mate_0 : decode cX0_mate 0 = .ok (.aload_n 0, 1) := by decide +kernel
theorem dX0_mate_1 : decode cX0_mate 1 = .ok (.iload_n 1, 1) := by decide +kernel
theorem dX0_mate_2 : decode cX0_mate 2 = .ok (.sipush 10201, 3) := by decide +kernel
theorem dX0_mate_5 : decode cX0_mate 5 = .ok (.idiv, 1) := by decide +kernel
theorem dX0_mate_6 : decode cX0_mate 6 = .ok (.aload_n 0, 1) := by decide +kernel
theorem dX0_mate_7 : decode cX0_mate 7 = .ok (.getfield 33, 3) := by decide +kernel
theorem dX0_mate_10 : decode cX0_mate 10 = .ok (.invokevirtual 45, 3) := by decide +kernel
theorem dX0_mate_13 : decode cX0_mate 13 = .ok (.istore_n 2, 1) := by decide +kernel
theorem dX0_mate_14 : decode cX0_mate 14 = .ok (.aload_n 0, 1) := by decide +kernel
theorem dX0_mate_15 : decode cX0_mate 15 = .ok (.iload_n 1, 1) := by decide +kernel
theorem dX0_mate_16 : decode cX0_mate 16 = .ok (.bipush 101, 2) := by decide +kernel
theorem dX0_mate_18 : decode cX0_mate 18 = .ok (.idiv, 1) := by decide +kernel
theorem dX0_mate_19 : decode cX0_mate 19 = .ok (.bipush 101, 2) := by decide +kernel
theorem dX0_mate_21 : decode cX0_mate 21 = .ok (.irem, 1) := by decide +kernel
theorem dX0_mate_22 : decode cX0_mate 22 = .ok (.aload_n 0, 1) := by decide +kernel
theorem dX0_mate_23 : decode cX0_mate 23 = .ok (.getfield 30, 3) := by decide +kernel
theorem dX0_mate_26 : decode cX0_mate 26 = .ok (.invokevirtual 45, 3) := by decide +kernel
theorem dX0_mate_29 : decode cX0_mate 29 = .ok (.istore_n 3, 1) := by decide +kernel
theorem dX0_mate_30 : decode cX0_mate 30 = .ok (.aload_n 0, 1) := by decide +kernel
theorem dX0_mate_31 : decode cX0_mate 31 = .ok (.iload_n 1, 1) := by decide +kernel
theorem dX0_mate_32 : decode cX0_mate 32 = .ok (.bipush 101, 2) := by decide +kernel
theorem dX0_mate_34 : decode cX0_mate 34 = .ok (.irem, 1) := by decide +kernel
theorem dX0_mate_35 : decode cX0_mate 35 = .ok (.aload_n 0, 1) := by decide +kernel
theorem dX0_mate_36 : decode cX0_mate 36 = .ok (.iload_n 3, 1) := by decide +kernel
theorem dX0_mate_37 : decode cX0_mate 37 = .ok (.iload_n 2, 1) := by decide +kernel
theorem dX0_mate_38 : decode cX0_mate 38 = .ok (.invokevirtual 48, 3) := by decide +kernel
theorem dX0_mate_41 : decode cX0_mate 41 = .ok (.invokevirtual 48, 3) := by decide +kernel
theorem dX0_mate_44 : decode cX0_mate 44 = .ok (.ireturn, 1) := by decide +kernel
set_option maxRecDepth 20000 in
theorem ggX0_isSquare_X0_power : GoodIn wsX0_isSquare wsX0_power := goodIn_r _ [6, 7, 8, 9, 5, 10, 11, 12, 13, 14, 15, 16, 17, 18, 19, 20, 21, 22] (by decide +kernel) (by decide +kernel)
set_option maxRecDepth 20000 in
theorem gX0_isSquare_X0_power : GoodIn wsX0_isSquare (wsV RX0 41 RX0 yX0_power wsX0_power) := goodIn_app (goodIn_of _ (by decide +kernel)) ggX0_isSquare_X0_power
theorem dX0_isSquare_0 : decode cX0_isSquare 0 = .ok (.iload_n 1, 1) := by decide +kernel
theorem dX0_isSquare_1 : decode cX0_isSquare 1 = .ok (.ifCond .eq 18, 3) := by decide +kernel
theorem dX0_isSquare_4 : decode cX0_isSquare 4 = .ok (.aload_n 0, 1) := by decide +kernel
theorem dX0_isSquare_5 : decode cX0_isSquare 5 = .ok (.iload_n 1, 1) := by decide +kernel
theorem dX0_isSquare_6 : decode cX0_isSquare 6 = .ok (.aload_n 0, 1) := by decide +kernel
theorem dX0_isSquare_7 : decode cX0_isSquare 7 = .ok (.getfield 15, 3) := by decide +kernel
theorem dX0_isSquare_10 : decode cX0_isSquare 10 = .ok (.iconst 2, 1) := by decide +kernel
theorem dX0_isSquare_11 : decode cX0_isSquare 11 = .ok (.idiv, 1) := by decide +kernel
theorem dX0_isSquare_12 : decode cX0_isSquare 12 = .ok (.invokevirtual 41, 3) := by decide +kernel
theorem dX0_isSquare_15 : decode cX0_isSquare 15 = .ok (.iconst 1, 1) := by decide +kernel
theorem dX0_isSquare_16 : decode cX0_isSquare 16 = .ok (.if_icmp .ne 7, 3) := by decide +kernel
theorem dX0_isSquare_19 : decode cX0_isSquare 19 = .ok (.iconst 1, 1) := by decide +kernel
theorem dX0_isSquare_20 : decode cX0_isSquare 20 = .ok (.goto 4, 3) := by decide +kernel
theorem dX0_isSquare_23 : decode cX0_isSquare 23 = .ok (.iconst 0, 1) := by decide +kernel
theorem dX0_isSquare_24 : decode cX0_isSquare 24 = .ok (.ireturn, 1) := by decide +kernel
set_option maxRecDepth 20000 in
theorem ggX0_matesProduct_X0_mate : GoodIn wsX0_matesProduct wsX0_mate := goodIn_r _ [6, 7, 8, 9, 10, 11, 5, 12, 1, 13, 14, 15, 16, 17, 18, 19, 20, 21, 22, 23, 24, 25, 26, 27] (by decide +kernel) (by decide +kernel)
set_option maxRecDepth 20000 in
theorem gX0_matesProduct_X0_mate : GoodIn wsX0_matesProduct (wsV RX0 51 RX0 yX0_mate wsX0_mate) := goodIn_app (goodIn_of _ (by decide +kernel)) ggX0_matesProduct_X0_mate
set_option maxRecDepth 20000 in
theorem ggX0_matesProduct_X0_times : GoodIn wsX0_matesProduct wsX0_times := goodIn_r _ [12, 1, 13, 14, 15, 20, 21, 22, 23, 24, 25, 26, 27] (by decide +kernel) (by decide +kernel)
set_option maxRecDepth 20000 in
theorem gX0_matesProduct_X0_times : GoodIn wsX0_matesProduct (wsV RX0 45 RX0 yX0_times wsX0_times) := goodIn_app (goodIn_of _ (by decide +kernel)) ggX0_matesProduct_X0_times
theorem dX0_matesProduct_0 : decode cX0_matesProduct 0 = .ok (.iload_n 1, 1) := by decide +kernel
theorem dX0_matesProduct_1 : decode cX0_matesProduct 1 = .ok (.istore_n 2, 1) := by decide +kernel
theorem dX0_matesProduct_2 : decode cX0_matesProduct 2 = .ok (.iload_n 1, 1) := by decide +kernel
theorem dX0_matesProduct_3 : decode cX0_matesProduct 3 = .ok (.istore_n 3, 1) := by decide +kernel
theorem dX0_matesProduct_4 : decode cX0_matesProduct 4 = .ok (.iconst 1, 1) := by decide +kernel
theorem dX0_matesProduct_5 : decode cX0_matesProduct 5 = .ok (.istore 4, 2) := by decide +kernel
theorem dX0_matesProduct_7 : decode cX0_matesProduct 7 = .ok (.iload 4, 2) := by decide +kernel
theorem dX0_matesProduct_9 : decode cX0_matesProduct 9 = .ok (.aload_n 0, 1) := by decide +kernel
theorem dX0_matesProduct_10 : decode cX0_matesProduct 10 = .ok (.getfield 9, 3) := by decide +kernel
theorem dX0_matesProduct_13 : decode cX0_matesProduct 13 = .ok (.if_icmp .ge 22, 3) := by decide +kernel
theorem dX0_matesProduct_16 : decode cX0_matesProduct 16 = .ok (.aload_n 0, 1) := by decide +kernel
theorem dX0_matesProduct_17 : decode cX0_matesProduct 17 = .ok (.iload_n 3, 1) := by decide +kernel
theorem dX0_matesProduct_18 : decode cX0_matesProduct 18 = .ok (.invokevirtual 51, 3) := by decide +kernel
theorem dX0_matesProduct_21 : decode cX0_matesProduct 21 = .ok (.istore_n 3, 1) := by decide +kernel
theorem dX0_matesProduct_22 : decode cX0_matesProduct 22 = .ok (.aload_n 0, 1) := by decide +kernel
theorem dX0_matesProduct_23 : decode cX0_matesProduct 23 = .ok (.iload_n 2, 1) := by decide +kernel
theorem dX0_matesProduct_24 : decode cX0_matesProduct 24 = .ok (.iload_n 3, 1) := by decide +kernel
theorem dX0_matesProduct_25 : decode cX0_matesProduct 25 = .ok (.invokevirtual 45, 3) := by decide +kernel
theorem dX0_matesProduct_28 : decode cX0_matesProduct 28 = .ok (.istore_n 2, 1) := by decide +kernel
theorem dX0_matesProduct_29 : decode cX0_matesProduct 29 = .ok (.iinc 4 1, 3) := by decide +kernel
theorem dX0_matesProduct_32 : decode cX0_matesProduct 32 = .ok (.goto (-25), 3) := by decide +kernel
theorem dX0_matesProduct_35 : decode cX0_matesProduct 35 = .ok (.iload_n 2, 1) := by decide +kernel
theorem dX0_matesProduct_36 : decode cX0_matesProduct 36 = .ok (.ireturn, 1) := by decide +kernel
set_option maxRecDepth 20000 in
theorem ggX0_matesSum_X0_mate : GoodIn wsX0_matesSum wsX0_mate := goodIn_r _ [6, 7, 8, 9, 10, 11, 5, 12, 1, 13, 14, 15, 16, 17, 18, 19, 20, 21, 22, 23, 24, 25, 26, 27] (by decide +kernel) (by decide +kernel)
set_option maxRecDepth 20000 in
theorem gX0_matesSum_X0_mate : GoodIn wsX0_matesSum (wsV RX0 51 RX0 yX0_mate wsX0_mate) := goodIn_app (goodIn_of _ (by decide +kernel)) ggX0_matesSum_X0_mate
set_option maxRecDepth 20000 in
theorem ggX0_matesSum_X0_plus : GoodIn wsX0_matesSum wsX0_plus := goodIn_r _ [19] (by decide +kernel) (by decide +kernel)
set_option maxRecDepth 20000 in
theorem gX0_matesSum_X0_plus : GoodIn wsX0_matesSum (wsV RX0 48 RX0 yX0_plus wsX0_plus) := goodIn_app (goodIn_of _ (by decide +kernel)) ggX0_matesSum_X0_plus
theorem dX0_matesSum_0 : decode cX0_matesSum 0 = .ok (.iload_n 1, 1) := by decide +kernel
theorem dX0_matesSum_1 : decode cX0_matesSum 1 = .ok (.istore_n 2, 1) := by decide +kernel
theorem dX0_matesSum_2 : decode cX0_matesSum 2 = .ok (.iload_n 1, 1) := by decide +kernel
theorem dX0_matesSum_3 : decode cX0_matesSum 3 = .ok (.istore_n 3, 1) := by decide +kernel
theorem dX0_matesSum_4 : decode cX0_matesSum 4 = .ok (.iconst 1, 1) := by decide +kernel
theorem dX0_matesSum_5 : decode cX0_matesSum 5 = .ok (.istore 4, 2) := by decide +kernel
theorem dX0_matesSum_7 : decode cX0_matesSum 7 = .ok (.iload 4, 2) := by decide +kernel
theorem dX0_matesSum_9 : decode cX0_matesSum 9 = .ok (.aload_n 0, 1) := by decide +kernel
theorem dX0_matesSum_10 : decode cX0_matesSum 10 = .ok (.getfield 9, 3) := by decide +kernel
theorem dX0_matesSum_13 : decode cX0_matesSum 13 = .ok (.if_icmp .ge 22, 3) := by decide +kernel
theorem dX0_matesSum_16 : decode cX0_matesSum 16 = .ok (.aload_n 0, 1) := by decide +kernel
theorem dX0_matesSum_17 : decode cX0_matesSum 17 = .ok (.iload_n 3, 1) := by decide +kernel
theorem dX0_matesSum_18 : decode cX0_matesSum 18 = .ok (.invokevirtual 51, 3) := by decide +kernel
theorem dX0_matesSum_21 : decode cX0_matesSum 21 = .ok (.istore_n 3, 1) := by decide +kernel
theorem dX0_matesSum_22 : decode cX0_matesSum 22 = .ok (.aload_n 0, 1) := by decide +kernel
theorem dX0_matesSum_23 : decode cX0_matesSum 23 = .ok (.iload_n 2, 1) := by decide +kernel
theorem dX0_matesSum_24 : decode cX0_matesSum 24 = .ok (.iload_n 3, 1) := by decide +kernel
theorem dX0_matesSum_25 : decode cX0_matesSum 25 = .ok (.invokevirtual 48, 3) := by decide +kernel
theorem dX0_matesSum_28 : decode cX0_matesSum 28 = .ok (.istore_n 2, 1) := by decide +kernel
theorem dX0_matesSum_29 : decode cX0_matesSum 29 = .ok (.iinc 4 1, 3) := by decide +kernel
theorem dX0_matesSum_32 : decode cX0_matesSum 32 = .ok (.goto (-25), 3) := by decide +kernel
theorem dX0_matesSum_35 : decode cX0_matesSum 35 = .ok (.iload_n 2, 1) := by decide +kernel
theorem dX0_matesSum_36 : decode cX0_matesSum 36 = .ok (.ireturn, 1) := by decide +kernel
set_option maxRecDepth 20000 in
theorem ggX0_differentMates_X0_mate : GoodIn wsX0_differentMates wsX0_mate := goodIn_r _ [6, 7, 8, 9, 10, 11, 5, 12, 1, 13, 14, 15, 16, 17, 18, 19, 20, 21, 22, 23, 24, 25, 26, 27] (by decide +kernel) (by decide +kernel)
set_option maxRecDepth 20000 in
theorem gX0_differentMates_X0_mate : GoodIn wsX0_differentMates (wsV RX0 51 RX0 yX0_mate wsX0_mate) := goodIn_app (goodIn_of _ (by decide +kernel)) ggX0_differentMates_X0_mate
theorem dX0_differentMates_0 : decode cX0_differentMates 0 = .ok (.aload_n 0, 1) := by decide +kernel
theorem dX0_differentMates_1 : decode cX0_differentMates 1 = .ok (.iload_n 1, 1) := by decide +kernel
theorem dX0_differentMates_2 : decode cX0_differentMates 2 = .ok (.invokevirtual 51, 3) := by decide +kernel
theorem dX0_differentMates_5 : decode cX0_differentMates 5 = .ok (.iload_n 1, 1) := by decide +kernel
theorem dX0_differentMates_6 : decode cX0_differentMates 6 = .ok (.if_icmp .ne 7, 3) := by decide +kernel
theorem dX0_differentMates_9 : decode cX0_differentMates 9 = .ok (.iconst 1, 1) := by decide +kernel
theorem dX0_differentMates_10 : decode cX0_differentMates 10 = .ok (.goto 7, 3) := by decide +kernel
theorem dX0_differentMates_13 : decode cX0_differentMates 13 = .ok (.aload_n 0, 1) := by decide +kernel
theorem dX0_differentMates_14 : decode cX0_differentMates 14 = .ok (.getfield 9, 3) := by decide +kernel
theorem dX0_differentMates_17 : decode cX0_differentMates 17 = .ok (.ireturn, 1) := by decide +kernel
end
section
/-! A world of n cells at the addresses ad 0 .. ad (n - 1), with the contents c. -/
def ww (n : Nat) (ad : Nat → Nat) (c : Nat → va_E) : va_W := (List.range n).map (fun k => (ad k, c k))
theorem ww_get {n : Nat} {ad : Nat → Nat} {c : Nat → va_E} {k : Nat} (hk : k < n) : (ww n ad c)[k]? = some (ad k, c k) := by
  simp [ww, List.getElem?_map, List.getElem?_range hk]
theorem ww_len {n : Nat} {ad : Nat → Nat} {c : Nat → va_E} : (ww n ad c).length = n := by simp [ww]
theorem ww_of {n : Nat} {ad : Nat → Nat} {c : Nat → va_E} {k : Nat} {q : Nat × va_E} (h : (ww n ad c)[k]? = some q) : k < n ∧ q = (ad k, c k) := by
  have hl : k < n := by
    have h1 := (List.getElem?_eq_some_iff.mp h).1
    rw [ww_len] at h1
    exact h1
  rw [ww_get hl] at h
  exact ⟨hl, (Option.some.inj h).symm⟩
theorem ww_set {n : Nat} {ad : Nat → Nat} {c c' : Nat → va_E} {k : Nat} {e : va_E} (h1 : c' k = e) (h2 : ∀ j, j ≠ k → c' j = c j) : (ww n ad c).set k (ad k, e) = ww n ad c' := by
  apply List.ext_getElem?
  intro i
  by_cases hi : i < n
  · by_cases hk : i = k
    · subst hk
      rw [ww_get hi, List.getElem?_set]
      simp [ww_len, hi, h1]
    · rw [ww_get (c := c') hi, List.getElem?_set, if_neg (fun h => hk h.symm), ww_get hi, h2 i hk]
  · rw [List.getElem?_eq_none (by rw [List.length_set, ww_len]; omega), List.getElem?_eq_none (by rw [ww_len]; omega)]
/-- the addresses of the world -/
def ww_A (n : Nat) (ad : Nat → Nat) : Nat → Prop := fun q => ∃ k, k < n ∧ q = ad k
def ww_inj (n : Nat) (ad : Nat → Nat) : Prop := ∀ i j, i < n → j < n → ad i = ad j → i = j
theorem ww_D {n : Nat} {ad : Nat → Nat} {c : Nat → va_E} (h : ww_inj n ad) : va_D (ww_A n ad) (ww n ad c) := by
  refine ⟨fun i j p q hp hq e => ?_, fun k q hk => ?_⟩
  · obtain ⟨h1, rfl⟩ := ww_of hp
    obtain ⟨h2, rfl⟩ := ww_of hq
    exact h i j h1 h2 e
  · obtain ⟨h1, rfl⟩ := ww_of hk
    exact ⟨k, h1, rfl⟩
/-- the words on nest mates, as the state at a method's start has them -/
def nw_ok (nw : List Cond) (U : State) : Prop := ∀ w ∈ nw, va_Nw w U
def nw_kind (w : Cond) : Bool := match w with
  | .fieldLinkNest .. => true
  | .methodLinkNest .. => true
  | _ => false
theorem nw_moved {nw : List Cond} (hk : nw.all nw_kind = true) {s U : State} (hW : s.WarmedH U.vm) (h : nw_ok nw s) : nw_ok nw U := by
  intro w hw
  have h1 := List.all_eq_true.mp hk w hw
  have h2 := h w hw
  cases w <;> simp [nw_kind] at h1
  · exact va_Nw.warmM hW h2
  · exact va_Nw.warmF hW h2
/-- what a state holds at a method's start: the world, the tables' words on its classes, the words on nest mates -/
def ws_B (D : va_G) (tys : List (ClassId × FieldType)) (nw : List Cond) (w : va_W) (U : State) : Prop := va_P D vwCl w U.heap ∧ va_K D vwCl tys U ∧ nw_ok nw U
/-- a method's end: it returns v, the world is w', nothing else has changed -/
def ct_Q (D : va_G) (w' : va_W) (A : Nat → Prop) (v : Option Value) : Array Value → State → Outcome → State → Prop := fun _ st o t => o = .returned v ∧ va_P D vwCl w' t.heap ∧ va_F A st t
theorem ct_pre {D : va_G} {tys : List (ClassId × FieldType)} {nw : List Cond} {w : va_W} {H : Heap} {s : State} (hn : nw.all nw_kind = true) (hP : va_P D vwCl w H) (hK : va_K D vwCl tys s) (hN : nw_ok nw s) {av : List Value} :
    FrameBlind (va_Pc av (ws_B D tys nw w)) ∧ ∀ U : State, U.heap = H → s.WarmedH U.vm → va_Pc av (ws_B D tys nw w) av.toArray U := by
  refine ⟨fun a U g mk q => ?_, fun U hU hW => ⟨rfl, by rw [hU]; exact hP, va_K.moved hW.alike hK, nw_moved hn hW hN⟩⟩
  obtain ⟨q0, qP, qK, qN⟩ := q
  exact ⟨q0, qP, va_K.moved (u := U) (U := U.calling g mk a) (Vm.Alike.refl U.vm) qK, fun w hw => va_Nw.same (u := U) (U := U.calling g mk a) (by
    have h1 := List.all_eq_true.mp hn w hw
    cases w <;> simp [nw_kind] at h1 <;> rfl) rfl (qN w hw)⟩
theorem ct_preV {D : va_G} {tys : List (ClassId × FieldType)} {nw : List Cond} {n : Nat} {ad : Nat → Nat} {c : Nat → va_E} {H : Heap} {s : State} {As : List Value} {ci k : Nat} {q : vw_C} {fs : List Value} (hn : nw.all nw_kind = true) (hP : va_P D vwCl (ww n ad c) H) (hK : va_K D vwCl tys s) (hN : nw_ok nw s) (hc : vwCl[ci]? = some q) (hk : k < n) (he : c k = .inr (ci, fs)) :
    PreV s H q.1 (ad k) (va_Pc (.ref (ad k) :: As) (ws_B D tys nw (ww n ad c))) As := by
  obtain ⟨h1, h2⟩ := ct_pre (av := .ref (ad k) :: As) hn hP hK hN
  exact ⟨h1, va_recv hK hP hc (q0 := k) (fs := fs) (by rw [ww_get hk, he]), h2⟩
theorem ct_preS {D : va_G} {tys : List (ClassId × FieldType)} {nw : List Cond} {w : va_W} {H : Heap} {s : State} {As : List Value} (hn : nw.all nw_kind = true) (hP : va_P D vwCl w H) (hK : va_K D vwCl tys s) (hN : nw_ok nw s) :
    PreS s H (va_Pc As (ws_B D tys nw w)) As := ct_pre hn hP hK hN
/-- Java's remainders; a named value -/
def jrem (x y : Int32) : Int32 := x - x / y * y
def jreml (x y : Int64) : Int64 := x - x / y * y
def nm {α β : Type} (x : α) (k : α → Option β) : Option β := k x
theorem nm_elim {α β : Type} {x : α} {k : α → Option β} {r : β} (h : nm x k = some r) : ∃ v, x = v ∧ k v = some r := ⟨x, rfl, h⟩
section CT
variable {p : Program} {l : Launch} {e : Env} {R : Room} {s : State} {m : MethodId} {args : Array Value} {below : List Frame} {meth : Method} {c : Code} {H : Heap} {locs : List Loc} {Q : State → Prop}
variable {pc : Nat} {ls : Array Slot} {rest st0 : List Value} {a : Array Value} {A : Nat → Prop} {H0 : Heap}
theorem tp_I {x y : Int32} {cells slots : Nat} (h : x = y) (k : W p l e R s m args below meth c H locs cells slots Q (F0 m pc ls (.int y :: rest))) : W p l e R s m args below meth c H locs cells slots Q (F0 m pc ls (.int x :: rest)) := h ▸ k
theorem tp_J {x y : Int64} {cells slots : Nat} (h : x = y) (k : W p l e R s m args below meth c H locs cells slots Q (F0 m pc ls (.long y :: rest))) : W p l e R s m args below meth c H locs cells slots Q (F0 m pc ls (.long x :: rest)) := h ▸ k
theorem jv_irem {cc : ByteArray} {cells slots : Nat} (hexec : p.tables.exec = Jvm.exec) (hb : c.code = cc) {x y : Int32} (hdg : decode cc pc = .ok (.irem, 1)) (hne : ¬ y = 0) (k : W p l e R s m args below meth c H locs cells slots Q (F0 m (pc + 1) ls (.int (jrem x y) :: rest))) : W p l e R s m args below meth c H locs cells slots Q (F0 m pc ls (.int y :: .int x :: rest)) := lv_irem hexec hb hdg hne k
theorem jv_lrem {cc : ByteArray} {cells slots : Nat} (hexec : p.tables.exec = Jvm.exec) (hb : c.code = cc) {x y : Int64} (hdg : decode cc pc = .ok (.lrem, 1)) (hne : ¬ y = 0) (k : W p l e R s m args below meth c H locs cells slots Q (F0 m (pc + 1) ls (.long (jreml x y) :: rest))) : W p l e R s m args below meth c H locs cells slots Q (F0 m pc ls (.long y :: .long x :: rest)) := lv_lrem hexec hb hdg hne k
/-- behind a call of a method whose end is ct_Q -/
theorem ct_call {D : va_G} {w' : va_W} {v : Option Value} (hr : va_Run p l e R s m args below meth c H locs 0 0 0 0 (F0 m pc ls st0) rest (ct_Q D w' A v a) A) (hS : va_S A H0 H locs)
    (kk : ∀ (H1 : Heap) (locs1 : List Loc), va_P D vwCl w' H1 → va_S A H0 H1 locs1 → W p l e R s m args below meth c H1 locs1 0 0 Q (F0 m (pc + 3) ls (v.toList ++ rest))) : W p l e R s m args below meth c H locs 0 0 Q (F0 m pc ls st0) := by
  intro T hT X
  obtain ⟨v1, st₀, t, T', L, h0, X', hL, e1, e2, ⟨hv, hp, hz, hk⟩, st⟩ := hr T hT X
  cases hv
  rw [h0] at hz hk
  obtain ⟨t2, a1, b1⟩ := kk T'.heap (locs ++ L) (by rw [e1]; exact hp)
    ⟨Nat.le_trans hS.1 (by rw [e1]; exact hz), fun q h1 h2 => by rw [e1, hk q (Nat.lt_of_lt_of_le h1 hS.1) h2]; exact hS.2.1 q h1 h2, fun q hq => by
      rcases List.mem_append.mp hq with h | h
      · exact hS.2.2 q h
      · exact hL q h⟩ T' rfl X'
  exact ⟨t2, st t2 a1, b1⟩
/-- behind a call of a method that changes nothing -/
theorem rd_call {v : Option Value} {A1 : Nat → Prop} (hr : va_Run p l e R s m args below meth c H locs 0 0 0 0 (F0 m pc ls st0) rest (fun st o t => o = .returned v ∧ t.heap = st.heap) A1) (hf : ∀ q, ¬ A1 q)
    (kk : W p l e R s m args below meth c H locs 0 0 Q (F0 m (pc + 3) ls (v.toList ++ rest))) : W p l e R s m args below meth c H locs 0 0 Q (F0 m pc ls st0) := by
  intro T hT X
  obtain ⟨v1, st₀, t, T', L, h0, X', hL, e1, e2, ⟨hv, hh⟩, st⟩ := hr T hT X
  cases hv
  obtain ⟨t2, a1, b1⟩ := kk T' (by rw [e1, hh, h0]) (Stand.forget X' (fun q h => (hf _ (hL q h)).elim))
  exact ⟨t2, st t2 a1, b1⟩
end CT
end
section
/-! The world of the class: 46 cells. Rows 0 .. 19: their arrays at places 0 .. 19, the objects at 20 .. 39. 0 f; 1 .. 10 the ring's (wide, quotient, older, newer, derived, mates, product, moved, least, common); 11 .. 14 the splitter's (root, rest, power, shared); 15 .. 19 the parts. 40 Extension, 41 Ring, 42 Splitter, 43 parts, 44 counts, 45 the object itself. M: what the rows hold; E: the extension's fields; P: which row a part is; C: counts; N 0, N 1: count, found. -/
abbrev ra (ad : Nat → Nat) (i : Fin 20) : Nat := ad (20 + i.val)
abbrev aa (ad : Nat → Nat) (i : Fin 20) : Nat := ad i.val
def fup {β : Type} (f : Fin 20 → β) (i : Fin 20) (v : β) : Fin 20 → β := fun j => if j = i then v else f j
def cellC (cI cR : ClassId) (ad : Nat → Nat) (M : Fin 20 → Nat → Int32) (E : Nat → Int32) (P : Nat → Fin 20) (C N : Nat → Int32) : Nat → va_E := fun k =>
  if h : k < 20 then .inl (cI, 16, .inl (M ⟨k, h⟩))
  else if k < 40 then .inr (2, [.ref (ad (k - 20))])
  else if k = 40 then .inr (0, [.int (E 0), .int (E 1), .int (E 2), .int (E 3), .int (E 4), .int (E 5), .int (E 6), .int (E 7)])
  else if k = 41 then .inr (1, [.ref (ad 40), .ref (ra ad 1), .ref (ra ad 2), .ref (ra ad 3), .ref (ra ad 4), .ref (ra ad 5), .ref (ra ad 6), .ref (ra ad 7), .ref (ra ad 8), .ref (ra ad 9), .ref (ra ad 10)])
  else if k = 42 then .inr (3, [.ref (ad 43), .ref (ad 44), .int (N 0), .int (N 1), .ref (ra ad 11), .ref (ra ad 12), .ref (ra ad 13), .ref (ra ad 14)])
  else if k = 43 then .inl (cR, 5, .inr (.inr (.inr (.inr (fun i => some (ra ad (P i)))))))
  else if k = 44 then .inl (cI, 5, .inl C)
  else .inr (4, [.ref (ra ad 0), .ref (ad 41), .ref (ad 42)])
section WC
variable {D : va_G} {H : Heap} {cI cR : ClassId} {ad : Nat → Nat} {M : Fin 20 → Nat → Int32} {E : Nat → Int32} {P : Nat → Fin 20} {C N : Nat → Int32}
theorem ra_lt (i : Fin 20) : 20 + i.val < 46 := by omega
theorem cl_arr (i : Fin 20) : cellC cI cR ad M E P C N i.val = .inl (cI, 16, .inl (M i)) := by simp [cellC, i.isLt]
theorem cl_row (i : Fin 20) : cellC cI cR ad M E P C N (20 + i.val) = .inr (2, [.ref (aa ad i)]) := by
  have h1 : ¬ 20 + i.val < 20 := by omega
  have h2 : 20 + i.val < 40 := by omega
  simp [cellC, h2]
theorem cc_arr (i : Fin 20) : (ww 46 ad (cellC cI cR ad M E P C N))[i.val]? = some (aa ad i, .inl (cI, 16, .inl (M i))) := by rw [ww_get (by omega), cl_arr]
theorem cc_row (i : Fin 20) : (ww 46 ad (cellC cI cR ad M E P C N))[20 + i.val]? = some (ra ad i, .inr (2, [.ref (aa ad i)])) := by rw [ww_get (by omega), cl_row]
theorem cc_ext : (ww 46 ad (cellC cI cR ad M E P C N))[40]? = some (ad 40, .inr (0, [.int (E 0), .int (E 1), .int (E 2), .int (E 3), .int (E 4), .int (E 5), .int (E 6), .int (E 7)])) := ww_get (by decide)
theorem cc_ring : (ww 46 ad (cellC cI cR ad M E P C N))[41]? = some (ad 41, .inr (1, [.ref (ad 40), .ref (ra ad 1), .ref (ra ad 2), .ref (ra ad 3), .ref (ra ad 4), .ref (ra ad 5), .ref (ra ad 6), .ref (ra ad 7), .ref (ra ad 8), .ref (ra ad 9), .ref (ra ad 10)])) := ww_get (by decide)
theorem cc_spl : (ww 46 ad (cellC cI cR ad M E P C N))[42]? = some (ad 42, .inr (3, [.ref (ad 43), .ref (ad 44), .int (N 0), .int (N 1), .ref (ra ad 11), .ref (ra ad 12), .ref (ra ad 13), .ref (ra ad 14)])) := ww_get (by decide)
theorem cc_parts : (ww 46 ad (cellC cI cR ad M E P C N))[43]? = some (ad 43, .inl (cR, 5, .inr (.inr (.inr (.inr (fun i => some (ra ad (P i)))))))) := ww_get (by decide)
theorem cc_counts : (ww 46 ad (cellC cI cR ad M E P C N))[44]? = some (ad 44, .inl (cI, 5, .inl C)) := ww_get (by decide)
theorem cc_main : (ww 46 ad (cellC cI cR ad M E P C N))[45]? = some (ad 45, .inr (4, [.ref (ra ad 0), .ref (ad 41), .ref (ad 42)])) := ww_get (by decide)
theorem cs_M (i : Fin 20) {v : Nat → Int32} (h : va_P D vwCl ((ww 46 ad (cellC cI cR ad M E P C N)).set i.val (aa ad i, .inl (cI, 16, .inl v))) H) : va_P D vwCl (ww 46 ad (cellC cI cR ad (fup M i v) E P C N)) H := by
  rw [ww_set (c' := cellC cI cR ad (fup M i v) E P C N)] at h
  · exact h
  · rw [cl_arr]; simp [fup]
  · intro j hj
    by_cases h2 : j < 20
    · have h3 : (⟨j, h2⟩ : Fin 20) ≠ i := fun e => hj (by rw [← e])
      simp [cellC, h2, fup, h3]
    · simp [cellC, h2]
theorem cs_of {c' : Nat → va_E} {k : Nat} {e : va_E} (h : va_P D vwCl ((ww 46 ad (cellC cI cR ad M E P C N)).set k (ad k, e)) H) (h1 : c' k = e) (h2 : ∀ j, j ≠ k → c' j = cellC cI cR ad M E P C N j) : va_P D vwCl (ww 46 ad c') H := by
  rw [ww_set h1 h2] at h
  exact h
theorem ce_off {E' : Nat → Int32} : ∀ j, j ≠ 40 → cellC cI cR ad M E' P C N j = cellC cI cR ad M E P C N j := by
  intro j hj
  simp [cellC, hj]
theorem cn_off {N' : Nat → Int32} : ∀ j, j ≠ 42 → cellC cI cR ad M E P C N' j = cellC cI cR ad M E P C N j := by
  intro j hj
  simp [cellC, hj]
theorem cs_C {v : Nat → Int32} (h : va_P D vwCl ((ww 46 ad (cellC cI cR ad M E P C N)).set 44 (ad 44, .inl (cI, 5, .inl v))) H) : va_P D vwCl (ww 46 ad (cellC cI cR ad M E P v N)) H := cs_of h rfl (fun j hj => by simp [cellC, hj])
theorem cs_P {j : Nat} {r : Fin 20} (h : va_P D vwCl ((ww 46 ad (cellC cI cR ad M E P C N)).set 43 (ad 43, .inl (cR, 5, .inr (.inr (.inr (.inr (va_up (fun i => some (ra ad (P i))) j (some (ra ad r))))))))) H) : va_P D vwCl (ww 46 ad (cellC cI cR ad M E (va_up P j r) C N)) H := by
  refine cs_of h ?_ (fun k hk => by simp [cellC, hk])
  have e : va_up (fun i => some (ra ad (P i))) j (some (ra ad r)) = fun i => some (ra ad (va_up P j r i)) := by
    funext i
    by_cases hi : i = j <;> simp [va_up, hi]
  rw [e]
  rfl
theorem cs_E0 {v : Int32} (h : va_P D vwCl ((ww 46 ad (cellC cI cR ad M E P C N)).set 40 (ad 40, .inr (0, [.int (E 0), .int (E 1), .int (E 2), .int (E 3), .int (E 4), .int (E 5), .int (E 6), .int (E 7)].set 0 (.int v)))) H) : va_P D vwCl (ww 46 ad (cellC cI cR ad M (va_up E 0 v) P C N)) H := cs_of h rfl ce_off
theorem cs_E1 {v : Int32} (h : va_P D vwCl ((ww 46 ad (cellC cI cR ad M E P C N)).set 40 (ad 40, .inr (0, [.int (E 0), .int (E 1), .int (E 2), .int (E 3), .int (E 4), .int (E 5), .int (E 6), .int (E 7)].set 1 (.int v)))) H) : va_P D vwCl (ww 46 ad (cellC cI cR ad M (va_up E 1 v) P C N)) H := cs_of h rfl ce_off
theorem cs_E2 {v : Int32} (h : va_P D vwCl ((ww 46 ad (cellC cI cR ad M E P C N)).set 40 (ad 40, .inr (0, [.int (E 0), .int (E 1), .int (E 2), .int (E 3), .int (E 4), .int (E 5), .int (E 6), .int (E 7)].set 2 (.int v)))) H) : va_P D vwCl (ww 46 ad (cellC cI cR ad M (va_up E 2 v) P C N)) H := cs_of h rfl ce_off
theorem cs_E3 {v : Int32} (h : va_P D vwCl ((ww 46 ad (cellC cI cR ad M E P C N)).set 40 (ad 40, .inr (0, [.int (E 0), .int (E 1), .int (E 2), .int (E 3), .int (E 4), .int (E 5), .int (E 6), .int (E 7)].set 3 (.int v)))) H) : va_P D vwCl (ww 46 ad (cellC cI cR ad M (va_up E 3 v) P C N)) H := cs_of h rfl ce_off
theorem cs_E4 {v : Int32} (h : va_P D vwCl ((ww 46 ad (cellC cI cR ad M E P C N)).set 40 (ad 40, .inr (0, [.int (E 0), .int (E 1), .int (E 2), .int (E 3), .int (E 4), .int (E 5), .int (E 6), .int (E 7)].set 4 (.int v)))) H) : va_P D vwCl (ww 46 ad (cellC cI cR ad M (va_up E 4 v) P C N)) H := cs_of h rfl ce_off
theorem cs_E5 {v : Int32} (h : va_P D vwCl ((ww 46 ad (cellC cI cR ad M E P C N)).set 40 (ad 40, .inr (0, [.int (E 0), .int (E 1), .int (E 2), .int (E 3), .int (E 4), .int (E 5), .int (E 6), .int (E 7)].set 5 (.int v)))) H) : va_P D vwCl (ww 46 ad (cellC cI cR ad M (va_up E 5 v) P C N)) H := cs_of h rfl ce_off
theorem cs_E6 {v : Int32} (h : va_P D vwCl ((ww 46 ad (cellC cI cR ad M E P C N)).set 40 (ad 40, .inr (0, [.int (E 0), .int (E 1), .int (E 2), .int (E 3), .int (E 4), .int (E 5), .int (E 6), .int (E 7)].set 6 (.int v)))) H) : va_P D vwCl (ww 46 ad (cellC cI cR ad M (va_up E 6 v) P C N)) H := cs_of h rfl ce_off
theorem cs_E7 {v : Int32} (h : va_P D vwCl ((ww 46 ad (cellC cI cR ad M E P C N)).set 40 (ad 40, .inr (0, [.int (E 0), .int (E 1), .int (E 2), .int (E 3), .int (E 4), .int (E 5), .int (E 6), .int (E 7)].set 7 (.int v)))) H) : va_P D vwCl (ww 46 ad (cellC cI cR ad M (va_up E 7 v) P C N)) H := cs_of h rfl ce_off
theorem cs_N0 {v : Int32} (h : va_P D vwCl ((ww 46 ad (cellC cI cR ad M E P C N)).set 42 (ad 42, .inr (3, [.ref (ad 43), .ref (ad 44), .int (N 0), .int (N 1), .ref (ra ad 11), .ref (ra ad 12), .ref (ra ad 13), .ref (ra ad 14)].set 2 (.int v)))) H) : va_P D vwCl (ww 46 ad (cellC cI cR ad M E P C (va_up N 0 v))) H := cs_of h rfl cn_off
theorem cs_N1 {v : Int32} (h : va_P D vwCl ((ww 46 ad (cellC cI cR ad M E P C N)).set 42 (ad 42, .inr (3, [.ref (ad 43), .ref (ad 44), .int (N 0), .int (N 1), .ref (ra ad 11), .ref (ra ad 12), .ref (ra ad 13), .ref (ra ad 14)].set 3 (.int v)))) H) : va_P D vwCl (ww 46 ad (cellC cI cR ad M E P C (va_up N 1 v))) H := cs_of h rfl cn_off
end WC
/-- the words on nest mates' fields -/
def nw0 : List Cond := [.fieldLinkNest RX1 109 "NumberFieldFactors$Extension" "degree" "I" "NumberFieldFactors", .fieldLinkNest RX4 97 "NumberFieldFactors$Extension" "size" "I" "NumberFieldFactors", .fieldLinkNest RX1 81 "NumberFieldFactors$Extension" "size" "I" "NumberFieldFactors", .fieldLinkNest RX3 95 "NumberFieldFactors$Extension" "size" "I" "NumberFieldFactors", .fieldLinkNest RX1 117 "NumberFieldFactors$Extension" "t" "I" "NumberFieldFactors", .fieldLinkNest RX4 37 "NumberFieldFactors$Ring" "extension" "LNumberFieldFactors$Extension;" "NumberFieldFactors", .fieldLinkNest RX3 91 "NumberFieldFactors$Ring" "extension" "LNumberFieldFactors$Extension;" "NumberFieldFactors", .fieldLinkNest RX3 85 "NumberFieldFactors$Ring" "quotient" "LNumberFieldFactors$Row;" "NumberFieldFactors", .fieldLinkNest RX4 150 "NumberFieldFactors$Splitter" "count" "I" "NumberFieldFactors", .fieldLinkNest RX4 143 "NumberFieldFactors$Splitter" "root" "LNumberFieldFactors$Row;" "NumberFieldFactors"]
end
section
def f_X2_get (M : Fin 20 → Nat → Int32) (r0 : Fin 20) (p0 : Int32) : Option (Int32) :=
  if p0 < 0 then
    some 0
  else
    if 16 ≤ p0 then
      some 0
    else
      if p0 < 0 ∨ 16 ≤ (p0).toNatClampNeg then none else
      some (M r0 (p0).toNatClampNeg)
set_option maxHeartbeats 4000000 in
set_option maxRecDepth 100000 in
theorem C_X2_get (l : Launch) (D : va_G) (tys : List (ClassId × FieldType)) (nw : List Cond) (hn : nw.all nw_kind = true) (hnw : ∀ w ∈ nw0, w ∈ nw) {ad : Nat → Nat} (hj : ww_inj 46 ad) {cI : ClassId} {cR : ClassId} (htI : tys[0]? = some (cI, .int)) (htR : tys[1]? = some (cR, .object RX2)) {M : Fin 20 → Nat → Int32} {E : Nat → Int32} {P : Nat → Fin 20} {C : Nat → Int32} {N : Nat → Int32} {r0 : Fin 20} {p0 : Int32} {res : Int32} (hf : f_X2_get M r0 p0 = some res) :
    Met l yX2_get wsX2_get ({ frames := 0, cells := 0, slots := 0, locals := 0 }) (va_Pc [.ref (ra ad r0), .int p0] (ws_B D tys nw (ww 46 ad (cellC cI cR ad M E P C N)))) (ct_Q D (ww 46 ad (cellC cI cR ad M E P C N)) (ww_A 46 ad) (some (.int res))) 0 0 (ww_A 46 ad) := by
  refine Met.ofW (cc := cX2_get) (maxL := 2) (ret := (some .int)) (by decide) rfl ?_
  intro p e s m args below meth c s₁ B hml hv
  obtain ⟨rfl, hP, hK, hN⟩ := hv
  have hx := B.exec
  have hb := B.bytes
  have hr := B.returns
  have hts := atoms_spec (ws := wsX2_get) B.pre
  have hown : s.vm.findClass RX2 = some m.cls := findClass_of_methodNamed B.named
  have hlocks := B.notSynchronized
  have hS : va_S (ww_A 46 ad) s.heap s.heap [] := va_S.rf
  have hl := lv_entry ([.ref (ra ad r0), .int p0]) (n := 2) (Nat.le_of_ble_eq_true rfl)
  rw [lg_entry_eq]
  generalize (lg_sl ([.ref (ra ad r0), .int p0]) ++ List.replicate (2 - (lg_sl ([.ref (ra ad r0), .int p0])).length) Slot.unset).toArray = ls at hl ⊢
  have hl : lv_has ls 2 [(0, .ref (ra ad r0)), (1, .int p0)] := hl
  unfold f_X2_get at hf
  refine lv_iload_n hx hb dX2_get_0 rfl (lv_at hl 1 rfl) ?_
  refine lv_if_lt (tgt := 22) hx hb dX2_get_1 (by decide) (fun c1 => ?_) (fun c1 => ?_)
  · rw [if_pos c1] at hf
    refine lv_iconst (v := 0) hx hb dX2_get_22 (by decide) ?_
    obtain rfl := Option.some.inj hf
    exact W.iret (v := 0) hx hb hr (fun t ht hW => ⟨rfl, by rw [ht]; exact hP, hS.F ht⟩) hS.2.2 dX2_get_23
  · rw [if_neg c1] at hf
    refine lv_iload_n hx hb dX2_get_4 rfl (lv_at hl 1 rfl) ?_
    refine lv_aload_n hx hb dX2_get_5 rfl (lv_at hl 0 rfl) ?_
    refine va_get (ci := 2) (v := .ref (aa ad r0)) (C := RX2) (T := TX2) (N := 1) hx hb hts (by decide +kernel) hown hK hP (20 + (r0).val) (cc_row r0) rfl 0 (by decide) (hts (.fieldLink RX2 9 "NumberFieldFactors$Row" "elements" "[I") (by decide +kernel)) (fun _ h9 => h9) rfl dX2_get_6 ?_
    refine va_alen (v := 16) hx hb hK hP (r0).val 0 (cc_arr r0) htI rfl dX2_get_9 ?_
    refine lv_icmp_ge (tgt := 22) hx hb dX2_get_10 (by decide) (fun c2 => ?_) (fun c2 => ?_)
    · rw [if_pos c2] at hf
      refine lv_iconst (v := 0) hx hb dX2_get_22 (by decide) ?_
      obtain rfl := Option.some.inj hf
      exact W.iret (v := 0) hx hb hr (fun t ht hW => ⟨rfl, by rw [ht]; exact hP, hS.F ht⟩) hS.2.2 dX2_get_23
    · rw [if_neg c2] at hf
      refine lv_aload_n hx hb dX2_get_13 rfl (lv_at hl 0 rfl) ?_
      refine va_get (ci := 2) (v := .ref (aa ad r0)) (C := RX2) (T := TX2) (N := 1) hx hb hts (by decide +kernel) hown hK hP (20 + (r0).val) (cc_row r0) rfl 0 (by decide) (hts (.fieldLink RX2 9 "NumberFieldFactors$Row" "elements" "[I") (by decide +kernel)) (fun _ h9 => h9) rfl dX2_get_14 ?_
      refine lv_iload_n hx hb dX2_get_17 rfl (lv_at hl 1 rfl) ?_
      by_cases b3 : p0 < 0 ∨ 16 ≤ (p0).toNatClampNeg
      · rw [if_pos b3] at hf; cases hf
      rw [if_neg b3] at hf
      refine va_iald hx hb hK hP (r0).val 0 (cc_arr r0) htI b3 dX2_get_18 ?_
      refine lv_goto (tgt := 23) hx hb dX2_get_19 (by decide) ?_
      obtain rfl := Option.some.inj hf
      exact W.iret (v := M r0 (p0).toNatClampNeg) hx hb hr (fun t ht hW => ⟨rfl, by rw [ht]; exact hP, hS.F ht⟩) hS.2.2 dX2_get_23
def f_X2_set (M : Fin 20 → Nat → Int32) (r0 : Fin 20) (p0 : Int32) (p1 : Int32) : Option ((Fin 20 → Nat → Int32)) :=
  if p0 < 0 then
    some M
  else
    if 16 ≤ p0 then
      some M
    else
      if p0 < 0 ∨ 16 ≤ (p0).toNatClampNeg then none else
      some (fup M r0 (upd (M r0) (p0).toNatClampNeg p1))
set_option maxHeartbeats 4000000 in
set_option maxRecDepth 100000 in
theorem C_X2_set (l : Launch) (D : va_G) (tys : List (ClassId × FieldType)) (nw : List Cond) (hn : nw.all nw_kind = true) (hnw : ∀ w ∈ nw0, w ∈ nw) {ad : Nat → Nat} (hj : ww_inj 46 ad) {cI : ClassId} {cR : ClassId} (htI : tys[0]? = some (cI, .int)) (htR : tys[1]? = some (cR, .object RX2)) {M : Fin 20 → Nat → Int32} {E : Nat → Int32} {P : Nat → Fin 20} {C : Nat → Int32} {N : Nat → Int32} {r0 : Fin 20} {p0 : Int32} {p1 : Int32} {res : (Fin 20 → Nat → Int32)} (hf : f_X2_set M r0 p0 p1 = some res) :
    Met l yX2_set wsX2_set ({ frames := 0, cells := 0, slots := 0, locals := 0 }) (va_Pc [.ref (ra ad r0), .int p0, .int p1] (ws_B D tys nw (ww 46 ad (cellC cI cR ad M E P C N)))) (ct_Q D (ww 46 ad (cellC cI cR ad res E P C N)) (ww_A 46 ad) (none)) 0 0 (ww_A 46 ad) := by
  refine Met.ofW (cc := cX2_set) (maxL := 3) (ret := none) (by decide) rfl ?_
  intro p e s m args below meth c s₁ B hml hv
  obtain ⟨rfl, hP, hK, hN⟩ := hv
  have hx := B.exec
  have hb := B.bytes
  have hr := B.returns
  have hts := atoms_spec (ws := wsX2_set) B.pre
  have hown : s.vm.findClass RX2 = some m.cls := findClass_of_methodNamed B.named
  have hlocks := B.notSynchronized
  have hS : va_S (ww_A 46 ad) s.heap s.heap [] := va_S.rf
  have hl := lv_entry ([.ref (ra ad r0), .int p0, .int p1]) (n := 3) (Nat.le_of_ble_eq_true rfl)
  rw [lg_entry_eq]
  generalize (lg_sl ([.ref (ra ad r0), .int p0, .int p1]) ++ List.replicate (3 - (lg_sl ([.ref (ra ad r0), .int p0, .int p1])).length) Slot.unset).toArray = ls at hl ⊢
  have hl : lv_has ls 3 [(0, .ref (ra ad r0)), (1, .int p0), (2, .int p1)] := hl
  unfold f_X2_set at hf
  refine lv_iload_n hx hb dX2_set_0 rfl (lv_at hl 1 rfl) ?_
  refine lv_if_lt (tgt := 20) hx hb dX2_set_1 (by decide) (fun c1 => ?_) (fun c1 => ?_)
  · rw [if_pos c1] at hf
    obtain rfl := Option.some.inj hf
    exact W.vret hx hb hr (fun t ht hW => ⟨rfl, by rw [ht]; exact hP, hS.F ht⟩) hS.2.2 dX2_set_20
  · rw [if_neg c1] at hf
    refine lv_iload_n hx hb dX2_set_4 rfl (lv_at hl 1 rfl) ?_
    refine lv_aload_n hx hb dX2_set_5 rfl (lv_at hl 0 rfl) ?_
    refine va_get (ci := 2) (v := .ref (aa ad r0)) (C := RX2) (T := TX2) (N := 1) hx hb hts (by decide +kernel) hown hK hP (20 + (r0).val) (cc_row r0) rfl 0 (by decide) (hts (.fieldLink RX2 9 "NumberFieldFactors$Row" "elements" "[I") (by decide +kernel)) (fun _ h9 => h9) rfl dX2_set_6 ?_
    refine va_alen (v := 16) hx hb hK hP (r0).val 0 (cc_arr r0) htI rfl dX2_set_9 ?_
    refine lv_icmp_ge (tgt := 20) hx hb dX2_set_10 (by decide) (fun c2 => ?_) (fun c2 => ?_)
    · rw [if_pos c2] at hf
      obtain rfl := Option.some.inj hf
      exact W.vret hx hb hr (fun t ht hW => ⟨rfl, by rw [ht]; exact hP, hS.F ht⟩) hS.2.2 dX2_set_20
    · rw [if_neg c2] at hf
      refine lv_aload_n hx hb dX2_set_13 rfl (lv_at hl 0 rfl) ?_
      refine va_get (ci := 2) (v := .ref (aa ad r0)) (C := RX2) (T := TX2) (N := 1) hx hb hts (by decide +kernel) hown hK hP (20 + (r0).val) (cc_row r0) rfl 0 (by decide) (hts (.fieldLink RX2 9 "NumberFieldFactors$Row" "elements" "[I") (by decide +kernel)) (fun _ h9 => h9) rfl dX2_set_14 ?_
      refine lv_iload_n hx hb dX2_set_17 rfl (lv_at hl 1 rfl) ?_
      refine lv_iload_n hx hb dX2_set_18 rfl (lv_at hl 2 rfl) ?_
      by_cases b3 : p0 < 0 ∨ 16 ≤ (p0).toNatClampNeg
      · rw [if_pos b3] at hf; cases hf
      rw [if_neg b3] at hf
      refine va_iast hx hb hK hP (ww_D hj) hS (r0).val 0 (cc_arr r0) htI b3 dX2_set_19 (fun H locs hP hD hS => ?_)
      have hP := cs_M r0 hP
      obtain rfl := Option.some.inj hf
      exact W.vret hx hb hr (fun t ht hW => ⟨rfl, by rw [ht]; exact hP, hS.F ht⟩) hS.2.2 dX2_set_20
def f_X2_degree_l8 (k8 : Int32 → Option (Int32)) (fu : Nat) (M : Fin 20 → Nat → Int32) (x0 : Fin 20) : Nat → Int32 → Option (Int32)
  | 0, _ => none
  | n + 1, x1 =>
    if x1 < 0 then
      k8 x1
    else
      if x1 < 0 ∨ 16 ≤ (x1).toNatClampNeg then none else
      if (M x0 (x1).toNatClampNeg) = 0 then
        f_X2_degree_l8 k8 fu M x0 n (x1 + (-1))
      else
        k8 x1
def f_X2_degree (fu : Nat) (M : Fin 20 → Nat → Int32) (r0 : Fin 20) : Option (Int32) :=
  nm (16 - 1) (fun v1 =>
  f_X2_degree_l8 (fun y5 =>
    some y5) fu M r0 fu v1)
set_option maxHeartbeats 4000000 in
set_option maxRecDepth 100000 in
theorem C_X2_degree (l : Launch) (D : va_G) (tys : List (ClassId × FieldType)) (nw : List Cond) (hn : nw.all nw_kind = true) (hnw : ∀ w ∈ nw0, w ∈ nw) {ad : Nat → Nat} (hj : ww_inj 46 ad) {cI : ClassId} {cR : ClassId} (htI : tys[0]? = some (cI, .int)) (htR : tys[1]? = some (cR, .object RX2)) {fu : Nat} {M : Fin 20 → Nat → Int32} {E : Nat → Int32} {P : Nat → Fin 20} {C : Nat → Int32} {N : Nat → Int32} {r0 : Fin 20} {res : Int32} (hf : f_X2_degree fu M r0 = some res) :
    Met l yX2_degree wsX2_degree ({ frames := 0, cells := 0, slots := 0, locals := 0 }) (va_Pc [.ref (ra ad r0)] (ws_B D tys nw (ww 46 ad (cellC cI cR ad M E P C N)))) (ct_Q D (ww 46 ad (cellC cI cR ad M E P C N)) (ww_A 46 ad) (some (.int res))) 0 0 (ww_A 46 ad) := by
  refine Met.ofW (cc := cX2_degree) (maxL := 2) (ret := (some .int)) (by decide) rfl ?_
  intro p e s m args below meth c s₁ B hml hv
  obtain ⟨rfl, hP, hK, hN⟩ := hv
  have hx := B.exec
  have hb := B.bytes
  have hr := B.returns
  have hts := atoms_spec (ws := wsX2_degree) B.pre
  have hown : s.vm.findClass RX2 = some m.cls := findClass_of_methodNamed B.named
  have hlocks := B.notSynchronized
  have hS : va_S (ww_A 46 ad) s.heap s.heap [] := va_S.rf
  have hl := lv_entry ([.ref (ra ad r0)]) (n := 2) (Nat.le_of_ble_eq_true rfl)
  rw [lg_entry_eq]
  generalize (lg_sl ([.ref (ra ad r0)]) ++ List.replicate (2 - (lg_sl ([.ref (ra ad r0)])).length) Slot.unset).toArray = ls at hl ⊢
  have hl : lv_has ls 2 [(0, .ref (ra ad r0))] := hl
  have L8 : ∀ (x0 : Fin 20) (k8 : Int32 → Option (Int32)), (∀ (x1 : Int32) (H : Heap) (locs : List Loc) (ls : Array Slot), va_P D vwCl (ww 46 ad (cellC cI cR ad M E P C N)) H → va_S (ww_A 46 ad) s.heap H locs → lv_has ls 2 [(0, .ref (ra ad x0)), (1, .int x1)] →  k8 x1 = some res → W p l e (headSpec wsX2_degree { frames := 0, cells := 0, slots := 0, locals := 0 }).room s m [.ref (ra ad r0)].toArray below meth c H locs 0 0 (MQ below (ct_Q D (ww 46 ad (cellC cI cR ad M E P C N)) (ww_A 46 ad) (some (.int res))) [.ref (ra ad r0)].toArray s 0 0 (ww_A 46 ad)) (F0 m 27 ls [])) → ∀ (n : Nat) (x1 : Int32) (H : Heap) (locs : List Loc) (ls : Array Slot), va_P D vwCl (ww 46 ad (cellC cI cR ad M E P C N)) H → va_S (ww_A 46 ad) s.heap H locs → lv_has ls 2 [(0, .ref (ra ad x0)), (1, .int x1)] →  f_X2_degree_l8 k8 fu M x0 n x1 = some res → W p l e (headSpec wsX2_degree { frames := 0, cells := 0, slots := 0, locals := 0 }).room s m [.ref (ra ad r0)].toArray below meth c H locs 0 0 (MQ below (ct_Q D (ww 46 ad (cellC cI cR ad M E P C N)) (ww_A 46 ad) (some (.int res))) [.ref (ra ad r0)].toArray s 0 0 (ww_A 46 ad)) (F0 m 8 ls []) := by
    intro x0 k8 hk_8 n
    induction n with
    | zero => intro x1 H locs ls hP hS hl hf; rw [f_X2_degree_l8] at hf; cases hf
    | succ n ih =>
      intro x1 H locs ls hP hS hl hf
      rw [f_X2_degree_l8] at hf
      refine lv_iload_n hx hb dX2_degree_8 rfl (lv_at hl 1 rfl) ?_
      refine lv_if_lt (tgt := 27) hx hb dX2_degree_9 (by decide) (fun c2 => ?_) (fun c2 => ?_)
      · rw [if_pos c2] at hf
        exact hk_8 x1 _ _ _ hP hS (lv_sub hl [0, 1] rfl) hf
      · rw [if_neg c2] at hf
        refine lv_aload_n hx hb dX2_degree_12 rfl (lv_at hl 0 rfl) ?_
        refine va_get (ci := 2) (v := .ref (aa ad x0)) (C := RX2) (T := TX2) (N := 1) hx hb hts (by decide +kernel) hown hK hP (20 + (x0).val) (cc_row x0) rfl 0 (by decide) (hts (.fieldLink RX2 9 "NumberFieldFactors$Row" "elements" "[I") (by decide +kernel)) (fun _ h9 => h9) rfl dX2_degree_13 ?_
        refine lv_iload_n hx hb dX2_degree_16 rfl (lv_at hl 1 rfl) ?_
        by_cases b3 : x1 < 0 ∨ 16 ≤ (x1).toNatClampNeg
        · rw [if_pos b3] at hf; cases hf
        rw [if_neg b3] at hf
        refine va_iald hx hb hK hP (x0).val 0 (cc_arr x0) htI b3 dX2_degree_17 ?_
        refine lv_if_ne (tgt := 27) hx hb dX2_degree_18 (by decide) (fun c4 => ?_) (fun c4 => ?_)
        · rw [if_neg c4] at hf
          exact hk_8 x1 _ _ _ hP hS (lv_sub hl [0, 1] rfl) hf
        · rw [if_pos c4] at hf
          refine lv_iinc (v := x1 + (-1)) (lv' := [(1, .int (x1 + (-1))), (0, .ref (ra ad x0))]) hx hb dX2_degree_21 hl (k := 1) rfl rfl (by decide) rfl (fun ls hl => ?_)
          refine lv_goto (tgt := 8) hx hb dX2_degree_24 (by decide) ?_
          exact ih (x1 + (-1)) _ _ _ hP hS (lv_sub hl [1, 0] rfl) hf
  unfold f_X2_degree at hf
  refine lv_aload_n hx hb dX2_degree_0 rfl (lv_at hl 0 rfl) ?_
  refine va_get (ci := 2) (v := .ref (aa ad r0)) (C := RX2) (T := TX2) (N := 1) hx hb hts (by decide +kernel) hown hK hP (20 + (r0).val) (cc_row r0) rfl 0 (by decide) (hts (.fieldLink RX2 9 "NumberFieldFactors$Row" "elements" "[I") (by decide +kernel)) (fun _ h9 => h9) rfl dX2_degree_1 ?_
  refine va_alen (v := 16) hx hb hK hP (r0).val 0 (cc_arr r0) htI rfl dX2_degree_4 ?_
  refine lv_iconst (v := 1) hx hb dX2_degree_5 (by decide) ?_
  refine lv_isub hx hb dX2_degree_6 ?_
  obtain ⟨v1, ev1, hf⟩ := nm_elim hf
  try dsimp only at hf
  refine tp_I ev1 ?_
  refine lv_istore_n (lv' := [(1, .int v1), (0, .ref (ra ad r0))]) hx hb dX2_degree_7 rfl hl (by decide) rfl (fun ls hl => ?_)
  refine L8 r0 _ (fun y5 H locs ls hP hS hl hf => ?_) fu v1 _ _ _ hP hS (lv_sub hl [1, 0] rfl) hf
  try dsimp only at hf
  refine lv_iload_n hx hb dX2_degree_27 rfl (lv_at hl 1 rfl) ?_
  obtain rfl := Option.some.inj hf
  exact W.iret (v := y5) hx hb hr (fun t ht hW => ⟨rfl, by rw [ht]; exact hP, hS.F ht⟩) hS.2.2 dX2_degree_28
def f_X2_clear_l2 (k2 : Int32 → (Fin 20 → Nat → Int32) → Option ((Fin 20 → Nat → Int32))) (fu : Nat) (x0 : Fin 20) : Nat → Int32 → (Fin 20 → Nat → Int32) → Option ((Fin 20 → Nat → Int32))
  | 0, _, _ => none
  | n + 1, x1, M =>
    if 16 ≤ x1 then
      k2 x1 M
    else
      if x1 < 0 ∨ 16 ≤ (x1).toNatClampNeg then none else
      f_X2_clear_l2 k2 fu x0 n (x1 + 1) (fup M x0 (upd (M x0) (x1).toNatClampNeg 0))
def f_X2_clear (fu : Nat) (M : Fin 20 → Nat → Int32) (r0 : Fin 20) : Option ((Fin 20 → Nat → Int32)) :=
  f_X2_clear_l2 (fun y3 M4 =>
    some M4) fu r0 fu 0 M
set_option maxHeartbeats 4000000 in
set_option maxRecDepth 100000 in
theorem C_X2_clear (l : Launch) (D : va_G) (tys : List (ClassId × FieldType)) (nw : List Cond) (hn : nw.all nw_kind = true) (hnw : ∀ w ∈ nw0, w ∈ nw) {ad : Nat → Nat} (hj : ww_inj 46 ad) {cI : ClassId} {cR : ClassId} (htI : tys[0]? = some (cI, .int)) (htR : tys[1]? = some (cR, .object RX2)) {fu : Nat} {M : Fin 20 → Nat → Int32} {E : Nat → Int32} {P : Nat → Fin 20} {C : Nat → Int32} {N : Nat → Int32} {r0 : Fin 20} {res : (Fin 20 → Nat → Int32)} (hf : f_X2_clear fu M r0 = some res) :
    Met l yX2_clear wsX2_clear ({ frames := 0, cells := 0, slots := 0, locals := 0 }) (va_Pc [.ref (ra ad r0)] (ws_B D tys nw (ww 46 ad (cellC cI cR ad M E P C N)))) (ct_Q D (ww 46 ad (cellC cI cR ad res E P C N)) (ww_A 46 ad) (none)) 0 0 (ww_A 46 ad) := by
  refine Met.ofW (cc := cX2_clear) (maxL := 2) (ret := none) (by decide) rfl ?_
  intro p e s m args below meth c s₁ B hml hv
  obtain ⟨rfl, hP, hK, hN⟩ := hv
  have hx := B.exec
  have hb := B.bytes
  have hr := B.returns
  have hts := atoms_spec (ws := wsX2_clear) B.pre
  have hown : s.vm.findClass RX2 = some m.cls := findClass_of_methodNamed B.named
  have hlocks := B.notSynchronized
  have hS : va_S (ww_A 46 ad) s.heap s.heap [] := va_S.rf
  have hl := lv_entry ([.ref (ra ad r0)]) (n := 2) (Nat.le_of_ble_eq_true rfl)
  rw [lg_entry_eq]
  generalize (lg_sl ([.ref (ra ad r0)]) ++ List.replicate (2 - (lg_sl ([.ref (ra ad r0)])).length) Slot.unset).toArray = ls at hl ⊢
  have hl : lv_has ls 2 [(0, .ref (ra ad r0))] := hl
  have L2 : ∀ (x0 : Fin 20) (k2 : Int32 → (Fin 20 → Nat → Int32) → Option ((Fin 20 → Nat → Int32))), (∀ (x1 : Int32) (M : Fin 20 → Nat → Int32) (H : Heap) (locs : List Loc) (ls : Array Slot), va_P D vwCl (ww 46 ad (cellC cI cR ad M E P C N)) H → va_S (ww_A 46 ad) s.heap H locs → lv_has ls 2 [(0, .ref (ra ad x0)), (1, .int x1)] →  k2 x1 M = some res → W p l e (headSpec wsX2_clear { frames := 0, cells := 0, slots := 0, locals := 0 }).room s m [.ref (ra ad r0)].toArray below meth c H locs 0 0 (MQ below (ct_Q D (ww 46 ad (cellC cI cR ad res E P C N)) (ww_A 46 ad) (none)) [.ref (ra ad r0)].toArray s 0 0 (ww_A 46 ad)) (F0 m 24 ls [])) → ∀ (n : Nat) (x1 : Int32) (M : Fin 20 → Nat → Int32) (H : Heap) (locs : List Loc) (ls : Array Slot), va_P D vwCl (ww 46 ad (cellC cI cR ad M E P C N)) H → va_S (ww_A 46 ad) s.heap H locs → lv_has ls 2 [(0, .ref (ra ad x0)), (1, .int x1)] →  f_X2_clear_l2 k2 fu x0 n x1 M = some res → W p l e (headSpec wsX2_clear { frames := 0, cells := 0, slots := 0, locals := 0 }).room s m [.ref (ra ad r0)].toArray below meth c H locs 0 0 (MQ below (ct_Q D (ww 46 ad (cellC cI cR ad res E P C N)) (ww_A 46 ad) (none)) [.ref (ra ad r0)].toArray s 0 0 (ww_A 46 ad)) (F0 m 2 ls []) := by
    intro x0 k2 hk_2 n
    induction n with
    | zero => intro x1 M H locs ls hP hS hl hf; rw [f_X2_clear_l2] at hf; cases hf
    | succ n ih =>
      intro x1 M H locs ls hP hS hl hf
      rw [f_X2_clear_l2] at hf
      refine lv_iload_n hx hb dX2_clear_2 rfl (lv_at hl 1 rfl) ?_
      refine lv_aload_n hx hb dX2_clear_3 rfl (lv_at hl 0 rfl) ?_
      refine va_get (ci := 2) (v := .ref (aa ad x0)) (C := RX2) (T := TX2) (N := 1) hx hb hts (by decide +kernel) hown hK hP (20 + (x0).val) (cc_row x0) rfl 0 (by decide) (hts (.fieldLink RX2 9 "NumberFieldFactors$Row" "elements" "[I") (by decide +kernel)) (fun _ h9 => h9) rfl dX2_clear_4 ?_
      refine va_alen (v := 16) hx hb hK hP (x0).val 0 (cc_arr x0) htI rfl dX2_clear_7 ?_
      refine lv_icmp_ge (tgt := 24) hx hb dX2_clear_8 (by decide) (fun c1 => ?_) (fun c1 => ?_)
      · rw [if_pos c1] at hf
        exact hk_2 x1 M _ _ _ hP hS (lv_sub hl [0, 1] rfl) hf
      · rw [if_neg c1] at hf
        refine lv_aload_n hx hb dX2_clear_11 rfl (lv_at hl 0 rfl) ?_
        refine va_get (ci := 2) (v := .ref (aa ad x0)) (C := RX2) (T := TX2) (N := 1) hx hb hts (by decide +kernel) hown hK hP (20 + (x0).val) (cc_row x0) rfl 0 (by decide) (hts (.fieldLink RX2 9 "NumberFieldFactors$Row" "elements" "[I") (by decide +kernel)) (fun _ h9 => h9) rfl dX2_clear_12 ?_
        refine lv_iload_n hx hb dX2_clear_15 rfl (lv_at hl 1 rfl) ?_
        refine lv_iconst (v := 0) hx hb dX2_clear_16 (by decide) ?_
        by_cases b2 : x1 < 0 ∨ 16 ≤ (x1).toNatClampNeg
        · rw [if_pos b2] at hf; cases hf
        rw [if_neg b2] at hf
        refine va_iast hx hb hK hP (ww_D hj) hS (x0).val 0 (cc_arr x0) htI b2 dX2_clear_17 (fun H locs hP hD hS => ?_)
        have hP := cs_M x0 hP
        refine lv_iinc (v := x1 + 1) (lv' := [(1, .int (x1 + 1)), (0, .ref (ra ad x0))]) hx hb dX2_clear_18 hl (k := 1) rfl rfl (by decide) rfl (fun ls hl => ?_)
        refine lv_goto (tgt := 2) hx hb dX2_clear_21 (by decide) ?_
        exact ih (x1 + 1) (fup M x0 (upd (M x0) (x1).toNatClampNeg 0)) _ _ _ hP hS (lv_sub hl [1, 0] rfl) hf
  unfold f_X2_clear at hf
  refine lv_iconst (v := 0) hx hb dX2_clear_0 (by decide) ?_
  refine lv_istore_n (lv' := [(1, .int 0), (0, .ref (ra ad r0))]) hx hb dX2_clear_1 rfl hl (by decide) rfl (fun ls hl => ?_)
  refine L2 r0 _ (fun y3 M4 H locs ls hP hS hl hf => ?_) fu 0 M _ _ _ hP hS (lv_sub hl [1, 0] rfl) hf
  try dsimp only at hf
  obtain rfl := Option.some.inj hf
  exact W.vret hx hb hr (fun t ht hW => ⟨rfl, by rw [ht]; exact hP, hS.F ht⟩) hS.2.2 dX2_clear_24
def f_X2_copy_l2 (k2 : Int32 → (Fin 20 → Nat → Int32) → Option ((Fin 20 → Nat → Int32))) (fu : Nat) (x0 : Fin 20) (x1 : Fin 20) : Nat → Int32 → (Fin 20 → Nat → Int32) → Option ((Fin 20 → Nat → Int32))
  | 0, _, _ => none
  | n + 1, x2, M =>
    if 16 ≤ x2 then
      k2 x2 M
    else
      (f_X2_get M x1 x2).bind (fun u2 =>
      if x2 < 0 ∨ 16 ≤ (x2).toNatClampNeg then none else
      f_X2_copy_l2 k2 fu x0 x1 n (x2 + 1) (fup M x0 (upd (M x0) (x2).toNatClampNeg u2)))
def f_X2_copy (fu : Nat) (M : Fin 20 → Nat → Int32) (r0 : Fin 20) (p0 : Fin 20) : Option ((Fin 20 → Nat → Int32)) :=
  f_X2_copy_l2 (fun y5 M6 =>
    some M6) fu r0 p0 fu 0 M
set_option maxHeartbeats 4000000 in
set_option maxRecDepth 100000 in
theorem C_X2_copy (l : Launch) (D : va_G) (tys : List (ClassId × FieldType)) (nw : List Cond) (hn : nw.all nw_kind = true) (hnw : ∀ w ∈ nw0, w ∈ nw) {ad : Nat → Nat} (hj : ww_inj 46 ad) {cI : ClassId} {cR : ClassId} (htI : tys[0]? = some (cI, .int)) (htR : tys[1]? = some (cR, .object RX2)) {fu : Nat} {M : Fin 20 → Nat → Int32} {E : Nat → Int32} {P : Nat → Fin 20} {C : Nat → Int32} {N : Nat → Int32} {r0 : Fin 20} {p0 : Fin 20} {res : (Fin 20 → Nat → Int32)} (hf : f_X2_copy fu M r0 p0 = some res) :
    Met l yX2_copy wsX2_copy ({ frames := 1, cells := 0, slots := 0, locals := 21 }) (va_Pc [.ref (ra ad r0), .ref (ra ad p0)] (ws_B D tys nw (ww 46 ad (cellC cI cR ad M E P C N)))) (ct_Q D (ww 46 ad (cellC cI cR ad res E P C N)) (ww_A 46 ad) (none)) 0 0 (ww_A 46 ad) := by
  refine Met.ofW (cc := cX2_copy) (maxL := 3) (ret := none) (by decide) rfl ?_
  intro p e s m args below meth c s₁ B hml hv
  obtain ⟨rfl, hP, hK, hN⟩ := hv
  have hx := B.exec
  have hb := B.bytes
  have hr := B.returns
  have hts := atoms_spec (ws := wsX2_copy) B.pre
  have hown : s.vm.findClass RX2 = some m.cls := findClass_of_methodNamed B.named
  have hlocks := B.notSynchronized
  have hS : va_S (ww_A 46 ad) s.heap s.heap [] := va_S.rf
  have hl := lv_entry ([.ref (ra ad r0), .ref (ra ad p0)]) (n := 3) (Nat.le_of_ble_eq_true rfl)
  rw [lg_entry_eq]
  generalize (lg_sl ([.ref (ra ad r0), .ref (ra ad p0)]) ++ List.replicate (3 - (lg_sl ([.ref (ra ad r0), .ref (ra ad p0)])).length) Slot.unset).toArray = ls at hl ⊢
  have hl : lv_has ls 3 [(0, .ref (ra ad r0)), (1, .ref (ra ad p0))] := hl
  have L2 : ∀ (x0 : Fin 20) (x1 : Fin 20) (k2 : Int32 → (Fin 20 → Nat → Int32) → Option ((Fin 20 → Nat → Int32))), (∀ (x2 : Int32) (M : Fin 20 → Nat → Int32) (H : Heap) (locs : List Loc) (ls : Array Slot), va_P D vwCl (ww 46 ad (cellC cI cR ad M E P C N)) H → va_S (ww_A 46 ad) s.heap H locs → lv_has ls 3 [(0, .ref (ra ad x0)), (1, .ref (ra ad x1)), (2, .int x2)] →  k2 x2 M = some res → W p l e (headSpec wsX2_copy { frames := 1, cells := 0, slots := 0, locals := 21 }).room s m [.ref (ra ad r0), .ref (ra ad p0)].toArray below meth c H locs 0 0 (MQ below (ct_Q D (ww 46 ad (cellC cI cR ad res E P C N)) (ww_A 46 ad) (none)) [.ref (ra ad r0), .ref (ra ad p0)].toArray s 0 0 (ww_A 46 ad)) (F0 m 28 ls [])) → ∀ (n : Nat) (x2 : Int32) (M : Fin 20 → Nat → Int32) (H : Heap) (locs : List Loc) (ls : Array Slot), va_P D vwCl (ww 46 ad (cellC cI cR ad M E P C N)) H → va_S (ww_A 46 ad) s.heap H locs → lv_has ls 3 [(0, .ref (ra ad x0)), (1, .ref (ra ad x1)), (2, .int x2)] →  f_X2_copy_l2 k2 fu x0 x1 n x2 M = some res → W p l e (headSpec wsX2_copy { frames := 1, cells := 0, slots := 0, locals := 21 }).room s m [.ref (ra ad r0), .ref (ra ad p0)].toArray below meth c H locs 0 0 (MQ below (ct_Q D (ww 46 ad (cellC cI cR ad res E P C N)) (ww_A 46 ad) (none)) [.ref (ra ad r0), .ref (ra ad p0)].toArray s 0 0 (ww_A 46 ad)) (F0 m 2 ls []) := by
    intro x0 x1 k2 hk_2 n
    induction n with
    | zero => intro x2 M H locs ls hP hS hl hf; rw [f_X2_copy_l2] at hf; cases hf
    | succ n ih =>
      intro x2 M H locs ls hP hS hl hf
      rw [f_X2_copy_l2] at hf
      refine lv_iload_n hx hb dX2_copy_2 rfl (lv_at hl 2 rfl) ?_
      refine lv_aload_n hx hb dX2_copy_3 rfl (lv_at hl 0 rfl) ?_
      refine va_get (ci := 2) (v := .ref (aa ad x0)) (C := RX2) (T := TX2) (N := 1) hx hb hts (by decide +kernel) hown hK hP (20 + (x0).val) (cc_row x0) rfl 0 (by decide) (hts (.fieldLink RX2 9 "NumberFieldFactors$Row" "elements" "[I") (by decide +kernel)) (fun _ h9 => h9) rfl dX2_copy_4 ?_
      refine va_alen (v := 16) hx hb hK hP (x0).val 0 (cc_arr x0) htI rfl dX2_copy_7 ?_
      refine lv_icmp_ge (tgt := 28) hx hb dX2_copy_8 (by decide) (fun c1 => ?_) (fun c1 => ?_)
      · rw [if_pos c1] at hf
        exact hk_2 x2 M _ _ _ hP hS (lv_sub hl [0, 1, 2] rfl) hf
      · rw [if_neg c1] at hf
        refine lv_aload_n hx hb dX2_copy_11 rfl (lv_at hl 0 rfl) ?_
        refine va_get (ci := 2) (v := .ref (aa ad x0)) (C := RX2) (T := TX2) (N := 1) hx hb hts (by decide +kernel) hown hK hP (20 + (x0).val) (cc_row x0) rfl 0 (by decide) (hts (.fieldLink RX2 9 "NumberFieldFactors$Row" "elements" "[I") (by decide +kernel)) (fun _ h9 => h9) rfl dX2_copy_12 ?_
        refine lv_iload_n hx hb dX2_copy_15 rfl (lv_at hl 2 rfl) ?_
        refine lv_aload_n hx hb dX2_copy_16 rfl (lv_at hl 1 rfl) ?_
        refine lv_iload_n hx hb dX2_copy_17 rfl (lv_at hl 2 rfl) ?_
        obtain ⟨u2, g3, hf⟩ := Option.bind_eq_some_iff.mp hf
        try dsimp only at hf
        refine ct_call (va_runV (As := [.int x2]) (rest := [.int x2, .ref (aa ad x0)]) ⟨hx, hb, hml, hown, hts⟩ (C_X2_get l D tys nw hn hnw hj htI htR (res := u2) g3) (cwV 1 hts gX2_copy_X2_get rfl rfl rfl (by decide +kernel) ⟨Nat.le_of_ble_eq_true rfl, Nat.le_of_ble_eq_true rfl⟩) (ct_preV hn hP hK hN (ci := 2) (k := (20 + (x1).val)) rfl (ra_lt x1) (cl_row x1)) rfl rfl hl.1 rfl (lv_room (Nat.le_of_ble_eq_true rfl)) dX2_copy_18 ⟨Nat.zero_le _, Nat.zero_le _⟩) hS (fun H locs hP hS => ?_)
        by_cases b4 : x2 < 0 ∨ 16 ≤ (x2).toNatClampNeg
        · rw [if_pos b4] at hf; cases hf
        rw [if_neg b4] at hf
        refine va_iast hx hb hK hP (ww_D hj) hS (x0).val 0 (cc_arr x0) htI b4 dX2_copy_21 (fun H locs hP hD hS => ?_)
        have hP := cs_M x0 hP
        refine lv_iinc (v := x2 + 1) (lv' := [(2, .int (x2 + 1)), (0, .ref (ra ad x0)), (1, .ref (ra ad x1))]) hx hb dX2_copy_22 hl (k := 2) rfl rfl (by decide) rfl (fun ls hl => ?_)
        refine lv_goto (tgt := 2) hx hb dX2_copy_25 (by decide) ?_
        exact ih (x2 + 1) (fup M x0 (upd (M x0) (x2).toNatClampNeg u2)) _ _ _ hP hS (lv_sub hl [1, 2, 0] rfl) hf
  unfold f_X2_copy at hf
  refine lv_iconst (v := 0) hx hb dX2_copy_0 (by decide) ?_
  refine lv_istore_n (lv' := [(2, .int 0), (0, .ref (ra ad r0)), (1, .ref (ra ad p0))]) hx hb dX2_copy_1 rfl hl (by decide) rfl (fun ls hl => ?_)
  refine L2 r0 p0 _ (fun y5 M6 H locs ls hP hS hl hf => ?_) fu 0 M _ _ _ hP hS (lv_sub hl [1, 2, 0] rfl) hf
  try dsimp only at hf
  obtain rfl := Option.some.inj hf
  exact W.vret hx hb hr (fun t ht hW => ⟨rfl, by rw [ht]; exact hP, hS.F ht⟩) hS.2.2 dX2_copy_28
def f_X2_becomeOne (fu : Nat) (M : Fin 20 → Nat → Int32) (r0 : Fin 20) : Option ((Fin 20 → Nat → Int32)) :=
  (f_X2_clear fu M r0).bind (fun u1 =>
  (f_X2_set u1 r0 0 1).bind (fun u3 =>
  some u3))
set_option maxHeartbeats 4000000 in
set_option maxRecDepth 100000 in
theorem C_X2_becomeOne (l : Launch) (D : va_G) (tys : List (ClassId × FieldType)) (nw : List Cond) (hn : nw.all nw_kind = true) (hnw : ∀ w ∈ nw0, w ∈ nw) {ad : Nat → Nat} (hj : ww_inj 46 ad) {cI : ClassId} {cR : ClassId} (htI : tys[0]? = some (cI, .int)) (htR : tys[1]? = some (cR, .object RX2)) {fu : Nat} {M : Fin 20 → Nat → Int32} {E : Nat → Int32} {P : Nat → Fin 20} {C : Nat → Int32} {N : Nat → Int32} {r0 : Fin 20} {res : (Fin 20 → Nat → Int32)} (hf : f_X2_becomeOne fu M r0 = some res) :
    Met l yX2_becomeOne wsX2_becomeOne ({ frames := 1, cells := 0, slots := 0, locals := 22 }) (va_Pc [.ref (ra ad r0)] (ws_B D tys nw (ww 46 ad (cellC cI cR ad M E P C N)))) (ct_Q D (ww 46 ad (cellC cI cR ad res E P C N)) (ww_A 46 ad) (none)) 0 0 (ww_A 46 ad) := by
  refine Met.ofW (cc := cX2_becomeOne) (maxL := 1) (ret := none) (by decide) rfl ?_
  intro p e s m args below meth c s₁ B hml hv
  obtain ⟨rfl, hP, hK, hN⟩ := hv
  have hx := B.exec
  have hb := B.bytes
  have hr := B.returns
  have hts := atoms_spec (ws := wsX2_becomeOne) B.pre
  have hown : s.vm.findClass RX2 = some m.cls := findClass_of_methodNamed B.named
  have hlocks := B.notSynchronized
  have hS : va_S (ww_A 46 ad) s.heap s.heap [] := va_S.rf
  have hl := lv_entry ([.ref (ra ad r0)]) (n := 1) (Nat.le_of_ble_eq_true rfl)
  rw [lg_entry_eq]
  generalize (lg_sl ([.ref (ra ad r0)]) ++ List.replicate (1 - (lg_sl ([.ref (ra ad r0)])).length) Slot.unset).toArray = ls at hl ⊢
  have hl : lv_has ls 1 [(0, .ref (ra ad r0))] := hl
  unfold f_X2_becomeOne at hf
  refine lv_aload_n hx hb dX2_becomeOne_0 rfl (lv_at hl 0 rfl) ?_
  obtain ⟨u1, g2, hf⟩ := Option.bind_eq_some_iff.mp hf
  try dsimp only at hf
  refine ct_call (va_runV (As := []) (rest := []) ⟨hx, hb, hml, hown, hts⟩ (C_X2_clear l D tys nw hn hnw hj htI htR (res := u1) g2) (cwV 0 hts gX2_becomeOne_X2_clear rfl rfl rfl (by decide +kernel) ⟨Nat.le_of_ble_eq_true rfl, Nat.le_of_ble_eq_true rfl⟩) (ct_preV hn hP hK hN (ci := 2) (k := (20 + (r0).val)) rfl (ra_lt r0) (cl_row r0)) rfl rfl hl.1 rfl (lv_room (Nat.le_of_ble_eq_true rfl)) dX2_becomeOne_1 ⟨Nat.zero_le _, Nat.zero_le _⟩) hS (fun H locs hP hS => ?_)
  refine lv_aload_n hx hb dX2_becomeOne_4 rfl (lv_at hl 0 rfl) ?_
  refine lv_iconst (v := 0) hx hb dX2_becomeOne_5 (by decide) ?_
  refine lv_iconst (v := 1) hx hb dX2_becomeOne_6 (by decide) ?_
  obtain ⟨u3, g4, hf⟩ := Option.bind_eq_some_iff.mp hf
  try dsimp only at hf
  refine ct_call (va_runV (As := [.int 0, .int 1]) (rest := []) ⟨hx, hb, hml, hown, hts⟩ (C_X2_set l D tys nw hn hnw hj htI htR (res := u3) g4) (cwV 2 hts gX2_becomeOne_X2_set rfl rfl rfl (by decide +kernel) ⟨Nat.le_of_ble_eq_true rfl, Nat.le_of_ble_eq_true rfl⟩) (ct_preV hn hP hK hN (ci := 2) (k := (20 + (r0).val)) rfl (ra_lt r0) (cl_row r0)) rfl rfl hl.1 rfl (lv_room (Nat.le_of_ble_eq_true rfl)) dX2_becomeOne_7 ⟨Nat.zero_le _, Nat.zero_le _⟩) hS (fun H locs hP hS => ?_)
  obtain rfl := Option.some.inj hf
  exact W.vret hx hb hr (fun t ht hW => ⟨rfl, by rw [ht]; exact hP, hS.F ht⟩) hS.2.2 dX2_becomeOne_10
def f_X2_isBefore_l29 (k29 : Int32 → Option (Int32)) (fu : Nat) (M : Fin 20 → Nat → Int32) (x0 : Fin 20) (x1 : Fin 20) (x2 : Int32) (x3 : Int32) : Nat → Int32 → Option (Int32)
  | 0, _ => none
  | n + 1, x4 =>
    if x4 < 0 then
      k29 x4
    else
      (f_X2_get M x0 x4).bind (fun u7 =>
      (f_X2_get M x1 x4).bind (fun u9 =>
      if u7 = u9 then
        f_X2_isBefore_l29 k29 fu M x0 x1 x2 x3 n (x4 + (-1))
      else
        (f_X2_get M x0 x4).bind (fun u12 =>
        (f_X2_get M x1 x4).bind (fun u14 =>
        if u14 ≤ u12 then
          some 0
        else
          some 1))))
def f_X2_isBefore (fu : Nat) (M : Fin 20 → Nat → Int32) (r0 : Fin 20) (p0 : Fin 20) : Option (Int32) :=
  (f_X2_degree fu M r0).bind (fun u1 =>
  (f_X2_degree fu M p0).bind (fun u3 =>
  if u1 = u3 then
    f_X2_isBefore_l29 (fun y17 =>
      some 0) fu M r0 p0 u1 u3 fu u1
  else
    if u3 ≤ u1 then
      some 0
    else
      some 1))
set_option maxHeartbeats 4000000 in
set_option maxRecDepth 100000 in
theorem C_X2_isBefore (l : Launch) (D : va_G) (tys : List (ClassId × FieldType)) (nw : List Cond) (hn : nw.all nw_kind = true) (hnw : ∀ w ∈ nw0, w ∈ nw) {ad : Nat → Nat} (hj : ww_inj 46 ad) {cI : ClassId} {cR : ClassId} (htI : tys[0]? = some (cI, .int)) (htR : tys[1]? = some (cR, .object RX2)) {fu : Nat} {M : Fin 20 → Nat → Int32} {E : Nat → Int32} {P : Nat → Fin 20} {C : Nat → Int32} {N : Nat → Int32} {r0 : Fin 20} {p0 : Fin 20} {res : Int32} (hf : f_X2_isBefore fu M r0 p0 = some res) :
    Met l yX2_isBefore wsX2_isBefore ({ frames := 1, cells := 0, slots := 0, locals := 21 }) (va_Pc [.ref (ra ad r0), .ref (ra ad p0)] (ws_B D tys nw (ww 46 ad (cellC cI cR ad M E P C N)))) (ct_Q D (ww 46 ad (cellC cI cR ad M E P C N)) (ww_A 46 ad) (some (.int res))) 0 0 (ww_A 46 ad) := by
  refine Met.ofW (cc := cX2_isBefore) (maxL := 5) (ret := (some .boolean)) (by decide) rfl ?_
  intro p e s m args below meth c s₁ B hml hv
  obtain ⟨rfl, hP, hK, hN⟩ := hv
  have hx := B.exec
  have hb := B.bytes
  have hr := B.returns
  have hts := atoms_spec (ws := wsX2_isBefore) B.pre
  have hown : s.vm.findClass RX2 = some m.cls := findClass_of_methodNamed B.named
  have hlocks := B.notSynchronized
  have hS : va_S (ww_A 46 ad) s.heap s.heap [] := va_S.rf
  have hl := lv_entry ([.ref (ra ad r0), .ref (ra ad p0)]) (n := 5) (Nat.le_of_ble_eq_true rfl)
  rw [lg_entry_eq]
  generalize (lg_sl ([.ref (ra ad r0), .ref (ra ad p0)]) ++ List.replicate (5 - (lg_sl ([.ref (ra ad r0), .ref (ra ad p0)])).length) Slot.unset).toArray = ls at hl ⊢
  have hl : lv_has ls 5 [(0, .ref (ra ad r0)), (1, .ref (ra ad p0))] := hl
  have L29 : ∀ (x0 : Fin 20) (x1 : Fin 20) (x2 : Int32) (x3 : Int32) (k29 : Int32 → Option (Int32)), (∀ (x4 : Int32) (H : Heap) (locs : List Loc) (ls : Array Slot), va_P D vwCl (ww 46 ad (cellC cI cR ad M E P C N)) H → va_S (ww_A 46 ad) s.heap H locs → lv_has ls 5 [(0, .ref (ra ad x0)), (1, .ref (ra ad x1)), (2, .int x2), (3, .int x3), (4, .int x4)] →  k29 x4 = some res → W p l e (headSpec wsX2_isBefore { frames := 1, cells := 0, slots := 0, locals := 21 }).room s m [.ref (ra ad r0), .ref (ra ad p0)].toArray below meth c H locs 0 0 (MQ below (ct_Q D (ww 46 ad (cellC cI cR ad M E P C N)) (ww_A 46 ad) (some (.int res))) [.ref (ra ad r0), .ref (ra ad p0)].toArray s 0 0 (ww_A 46 ad)) (F0 m 76 ls [])) → ∀ (n : Nat) (x4 : Int32) (H : Heap) (locs : List Loc) (ls : Array Slot), va_P D vwCl (ww 46 ad (cellC cI cR ad M E P C N)) H → va_S (ww_A 46 ad) s.heap H locs → lv_has ls 5 [(0, .ref (ra ad x0)), (1, .ref (ra ad x1)), (2, .int x2), (3, .int x3), (4, .int x4)] →  f_X2_isBefore_l29 k29 fu M x0 x1 x2 x3 n x4 = some res → W p l e (headSpec wsX2_isBefore { frames := 1, cells := 0, slots := 0, locals := 21 }).room s m [.ref (ra ad r0), .ref (ra ad p0)].toArray below meth c H locs 0 0 (MQ below (ct_Q D (ww 46 ad (cellC cI cR ad M E P C N)) (ww_A 46 ad) (some (.int res))) [.ref (ra ad r0), .ref (ra ad p0)].toArray s 0 0 (ww_A 46 ad)) (F0 m 29 ls []) := by
    intro x0 x1 x2 x3 k29 hk_29 n
    induction n with
    | zero => intro x4 H locs ls hP hS hl hf; rw [f_X2_isBefore_l29] at hf; cases hf
    | succ n ih =>
      intro x4 H locs ls hP hS hl hf
      rw [f_X2_isBefore_l29] at hf
      refine lv_iload hx hb dX2_isBefore_29 (lv_at hl 4 rfl) ?_
      refine lv_if_lt (tgt := 76) hx hb dX2_isBefore_31 (by decide) (fun c6 => ?_) (fun c6 => ?_)
      · rw [if_pos c6] at hf
        exact hk_29 x4 _ _ _ hP hS (lv_sub hl [0, 1, 2, 3, 4] rfl) hf
      · rw [if_neg c6] at hf
        refine lv_aload_n hx hb dX2_isBefore_34 rfl (lv_at hl 0 rfl) ?_
        refine lv_iload hx hb dX2_isBefore_35 (lv_at hl 4 rfl) ?_
        obtain ⟨u7, g8, hf⟩ := Option.bind_eq_some_iff.mp hf
        try dsimp only at hf
        refine ct_call (va_runV (As := [.int x4]) (rest := []) ⟨hx, hb, hml, hown, hts⟩ (C_X2_get l D tys nw hn hnw hj htI htR (res := u7) g8) (cwV 1 hts gX2_isBefore_X2_get rfl rfl rfl (by decide +kernel) ⟨Nat.le_of_ble_eq_true rfl, Nat.le_of_ble_eq_true rfl⟩) (ct_preV hn hP hK hN (ci := 2) (k := (20 + (x0).val)) rfl (ra_lt x0) (cl_row x0)) rfl rfl hl.1 rfl (lv_room (Nat.le_of_ble_eq_true rfl)) dX2_isBefore_37 ⟨Nat.zero_le _, Nat.zero_le _⟩) hS (fun H locs hP hS => ?_)
        refine lv_aload_n hx hb dX2_isBefore_40 rfl (lv_at hl 1 rfl) ?_
        refine lv_iload hx hb dX2_isBefore_41 (lv_at hl 4 rfl) ?_
        obtain ⟨u9, g10, hf⟩ := Option.bind_eq_some_iff.mp hf
        try dsimp only at hf
        refine ct_call (va_runV (As := [.int x4]) (rest := [.int u7]) ⟨hx, hb, hml, hown, hts⟩ (C_X2_get l D tys nw hn hnw hj htI htR (res := u9) g10) (cwV 1 hts gX2_isBefore_X2_get rfl rfl rfl (by decide +kernel) ⟨Nat.le_of_ble_eq_true rfl, Nat.le_of_ble_eq_true rfl⟩) (ct_preV hn hP hK hN (ci := 2) (k := (20 + (x1).val)) rfl (ra_lt x1) (cl_row x1)) rfl rfl hl.1 rfl (lv_room (Nat.le_of_ble_eq_true rfl)) dX2_isBefore_43 ⟨Nat.zero_le _, Nat.zero_le _⟩) hS (fun H locs hP hS => ?_)
        refine lv_icmp_eq (tgt := 70) hx hb dX2_isBefore_46 (by decide) (fun c11 => ?_) (fun c11 => ?_)
        · rw [if_pos c11] at hf
          refine lv_iinc (v := x4 + (-1)) (lv' := [(4, .int (x4 + (-1))), (0, .ref (ra ad x0)), (1, .ref (ra ad x1)), (2, .int x2), (3, .int x3)]) hx hb dX2_isBefore_70 hl (k := 4) rfl rfl (by decide) rfl (fun ls hl => ?_)
          refine lv_goto (tgt := 29) hx hb dX2_isBefore_73 (by decide) ?_
          exact ih (x4 + (-1)) _ _ _ hP hS (lv_sub hl [1, 2, 3, 4, 0] rfl) hf
        · rw [if_neg c11] at hf
          refine lv_aload_n hx hb dX2_isBefore_49 rfl (lv_at hl 0 rfl) ?_
          refine lv_iload hx hb dX2_isBefore_50 (lv_at hl 4 rfl) ?_
          obtain ⟨u12, g13, hf⟩ := Option.bind_eq_some_iff.mp hf
          try dsimp only at hf
          refine ct_call (va_runV (As := [.int x4]) (rest := []) ⟨hx, hb, hml, hown, hts⟩ (C_X2_get l D tys nw hn hnw hj htI htR (res := u12) g13) (cwV 1 hts gX2_isBefore_X2_get rfl rfl rfl (by decide +kernel) ⟨Nat.le_of_ble_eq_true rfl, Nat.le_of_ble_eq_true rfl⟩) (ct_preV hn hP hK hN (ci := 2) (k := (20 + (x0).val)) rfl (ra_lt x0) (cl_row x0)) rfl rfl hl.1 rfl (lv_room (Nat.le_of_ble_eq_true rfl)) dX2_isBefore_52 ⟨Nat.zero_le _, Nat.zero_le _⟩) hS (fun H locs hP hS => ?_)
          refine lv_aload_n hx hb dX2_isBefore_55 rfl (lv_at hl 1 rfl) ?_
          refine lv_iload hx hb dX2_isBefore_56 (lv_at hl 4 rfl) ?_
          obtain ⟨u14, g15, hf⟩ := Option.bind_eq_some_iff.mp hf
          try dsimp only at hf
          refine ct_call (va_runV (As := [.int x4]) (rest := [.int u12]) ⟨hx, hb, hml, hown, hts⟩ (C_X2_get l D tys nw hn hnw hj htI htR (res := u14) g15) (cwV 1 hts gX2_isBefore_X2_get rfl rfl rfl (by decide +kernel) ⟨Nat.le_of_ble_eq_true rfl, Nat.le_of_ble_eq_true rfl⟩) (ct_preV hn hP hK hN (ci := 2) (k := (20 + (x1).val)) rfl (ra_lt x1) (cl_row x1)) rfl rfl hl.1 rfl (lv_room (Nat.le_of_ble_eq_true rfl)) dX2_isBefore_58 ⟨Nat.zero_le _, Nat.zero_le _⟩) hS (fun H locs hP hS => ?_)
          refine lv_icmp_ge (tgt := 68) hx hb dX2_isBefore_61 (by decide) (fun c16 => ?_) (fun c16 => ?_)
          · rw [if_pos c16] at hf
            refine lv_iconst (v := 0) hx hb dX2_isBefore_68 (by decide) ?_
            obtain rfl := Option.some.inj hf
            exact W.zret (v := 0) (ty := .boolean) hx hb hr (by decide) (fun t ht hW => ⟨rfl, by rw [ht]; exact hP, hS.F ht⟩) hS.2.2 dX2_isBefore_69
          · rw [if_neg c16] at hf
            refine lv_iconst (v := 1) hx hb dX2_isBefore_64 (by decide) ?_
            refine lv_goto (tgt := 69) hx hb dX2_isBefore_65 (by decide) ?_
            obtain rfl := Option.some.inj hf
            exact W.zret (v := 1) (ty := .boolean) hx hb hr (by decide) (fun t ht hW => ⟨rfl, by rw [ht]; exact hP, hS.F ht⟩) hS.2.2 dX2_isBefore_69
  unfold f_X2_isBefore at hf
  refine lv_aload_n hx hb dX2_isBefore_0 rfl (lv_at hl 0 rfl) ?_
  obtain ⟨u1, g2, hf⟩ := Option.bind_eq_some_iff.mp hf
  try dsimp only at hf
  refine ct_call (va_runV (As := []) (rest := []) ⟨hx, hb, hml, hown, hts⟩ (C_X2_degree l D tys nw hn hnw hj htI htR (res := u1) g2) (cwV 0 hts gX2_isBefore_X2_degree rfl rfl rfl (by decide +kernel) ⟨Nat.le_of_ble_eq_true rfl, Nat.le_of_ble_eq_true rfl⟩) (ct_preV hn hP hK hN (ci := 2) (k := (20 + (r0).val)) rfl (ra_lt r0) (cl_row r0)) rfl rfl hl.1 rfl (lv_room (Nat.le_of_ble_eq_true rfl)) dX2_isBefore_1 ⟨Nat.zero_le _, Nat.zero_le _⟩) hS (fun H locs hP hS => ?_)
  refine lv_istore_n (lv' := [(2, .int u1), (0, .ref (ra ad r0)), (1, .ref (ra ad p0))]) hx hb dX2_isBefore_4 rfl hl (by decide) rfl (fun ls hl => ?_)
  refine lv_aload_n hx hb dX2_isBefore_5 rfl (lv_at hl 2 rfl) ?_
  obtain ⟨u3, g4, hf⟩ := Option.bind_eq_some_iff.mp hf
  try dsimp only at hf
  refine ct_call (va_runV (As := []) (rest := []) ⟨hx, hb, hml, hown, hts⟩ (C_X2_degree l D tys nw hn hnw hj htI htR (res := u3) g4) (cwV 0 hts gX2_isBefore_X2_degree rfl rfl rfl (by decide +kernel) ⟨Nat.le_of_ble_eq_true rfl, Nat.le_of_ble_eq_true rfl⟩) (ct_preV hn hP hK hN (ci := 2) (k := (20 + (p0).val)) rfl (ra_lt p0) (cl_row p0)) rfl rfl hl.1 rfl (lv_room (Nat.le_of_ble_eq_true rfl)) dX2_isBefore_6 ⟨Nat.zero_le _, Nat.zero_le _⟩) hS (fun H locs hP hS => ?_)
  refine lv_istore_n (lv' := [(3, .int u3), (2, .int u1), (0, .ref (ra ad r0)), (1, .ref (ra ad p0))]) hx hb dX2_isBefore_9 rfl hl (by decide) rfl (fun ls hl => ?_)
  refine lv_iload_n hx hb dX2_isBefore_10 rfl (lv_at hl 1 rfl) ?_
  refine lv_iload_n hx hb dX2_isBefore_11 rfl (lv_at hl 0 rfl) ?_
  refine lv_icmp_eq (tgt := 26) hx hb dX2_isBefore_12 (by decide) (fun c5 => ?_) (fun c5 => ?_)
  · rw [if_pos c5] at hf
    refine lv_iload_n hx hb dX2_isBefore_26 rfl (lv_at hl 1 rfl) ?_
    refine lv_istore (lv' := [(4, .int u1), (3, .int u3), (2, .int u1), (0, .ref (ra ad r0)), (1, .ref (ra ad p0))]) hx hb dX2_isBefore_27 hl (by decide) rfl (fun ls hl => ?_)
    refine L29 r0 p0 u1 u3 _ (fun y17 H locs ls hP hS hl hf => ?_) fu u1 _ _ _ hP hS (lv_sub hl [3, 4, 2, 1, 0] rfl) hf
    try dsimp only at hf
    refine lv_iconst (v := 0) hx hb dX2_isBefore_76 (by decide) ?_
    obtain rfl := Option.some.inj hf
    exact W.zret (v := 0) (ty := .boolean) hx hb hr (by decide) (fun t ht hW => ⟨rfl, by rw [ht]; exact hP, hS.F ht⟩) hS.2.2 dX2_isBefore_77
  · rw [if_neg c5] at hf
    refine lv_iload_n hx hb dX2_isBefore_15 rfl (lv_at hl 1 rfl) ?_
    refine lv_iload_n hx hb dX2_isBefore_16 rfl (lv_at hl 0 rfl) ?_
    refine lv_icmp_ge (tgt := 24) hx hb dX2_isBefore_17 (by decide) (fun c18 => ?_) (fun c18 => ?_)
    · rw [if_pos c18] at hf
      refine lv_iconst (v := 0) hx hb dX2_isBefore_24 (by decide) ?_
      obtain rfl := Option.some.inj hf
      exact W.zret (v := 0) (ty := .boolean) hx hb hr (by decide) (fun t ht hW => ⟨rfl, by rw [ht]; exact hP, hS.F ht⟩) hS.2.2 dX2_isBefore_25
    · rw [if_neg c18] at hf
      refine lv_iconst (v := 1) hx hb dX2_isBefore_20 (by decide) ?_
      refine lv_goto (tgt := 25) hx hb dX2_isBefore_21 (by decide) ?_
      obtain rfl := Option.some.inj hf
      exact W.zret (v := 1) (ty := .boolean) hx hb hr (by decide) (fun t ht hW => ⟨rfl, by rw [ht]; exact hP, hS.F ht⟩) hS.2.2 dX2_isBefore_25
end
section
def f_X0_hasRoot_l3 (k3 : Int32 → Option (Int32)) (fu : Nat) (x0 : Int32) (x1 : Int32) (x2 : Int32) (x3 : Int32) : Nat → Int32 → Option (Int32)
  | 0, _ => none
  | n + 1, x4 =>
    if 101 ≤ x4 then
      k3 x4
    else
      if x0 = 2 then
        if (jrem (((jrem ((1 * x4) + x2) 101) * x4) + x1) 101) = 0 then
          some 1
        else
          f_X0_hasRoot_l3 k3 fu x0 x1 x2 x3 n (x4 + 1)
      else
        nm (jrem (x4 + x3) 101) (fun v3 =>
        if (jrem (((jrem ((v3 * x4) + x2) 101) * x4) + x1) 101) = 0 then
          some 1
        else
          f_X0_hasRoot_l3 k3 fu x0 x1 x2 x3 n (x4 + 1))
def f_X0_hasRoot (fu : Nat) (p0 : Int32) (p1 : Int32) (p2 : Int32) (p3 : Int32) : Option (Int32) :=
  f_X0_hasRoot_l3 (fun y6 =>
    some 0) fu p0 p1 p2 p3 fu 0
set_option maxHeartbeats 4000000 in
set_option maxRecDepth 100000 in
theorem C_X0_hasRoot (l : Launch) (D : va_G) (tys : List (ClassId × FieldType)) (nw : List Cond) (hn : nw.all nw_kind = true) (hnw : ∀ w ∈ nw0, w ∈ nw) {ad : Nat → Nat} (hj : ww_inj 46 ad) {cI : ClassId} {cR : ClassId} (htI : tys[0]? = some (cI, .int)) (htR : tys[1]? = some (cR, .object RX2)) {fu : Nat} {M : Fin 20 → Nat → Int32} {E : Nat → Int32} {P : Nat → Fin 20} {C : Nat → Int32} {N : Nat → Int32} {p0 : Int32} {p1 : Int32} {p2 : Int32} {p3 : Int32} {res : Int32} (hf : f_X0_hasRoot fu p0 p1 p2 p3 = some res) :
    Met l yX0_hasRoot wsX0_hasRoot ({ frames := 0, cells := 0, slots := 0, locals := 0 }) (va_Pc [.int p0, .int p1, .int p2, .int p3] (ws_B D tys nw (ww 46 ad (cellC cI cR ad M E P C N)))) (ct_Q D (ww 46 ad (cellC cI cR ad M E P C N)) (ww_A 46 ad) (some (.int res))) 0 0 (ww_A 46 ad) := by
  refine Met.ofW (cc := cX0_hasRoot) (maxL := 6) (ret := (some .boolean)) (by decide) rfl ?_
  intro p e s m args below meth c s₁ B hml hv
  obtain ⟨rfl, hP, hK, hN⟩ := hv
  have hx := B.exec
  have hb := B.bytes
  have hr := B.returns
  have hts := atoms_spec (ws := wsX0_hasRoot) B.pre
  have hown : s.vm.findClass RX0 = some m.cls := findClass_of_methodNamed B.named
  have hlocks := B.notSynchronized
  have hS : va_S (ww_A 46 ad) s.heap s.heap [] := va_S.rf
  have hl := lv_entry ([.int p0, .int p1, .int p2, .int p3]) (n := 6) (Nat.le_of_ble_eq_true rfl)
  rw [lg_entry_eq]
  generalize (lg_sl ([.int p0, .int p1, .int p2, .int p3]) ++ List.replicate (6 - (lg_sl ([.int p0, .int p1, .int p2, .int p3])).length) Slot.unset).toArray = ls at hl ⊢
  have hl : lv_has ls 6 [(0, .int p0), (1, .int p1), (2, .int p2), (3, .int p3)] := hl
  have L3 : ∀ (x0 : Int32) (x1 : Int32) (x2 : Int32) (x3 : Int32) (k3 : Int32 → Option (Int32)), (∀ (x4 : Int32) (H : Heap) (locs : List Loc) (ls : Array Slot), va_P D vwCl (ww 46 ad (cellC cI cR ad M E P C N)) H → va_S (ww_A 46 ad) s.heap H locs → lv_has ls 6 [(0, .int x0), (1, .int x1), (2, .int x2), (3, .int x3), (4, .int x4)] →  k3 x4 = some res → W p l e (headSpec wsX0_hasRoot { frames := 0, cells := 0, slots := 0, locals := 0 }).room s m [.int p0, .int p1, .int p2, .int p3].toArray below meth c H locs 0 0 (MQ below (ct_Q D (ww 46 ad (cellC cI cR ad M E P C N)) (ww_A 46 ad) (some (.int res))) [.int p0, .int p1, .int p2, .int p3].toArray s 0 0 (ww_A 46 ad)) (F0 m 57 ls [])) → ∀ (n : Nat) (x4 : Int32) (H : Heap) (locs : List Loc) (ls : Array Slot), va_P D vwCl (ww 46 ad (cellC cI cR ad M E P C N)) H → va_S (ww_A 46 ad) s.heap H locs → lv_has ls 6 [(0, .int x0), (1, .int x1), (2, .int x2), (3, .int x3), (4, .int x4)] →  f_X0_hasRoot_l3 k3 fu x0 x1 x2 x3 n x4 = some res → W p l e (headSpec wsX0_hasRoot { frames := 0, cells := 0, slots := 0, locals := 0 }).room s m [.int p0, .int p1, .int p2, .int p3].toArray below meth c H locs 0 0 (MQ below (ct_Q D (ww 46 ad (cellC cI cR ad M E P C N)) (ww_A 46 ad) (some (.int res))) [.int p0, .int p1, .int p2, .int p3].toArray s 0 0 (ww_A 46 ad)) (F0 m 3 ls []) := by
    intro x0 x1 x2 x3 k3 hk_3 n
    induction n with
    | zero => intro x4 H locs ls hP hS hl hf; rw [f_X0_hasRoot_l3] at hf; cases hf
    | succ n ih =>
      intro x4 H locs ls hP hS hl hf
      rw [f_X0_hasRoot_l3] at hf
      refine lv_iload hx hb dX0_hasRoot_3 (lv_at hl 4 rfl) ?_
      refine lv_bipush (v := 101) hx hb dX0_hasRoot_5 (by decide) ?_
      refine lv_icmp_ge (tgt := 57) hx hb dX0_hasRoot_7 (by decide) (fun c1 => ?_) (fun c1 => ?_)
      · rw [if_pos c1] at hf
        exact hk_3 x4 _ _ _ hP hS (lv_sub hl [0, 1, 2, 3, 4] rfl) hf
      · rw [if_neg c1] at hf
        refine lv_iload_n hx hb dX0_hasRoot_10 rfl (lv_at hl 0 rfl) ?_
        refine lv_iconst (v := 2) hx hb dX0_hasRoot_11 (by decide) ?_
        refine lv_icmp_ne (tgt := 19) hx hb dX0_hasRoot_12 (by decide) (fun c2 => ?_) (fun c2 => ?_)
        · rw [if_neg c2] at hf
          refine lv_iload hx hb dX0_hasRoot_19 (lv_at hl 4 rfl) ?_
          refine lv_iload_n hx hb dX0_hasRoot_21 rfl (lv_at hl 3 rfl) ?_
          refine lv_iadd hx hb dX0_hasRoot_22 ?_
          refine lv_bipush (v := 101) hx hb dX0_hasRoot_23 (by decide) ?_
          refine jv_irem hx hb dX0_hasRoot_25 (by decide) ?_
          obtain ⟨v3, ev3, hf⟩ := nm_elim hf
          try dsimp only at hf
          refine tp_I ev3 ?_
          refine lv_istore (lv' := [(5, .int v3), (0, .int x0), (1, .int x1), (2, .int x2), (3, .int x3), (4, .int x4)]) hx hb dX0_hasRoot_26 hl (by decide) rfl (fun ls hl => ?_)
          refine lv_iload hx hb dX0_hasRoot_28 (lv_at hl 0 rfl) ?_
          refine lv_iload hx hb dX0_hasRoot_30 (lv_at hl 5 rfl) ?_
          refine lv_imul hx hb dX0_hasRoot_32 ?_
          refine lv_iload_n hx hb dX0_hasRoot_33 rfl (lv_at hl 3 rfl) ?_
          refine lv_iadd hx hb dX0_hasRoot_34 ?_
          refine lv_bipush (v := 101) hx hb dX0_hasRoot_35 (by decide) ?_
          refine jv_irem hx hb dX0_hasRoot_37 (by decide) ?_
          refine lv_iload hx hb dX0_hasRoot_38 (lv_at hl 5 rfl) ?_
          refine lv_imul hx hb dX0_hasRoot_40 ?_
          refine lv_iload_n hx hb dX0_hasRoot_41 rfl (lv_at hl 2 rfl) ?_
          refine lv_iadd hx hb dX0_hasRoot_42 ?_
          refine lv_bipush (v := 101) hx hb dX0_hasRoot_43 (by decide) ?_
          refine jv_irem hx hb dX0_hasRoot_45 (by decide) ?_
          refine lv_if_ne (tgt := 51) hx hb dX0_hasRoot_46 (by decide) (fun c4 => ?_) (fun c4 => ?_)
          · rw [if_neg c4] at hf
            refine lv_iinc (v := x4 + 1) (lv' := [(4, .int (x4 + 1)), (5, .int v3), (0, .int x0), (1, .int x1), (2, .int x2), (3, .int x3)]) hx hb dX0_hasRoot_51 hl (k := 5) rfl rfl (by decide) rfl (fun ls hl => ?_)
            refine lv_goto (tgt := 3) hx hb dX0_hasRoot_54 (by decide) ?_
            exact ih (x4 + 1) _ _ _ hP hS (lv_sub hl [2, 3, 4, 5, 0] rfl) hf
          · rw [if_pos c4] at hf
            refine lv_iconst (v := 1) hx hb dX0_hasRoot_49 (by decide) ?_
            obtain rfl := Option.some.inj hf
            exact W.zret (v := 1) (ty := .boolean) hx hb hr (by decide) (fun t ht hW => ⟨rfl, by rw [ht]; exact hP, hS.F ht⟩) hS.2.2 dX0_hasRoot_50
        · rw [if_pos c2] at hf
          refine lv_iconst (v := 1) hx hb dX0_hasRoot_15 (by decide) ?_
          refine lv_goto (tgt := 26) hx hb dX0_hasRoot_16 (by decide) ?_
          refine lv_istore (lv' := [(5, .int 1), (0, .int x0), (1, .int x1), (2, .int x2), (3, .int x3), (4, .int x4)]) hx hb dX0_hasRoot_26 hl (by decide) rfl (fun ls hl => ?_)
          refine lv_iload hx hb dX0_hasRoot_28 (lv_at hl 0 rfl) ?_
          refine lv_iload hx hb dX0_hasRoot_30 (lv_at hl 5 rfl) ?_
          refine lv_imul hx hb dX0_hasRoot_32 ?_
          refine lv_iload_n hx hb dX0_hasRoot_33 rfl (lv_at hl 3 rfl) ?_
          refine lv_iadd hx hb dX0_hasRoot_34 ?_
          refine lv_bipush (v := 101) hx hb dX0_hasRoot_35 (by decide) ?_
          refine jv_irem hx hb dX0_hasRoot_37 (by decide) ?_
          refine lv_iload hx hb dX0_hasRoot_38 (lv_at hl 5 rfl) ?_
          refine lv_imul hx hb dX0_hasRoot_40 ?_
          refine lv_iload_n hx hb dX0_hasRoot_41 rfl (lv_at hl 2 rfl) ?_
          refine lv_iadd hx hb dX0_hasRoot_42 ?_
          refine lv_bipush (v := 101) hx hb dX0_hasRoot_43 (by decide) ?_
          refine jv_irem hx hb dX0_hasRoot_45 (by decide) ?_
          refine lv_if_ne (tgt := 51) hx hb dX0_hasRoot_46 (by decide) (fun c5 => ?_) (fun c5 => ?_)
          · rw [if_neg c5] at hf
            refine lv_iinc (v := x4 + 1) (lv' := [(4, .int (x4 + 1)), (5, .int 1), (0, .int x0), (1, .int x1), (2, .int x2), (3, .int x3)]) hx hb dX0_hasRoot_51 hl (k := 5) rfl rfl (by decide) rfl (fun ls hl => ?_)
            refine lv_goto (tgt := 3) hx hb dX0_hasRoot_54 (by decide) ?_
            exact ih (x4 + 1) _ _ _ hP hS (lv_sub hl [2, 3, 4, 5, 0] rfl) hf
          · rw [if_pos c5] at hf
            refine lv_iconst (v := 1) hx hb dX0_hasRoot_49 (by decide) ?_
            obtain rfl := Option.some.inj hf
            exact W.zret (v := 1) (ty := .boolean) hx hb hr (by decide) (fun t ht hW => ⟨rfl, by rw [ht]; exact hP, hS.F ht⟩) hS.2.2 dX0_hasRoot_50
  unfold f_X0_hasRoot at hf
  refine lv_iconst (v := 0) hx hb dX0_hasRoot_0 (by decide) ?_
  refine lv_istore (lv' := [(4, .int 0), (0, .int p0), (1, .int p1), (2, .int p2), (3, .int p3)]) hx hb dX0_hasRoot_1 hl (by decide) rfl (fun ls hl => ?_)
  refine L3 p0 p1 p2 p3 _ (fun y6 H locs ls hP hS hl hf => ?_) fu 0 _ _ _ hP hS (lv_sub hl [1, 2, 3, 4, 0] rfl) hf
  try dsimp only at hf
  refine lv_iconst (v := 0) hx hb dX0_hasRoot_57 (by decide) ?_
  obtain rfl := Option.some.inj hf
  exact W.zret (v := 0) (ty := .boolean) hx hb hr (by decide) (fun t ht hW => ⟨rfl, by rw [ht]; exact hP, hS.F ht⟩) hS.2.2 dX0_hasRoot_58
def f_X0_modulusAt (E : Nat → Int32) (p0 : Int32) : Option (Int32) :=
  if p0 = (E 0) then
    some 1
  else
    if p0 = 0 then
      some (E 2)
    else
    if p0 = 1 then
      some (E 3)
    else
    if p0 = 2 then
      some (E 4)
    else
    some 0
set_option maxHeartbeats 4000000 in
set_option maxRecDepth 100000 in
theorem C_X0_modulusAt (l : Launch) (D : va_G) (tys : List (ClassId × FieldType)) (nw : List Cond) (hn : nw.all nw_kind = true) (hnw : ∀ w ∈ nw0, w ∈ nw) {ad : Nat → Nat} (hj : ww_inj 46 ad) {cI : ClassId} {cR : ClassId} (htI : tys[0]? = some (cI, .int)) (htR : tys[1]? = some (cR, .object RX2)) {M : Fin 20 → Nat → Int32} {E : Nat → Int32} {P : Nat → Fin 20} {C : Nat → Int32} {N : Nat → Int32} {p0 : Int32} {res : Int32} (hf : f_X0_modulusAt E p0 = some res) :
    Met l yX0_modulusAt wsX0_modulusAt ({ frames := 0, cells := 0, slots := 0, locals := 0 }) (va_Pc [.ref (ad 40), .int p0] (ws_B D tys nw (ww 46 ad (cellC cI cR ad M E P C N)))) (ct_Q D (ww 46 ad (cellC cI cR ad M E P C N)) (ww_A 46 ad) (some (.int res))) 0 0 (ww_A 46 ad) := by
  refine Met.ofW (cc := cX0_modulusAt) (maxL := 2) (ret := (some .int)) (by decide) rfl ?_
  intro p e s m args below meth c s₁ B hml hv
  obtain ⟨rfl, hP, hK, hN⟩ := hv
  have hx := B.exec
  have hb := B.bytes
  have hr := B.returns
  have hts := atoms_spec (ws := wsX0_modulusAt) B.pre
  have hown : s.vm.findClass RX0 = some m.cls := findClass_of_methodNamed B.named
  have hlocks := B.notSynchronized
  have hS : va_S (ww_A 46 ad) s.heap s.heap [] := va_S.rf
  have hl := lv_entry ([.ref (ad 40), .int p0]) (n := 2) (Nat.le_of_ble_eq_true rfl)
  rw [lg_entry_eq]
  generalize (lg_sl ([.ref (ad 40), .int p0]) ++ List.replicate (2 - (lg_sl ([.ref (ad 40), .int p0])).length) Slot.unset).toArray = ls at hl ⊢
  have hl : lv_has ls 2 [(0, .ref (ad 40)), (1, .int p0)] := hl
  unfold f_X0_modulusAt at hf
  refine lv_iload_n hx hb dX0_modulusAt_0 rfl (lv_at hl 1 rfl) ?_
  refine lv_aload_n hx hb dX0_modulusAt_1 rfl (lv_at hl 0 rfl) ?_
  refine va_get (ci := 0) (v := .int (E 0)) (C := RX0) (T := TX0) (N := 8) hx hb hts (by decide +kernel) hown hK hP 40 cc_ext rfl 0 (by decide) (hts (.fieldLink RX0 9 "NumberFieldFactors$Extension" "degree" "I") (by decide +kernel)) (fun _ h9 => h9) rfl dX0_modulusAt_2 ?_
  refine lv_icmp_ne (tgt := 10) hx hb dX0_modulusAt_5 (by decide) (fun c1 => ?_) (fun c1 => ?_)
  · rw [if_neg c1] at hf
    refine lv_iload_n hx hb dX0_modulusAt_10 rfl (lv_at hl 1 rfl) ?_
    by_cases c2 : p0 = 0
    · rw [if_pos c2] at hf
      refine lv_tableIn (off := 25) (tgt := 36) hx hb dX0_modulusAt_11 (by rw [c2]; decide) (by rw [c2]; decide) (by rw [c2]; rfl) (by decide) ?_
      refine lv_aload_n hx hb dX0_modulusAt_36 rfl (lv_at hl 0 rfl) ?_
      refine va_get (ci := 0) (v := .int (E 2)) (C := RX0) (T := TX0) (N := 8) hx hb hts (by decide +kernel) hown hK hP 40 cc_ext rfl 2 (by decide) (hts (.fieldLink RX0 18 "NumberFieldFactors$Extension" "low0" "I") (by decide +kernel)) (fun _ h9 => h9) rfl dX0_modulusAt_37 ?_
      obtain rfl := Option.some.inj hf
      exact W.iret (v := E 2) hx hb hr (fun t ht hW => ⟨rfl, by rw [ht]; exact hP, hS.F ht⟩) hS.2.2 dX0_modulusAt_40
    rw [if_neg c2] at hf
    by_cases c3 : p0 = 1
    · rw [if_pos c3] at hf
      refine lv_tableIn (off := 30) (tgt := 41) hx hb dX0_modulusAt_11 (by rw [c3]; decide) (by rw [c3]; decide) (by rw [c3]; rfl) (by decide) ?_
      refine lv_aload_n hx hb dX0_modulusAt_41 rfl (lv_at hl 0 rfl) ?_
      refine va_get (ci := 0) (v := .int (E 3)) (C := RX0) (T := TX0) (N := 8) hx hb hts (by decide +kernel) hown hK hP 40 cc_ext rfl 3 (by decide) (hts (.fieldLink RX0 21 "NumberFieldFactors$Extension" "low1" "I") (by decide +kernel)) (fun _ h9 => h9) rfl dX0_modulusAt_42 ?_
      obtain rfl := Option.some.inj hf
      exact W.iret (v := E 3) hx hb hr (fun t ht hW => ⟨rfl, by rw [ht]; exact hP, hS.F ht⟩) hS.2.2 dX0_modulusAt_45
    rw [if_neg c3] at hf
    by_cases c4 : p0 = 2
    · rw [if_pos c4] at hf
      refine lv_tableIn (off := 35) (tgt := 46) hx hb dX0_modulusAt_11 (by rw [c4]; decide) (by rw [c4]; decide) (by rw [c4]; rfl) (by decide) ?_
      refine lv_aload_n hx hb dX0_modulusAt_46 rfl (lv_at hl 0 rfl) ?_
      refine va_get (ci := 0) (v := .int (E 4)) (C := RX0) (T := TX0) (N := 8) hx hb hts (by decide +kernel) hown hK hP 40 cc_ext rfl 4 (by decide) (hts (.fieldLink RX0 24 "NumberFieldFactors$Extension" "low2" "I") (by decide +kernel)) (fun _ h9 => h9) rfl dX0_modulusAt_47 ?_
      obtain rfl := Option.some.inj hf
      exact W.iret (v := E 4) hx hb hr (fun t ht hW => ⟨rfl, by rw [ht]; exact hP, hS.F ht⟩) hS.2.2 dX0_modulusAt_50
    rw [if_neg c4] at hf
    refine lv_tableOut (tgt := 51) hx hb dX0_modulusAt_11 (by have ec2 : (p0).toInt ≠ 0 := fun h => c2 (Int32.toInt_inj.mp (h.trans (by decide))); have ec3 : (p0).toInt ≠ 1 := fun h => c3 (Int32.toInt_inj.mp (h.trans (by decide))); have ec4 : (p0).toInt ≠ 2 := fun h => c4 (Int32.toInt_inj.mp (h.trans (by decide))); omega) (by decide) ?_
    refine lv_iconst (v := 0) hx hb dX0_modulusAt_51 (by decide) ?_
    obtain rfl := Option.some.inj hf
    exact W.iret (v := 0) hx hb hr (fun t ht hW => ⟨rfl, by rw [ht]; exact hP, hS.F ht⟩) hS.2.2 dX0_modulusAt_52
  · rw [if_pos c1] at hf
    refine lv_iconst (v := 1) hx hb dX0_modulusAt_8 (by decide) ?_
    obtain rfl := Option.some.inj hf
    exact W.iret (v := 1) hx hb hr (fun t ht hW => ⟨rfl, by rw [ht]; exact hP, hS.F ht⟩) hS.2.2 dX0_modulusAt_9
def f_X0_plus (p0 : Int32) (p1 : Int32) : Option (Int32) :=
  nm (jrem ((jrem p0 101) + (jrem p1 101)) 101) (fun v1 =>
  nm (jrem ((jrem (p0 / 101) 101) + (jrem (p1 / 101) 101)) 101) (fun v2 =>
  nm (jrem ((p0 / 10201) + (p1 / 10201)) 101) (fun v3 =>
  some ((v1 + (101 * v2)) + (10201 * v3)))))
set_option maxHeartbeats 4000000 in
set_option maxRecDepth 100000 in
theorem C_X0_plus (l : Launch) (D : va_G) (tys : List (ClassId × FieldType)) (nw : List Cond) (hn : nw.all nw_kind = true) (hnw : ∀ w ∈ nw0, w ∈ nw) {ad : Nat → Nat} (hj : ww_inj 46 ad) {cI : ClassId} {cR : ClassId} (htI : tys[0]? = some (cI, .int)) (htR : tys[1]? = some (cR, .object RX2)) {M : Fin 20 → Nat → Int32} {E : Nat → Int32} {P : Nat → Fin 20} {C : Nat → Int32} {N : Nat → Int32} {p0 : Int32} {p1 : Int32} {res : Int32} (hf : f_X0_plus p0 p1 = some res) :
    Met l yX0_plus wsX0_plus ({ frames := 0, cells := 0, slots := 0, locals := 0 }) (va_Pc [.ref (ad 40), .int p0, .int p1] (ws_B D tys nw (ww 46 ad (cellC cI cR ad M E P C N)))) (ct_Q D (ww 46 ad (cellC cI cR ad M E P C N)) (ww_A 46 ad) (some (.int res))) 0 0 (ww_A 46 ad) := by
  refine Met.ofW (cc := cX0_plus) (maxL := 6) (ret := (some .int)) (by decide) rfl ?_
  intro p e s m args below meth c s₁ B hml hv
  obtain ⟨rfl, hP, hK, hN⟩ := hv
  have hx := B.exec
  have hb := B.bytes
  have hr := B.returns
  have hts := atoms_spec (ws := wsX0_plus) B.pre
  have hown : s.vm.findClass RX0 = some m.cls := findClass_of_methodNamed B.named
  have hlocks := B.notSynchronized
  have hS : va_S (ww_A 46 ad) s.heap s.heap [] := va_S.rf
  have hl := lv_entry ([.ref (ad 40), .int p0, .int p1]) (n := 6) (Nat.le_of_ble_eq_true rfl)
  rw [lg_entry_eq]
  generalize (lg_sl ([.ref (ad 40), .int p0, .int p1]) ++ List.replicate (6 - (lg_sl ([.ref (ad 40), .int p0, .int p1])).length) Slot.unset).toArray = ls at hl ⊢
  have hl : lv_has ls 6 [(0, .ref (ad 40)), (1, .int p0), (2, .int p1)] := hl
  unfold f_X0_plus at hf
  refine lv_iload_n hx hb dX0_plus_0 rfl (lv_at hl 1 rfl) ?_
  refine lv_bipush (v := 101) hx hb dX0_plus_1 (by decide) ?_
  refine jv_irem hx hb dX0_plus_3 (by decide) ?_
  refine lv_iload_n hx hb dX0_plus_4 rfl (lv_at hl 2 rfl) ?_
  refine lv_bipush (v := 101) hx hb dX0_plus_5 (by decide) ?_
  refine jv_irem hx hb dX0_plus_7 (by decide) ?_
  refine lv_iadd hx hb dX0_plus_8 ?_
  refine lv_bipush (v := 101) hx hb dX0_plus_9 (by decide) ?_
  refine jv_irem hx hb dX0_plus_11 (by decide) ?_
  obtain ⟨v1, ev1, hf⟩ := nm_elim hf
  try dsimp only at hf
  refine tp_I ev1 ?_
  refine lv_istore_n (lv' := [(3, .int v1), (0, .ref (ad 40)), (1, .int p0), (2, .int p1)]) hx hb dX0_plus_12 rfl hl (by decide) rfl (fun ls hl => ?_)
  refine lv_iload_n hx hb dX0_plus_13 rfl (lv_at hl 2 rfl) ?_
  refine lv_bipush (v := 101) hx hb dX0_plus_14 (by decide) ?_
  refine lv_idiv hx hb dX0_plus_16 (by decide) ?_
  refine lv_bipush (v := 101) hx hb dX0_plus_17 (by decide) ?_
  refine jv_irem hx hb dX0_plus_19 (by decide) ?_
  refine lv_iload_n hx hb dX0_plus_20 rfl (lv_at hl 3 rfl) ?_
  refine lv_bipush (v := 101) hx hb dX0_plus_21 (by decide) ?_
  refine lv_idiv hx hb dX0_plus_23 (by decide) ?_
  refine lv_bipush (v := 101) hx hb dX0_plus_24 (by decide) ?_
  refine jv_irem hx hb dX0_plus_26 (by decide) ?_
  refine lv_iadd hx hb dX0_plus_27 ?_
  refine lv_bipush (v := 101) hx hb dX0_plus_28 (by decide) ?_
  refine jv_irem hx hb dX0_plus_30 (by decide) ?_
  obtain ⟨v2, ev2, hf⟩ := nm_elim hf
  try dsimp only at hf
  refine tp_I ev2 ?_
  refine lv_istore (lv' := [(4, .int v2), (3, .int v1), (0, .ref (ad 40)), (1, .int p0), (2, .int p1)]) hx hb dX0_plus_31 hl (by decide) rfl (fun ls hl => ?_)
  refine lv_iload_n hx hb dX0_plus_33 rfl (lv_at hl 3 rfl) ?_
  refine lv_sipush (v := 10201) hx hb dX0_plus_34 (by decide) ?_
  refine lv_idiv hx hb dX0_plus_37 (by decide) ?_
  refine lv_iload_n hx hb dX0_plus_38 rfl (lv_at hl 4 rfl) ?_
  refine lv_sipush (v := 10201) hx hb dX0_plus_39 (by decide) ?_
  refine lv_idiv hx hb dX0_plus_42 (by decide) ?_
  refine lv_iadd hx hb dX0_plus_43 ?_
  refine lv_bipush (v := 101) hx hb dX0_plus_44 (by decide) ?_
  refine jv_irem hx hb dX0_plus_46 (by decide) ?_
  obtain ⟨v3, ev3, hf⟩ := nm_elim hf
  try dsimp only at hf
  refine tp_I ev3 ?_
  refine lv_istore (lv' := [(5, .int v3), (4, .int v2), (3, .int v1), (0, .ref (ad 40)), (1, .int p0), (2, .int p1)]) hx hb dX0_plus_47 hl (by decide) rfl (fun ls hl => ?_)
  refine lv_iload_n hx hb dX0_plus_49 rfl (lv_at hl 2 rfl) ?_
  refine lv_bipush (v := 101) hx hb dX0_plus_50 (by decide) ?_
  refine lv_iload hx hb dX0_plus_52 (lv_at hl 1 rfl) ?_
  refine lv_imul hx hb dX0_plus_54 ?_
  refine lv_iadd hx hb dX0_plus_55 ?_
  refine lv_sipush (v := 10201) hx hb dX0_plus_56 (by decide) ?_
  refine lv_iload hx hb dX0_plus_59 (lv_at hl 0 rfl) ?_
  refine lv_imul hx hb dX0_plus_61 ?_
  refine lv_iadd hx hb dX0_plus_62 ?_
  obtain rfl := Option.some.inj hf
  exact W.iret (v := (v1 + (101 * v2)) + (10201 * v3)) hx hb hr (fun t ht hW => ⟨rfl, by rw [ht]; exact hP, hS.F ht⟩) hS.2.2 dX0_plus_63
def f_X0_minus (p0 : Int32) (p1 : Int32) : Option (Int32) :=
  nm (jrem (((jrem p0 101) - (jrem p1 101)) + 101) 101) (fun v1 =>
  nm (jrem (((jrem (p0 / 101) 101) - (jrem (p1 / 101) 101)) + 101) 101) (fun v2 =>
  nm (jrem (((p0 / 10201) - (p1 / 10201)) + 101) 101) (fun v3 =>
  some ((v1 + (101 * v2)) + (10201 * v3)))))
set_option maxHeartbeats 4000000 in
set_option maxRecDepth 100000 in
theorem C_X0_minus (l : Launch) (D : va_G) (tys : List (ClassId × FieldType)) (nw : List Cond) (hn : nw.all nw_kind = true) (hnw : ∀ w ∈ nw0, w ∈ nw) {ad : Nat → Nat} (hj : ww_inj 46 ad) {cI : ClassId} {cR : ClassId} (htI : tys[0]? = some (cI, .int)) (htR : tys[1]? = some (cR, .object RX2)) {M : Fin 20 → Nat → Int32} {E : Nat → Int32} {P : Nat → Fin 20} {C : Nat → Int32} {N : Nat → Int32} {p0 : Int32} {p1 : Int32} {res : Int32} (hf : f_X0_minus p0 p1 = some res) :
    Met l yX0_minus wsX0_minus ({ frames := 0, cells := 0, slots := 0, locals := 0 }) (va_Pc [.ref (ad 40), .int p0, .int p1] (ws_B D tys nw (ww 46 ad (cellC cI cR ad M E P C N)))) (ct_Q D (ww 46 ad (cellC cI cR ad M E P C N)) (ww_A 46 ad) (some (.int res))) 0 0 (ww_A 46 ad) := by
  refine Met.ofW (cc := cX0_minus) (maxL := 6) (ret := (some .int)) (by decide) rfl ?_
  intro p e s m args below meth c s₁ B hml hv
  obtain ⟨rfl, hP, hK, hN⟩ := hv
  have hx := B.exec
  have hb := B.bytes
  have hr := B.returns
  have hts := atoms_spec (ws := wsX0_minus) B.pre
  have hown : s.vm.findClass RX0 = some m.cls := findClass_of_methodNamed B.named
  have hlocks := B.notSynchronized
  have hS : va_S (ww_A 46 ad) s.heap s.heap [] := va_S.rf
  have hl := lv_entry ([.ref (ad 40), .int p0, .int p1]) (n := 6) (Nat.le_of_ble_eq_true rfl)
  rw [lg_entry_eq]
  generalize (lg_sl ([.ref (ad 40), .int p0, .int p1]) ++ List.replicate (6 - (lg_sl ([.ref (ad 40), .int p0, .int p1])).length) Slot.unset).toArray = ls at hl ⊢
  have hl : lv_has ls 6 [(0, .ref (ad 40)), (1, .int p0), (2, .int p1)] := hl
  unfold f_X0_minus at hf
  refine lv_iload_n hx hb dX0_minus_0 rfl (lv_at hl 1 rfl) ?_
  refine lv_bipush (v := 101) hx hb dX0_minus_1 (by decide) ?_
  refine jv_irem hx hb dX0_minus_3 (by decide) ?_
  refine lv_iload_n hx hb dX0_minus_4 rfl (lv_at hl 2 rfl) ?_
  refine lv_bipush (v := 101) hx hb dX0_minus_5 (by decide) ?_
  refine jv_irem hx hb dX0_minus_7 (by decide) ?_
  refine lv_isub hx hb dX0_minus_8 ?_
  refine lv_bipush (v := 101) hx hb dX0_minus_9 (by decide) ?_
  refine lv_iadd hx hb dX0_minus_11 ?_
  refine lv_bipush (v := 101) hx hb dX0_minus_12 (by decide) ?_
  refine jv_irem hx hb dX0_minus_14 (by decide) ?_
  obtain ⟨v1, ev1, hf⟩ := nm_elim hf
  try dsimp only at hf
  refine tp_I ev1 ?_
  refine lv_istore_n (lv' := [(3, .int v1), (0, .ref (ad 40)), (1, .int p0), (2, .int p1)]) hx hb dX0_minus_15 rfl hl (by decide) rfl (fun ls hl => ?_)
  refine lv_iload_n hx hb dX0_minus_16 rfl (lv_at hl 2 rfl) ?_
  refine lv_bipush (v := 101) hx hb dX0_minus_17 (by decide) ?_
  refine lv_idiv hx hb dX0_minus_19 (by decide) ?_
  refine lv_bipush (v := 101) hx hb dX0_minus_20 (by decide) ?_
  refine jv_irem hx hb dX0_minus_22 (by decide) ?_
  refine lv_iload_n hx hb dX0_minus_23 rfl (lv_at hl 3 rfl) ?_
  refine lv_bipush (v := 101) hx hb dX0_minus_24 (by decide) ?_
  refine lv_idiv hx hb dX0_minus_26 (by decide) ?_
  refine lv_bipush (v := 101) hx hb dX0_minus_27 (by decide) ?_
  refine jv_irem hx hb dX0_minus_29 (by decide) ?_
  refine lv_isub hx hb dX0_minus_30 ?_
  refine lv_bipush (v := 101) hx hb dX0_minus_31 (by decide) ?_
  refine lv_iadd hx hb dX0_minus_33 ?_
  refine lv_bipush (v := 101) hx hb dX0_minus_34 (by decide) ?_
  refine jv_irem hx hb dX0_minus_36 (by decide) ?_
  obtain ⟨v2, ev2, hf⟩ := nm_elim hf
  try dsimp only at hf
  refine tp_I ev2 ?_
  refine lv_istore (lv' := [(4, .int v2), (3, .int v1), (0, .ref (ad 40)), (1, .int p0), (2, .int p1)]) hx hb dX0_minus_37 hl (by decide) rfl (fun ls hl => ?_)
  refine lv_iload_n hx hb dX0_minus_39 rfl (lv_at hl 3 rfl) ?_
  refine lv_sipush (v := 10201) hx hb dX0_minus_40 (by decide) ?_
  refine lv_idiv hx hb dX0_minus_43 (by decide) ?_
  refine lv_iload_n hx hb dX0_minus_44 rfl (lv_at hl 4 rfl) ?_
  refine lv_sipush (v := 10201) hx hb dX0_minus_45 (by decide) ?_
  refine lv_idiv hx hb dX0_minus_48 (by decide) ?_
  refine lv_isub hx hb dX0_minus_49 ?_
  refine lv_bipush (v := 101) hx hb dX0_minus_50 (by decide) ?_
  refine lv_iadd hx hb dX0_minus_52 ?_
  refine lv_bipush (v := 101) hx hb dX0_minus_53 (by decide) ?_
  refine jv_irem hx hb dX0_minus_55 (by decide) ?_
  obtain ⟨v3, ev3, hf⟩ := nm_elim hf
  try dsimp only at hf
  refine tp_I ev3 ?_
  refine lv_istore (lv' := [(5, .int v3), (4, .int v2), (3, .int v1), (0, .ref (ad 40)), (1, .int p0), (2, .int p1)]) hx hb dX0_minus_56 hl (by decide) rfl (fun ls hl => ?_)
  refine lv_iload_n hx hb dX0_minus_58 rfl (lv_at hl 2 rfl) ?_
  refine lv_bipush (v := 101) hx hb dX0_minus_59 (by decide) ?_
  refine lv_iload hx hb dX0_minus_61 (lv_at hl 1 rfl) ?_
  refine lv_imul hx hb dX0_minus_63 ?_
  refine lv_iadd hx hb dX0_minus_64 ?_
  refine lv_sipush (v := 10201) hx hb dX0_minus_65 (by decide) ?_
  refine lv_iload hx hb dX0_minus_68 (lv_at hl 0 rfl) ?_
  refine lv_imul hx hb dX0_minus_70 ?_
  refine lv_iadd hx hb dX0_minus_71 ?_
  obtain rfl := Option.some.inj hf
  exact W.iret (v := (v1 + (101 * v2)) + (10201 * v3)) hx hb hr (fun t ht hW => ⟨rfl, by rw [ht]; exact hP, hS.F ht⟩) hS.2.2 dX0_minus_72
def f_X0_times (E : Nat → Int32) (p0 : Int32) (p1 : Int32) : Option (Int32) :=
  if 101 ≤ p0 then
    nm (jrem p0 101) (fun v2 =>
    nm (jrem (p0 / 101) 101) (fun v3 =>
    nm (p0 / 10201) (fun v4 =>
    nm (jrem p1 101) (fun v5 =>
    nm (jrem (p1 / 101) 101) (fun v6 =>
    nm (p1 / 10201) (fun v7 =>
    nm (v2 * v5) (fun v8 =>
    nm ((v2 * v6) + (v3 * v5)) (fun v9 =>
    nm (((v2 * v7) + (v3 * v6)) + (v4 * v5)) (fun v10 =>
    if (E 0) = 2 then
      nm (jrem (101 - (jrem v10 101)) 101) (fun v18 =>
      nm (v9 + (v18 * (E 3))) (fun v19 =>
      nm (v8 + (v18 * (E 2))) (fun v20 =>
      some ((jrem v20 101) + (101 * (jrem v19 101))))))
    else
      nm (jrem (101 - (jrem (v4 * v7) 101)) 101) (fun v12 =>
      nm (((v3 * v7) + (v4 * v6)) + (v12 * (E 4))) (fun v13 =>
      nm (jrem (101 - (jrem v13 101)) 101) (fun v14 =>
      nm (v10 + ((v12 * (E 3)) + (v14 * (E 4)))) (fun v15 =>
      nm (v9 + ((v12 * (E 2)) + (v14 * (E 3)))) (fun v16 =>
      nm (v8 + (v14 * (E 2))) (fun v17 =>
      some (((jrem v17 101) + (101 * (jrem v16 101))) + (10201 * (jrem v15 101))))))))))))))))))
  else
    if 101 ≤ p1 then
      nm (jrem p0 101) (fun v22 =>
      nm (jrem (p0 / 101) 101) (fun v23 =>
      nm (p0 / 10201) (fun v24 =>
      nm (jrem p1 101) (fun v25 =>
      nm (jrem (p1 / 101) 101) (fun v26 =>
      nm (p1 / 10201) (fun v27 =>
      nm (v22 * v25) (fun v28 =>
      nm ((v22 * v26) + (v23 * v25)) (fun v29 =>
      nm (((v22 * v27) + (v23 * v26)) + (v24 * v25)) (fun v30 =>
      if (E 0) = 2 then
        nm (jrem (101 - (jrem v30 101)) 101) (fun v38 =>
        nm (v29 + (v38 * (E 3))) (fun v39 =>
        nm (v28 + (v38 * (E 2))) (fun v40 =>
        some ((jrem v40 101) + (101 * (jrem v39 101))))))
      else
        nm (jrem (101 - (jrem (v24 * v27) 101)) 101) (fun v32 =>
        nm (((v23 * v27) + (v24 * v26)) + (v32 * (E 4))) (fun v33 =>
        nm (jrem (101 - (jrem v33 101)) 101) (fun v34 =>
        nm (v30 + ((v32 * (E 3)) + (v34 * (E 4)))) (fun v35 =>
        nm (v29 + ((v32 * (E 2)) + (v34 * (E 3)))) (fun v36 =>
        nm (v28 + (v34 * (E 2))) (fun v37 =>
        some (((jrem v37 101) + (101 * (jrem v36 101))) + (10201 * (jrem v35 101))))))))))))))))))
    else
      some (jrem (p0 * p1) 101)
set_option maxHeartbeats 4000000 in
set_option maxRecDepth 100000 in
theorem C_X0_times (l : Launch) (D : va_G) (tys : List (ClassId × FieldType)) (nw : List Cond) (hn : nw.all nw_kind = true) (hnw : ∀ w ∈ nw0, w ∈ nw) {ad : Nat → Nat} (hj : ww_inj 46 ad) {cI : ClassId} {cR : ClassId} (htI : tys[0]? = some (cI, .int)) (htR : tys[1]? = some (cR, .object RX2)) {M : Fin 20 → Nat → Int32} {E : Nat → Int32} {P : Nat → Fin 20} {C : Nat → Int32} {N : Nat → Int32} {p0 : Int32} {p1 : Int32} {res : Int32} (hf : f_X0_times E p0 p1 = some res) :
    Met l yX0_times wsX0_times ({ frames := 0, cells := 0, slots := 0, locals := 0 }) (va_Pc [.ref (ad 40), .int p0, .int p1] (ws_B D tys nw (ww 46 ad (cellC cI cR ad M E P C N)))) (ct_Q D (ww 46 ad (cellC cI cR ad M E P C N)) (ww_A 46 ad) (some (.int res))) 0 0 (ww_A 46 ad) := by
  refine Met.ofW (cc := cX0_times) (maxL := 15) (ret := (some .int)) (by decide) rfl ?_
  intro p e s m args below meth c s₁ B hml hv
  obtain ⟨rfl, hP, hK, hN⟩ := hv
  have hx := B.exec
  have hb := B.bytes
  have hr := B.returns
  have hts := atoms_spec (ws := wsX0_times) B.pre
  have hown : s.vm.findClass RX0 = some m.cls := findClass_of_methodNamed B.named
  have hlocks := B.notSynchronized
  have hS : va_S (ww_A 46 ad) s.heap s.heap [] := va_S.rf
  have hl := lv_entry ([.ref (ad 40), .int p0, .int p1]) (n := 15) (Nat.le_of_ble_eq_true rfl)
  rw [lg_entry_eq]
  generalize (lg_sl ([.ref (ad 40), .int p0, .int p1]) ++ List.replicate (15 - (lg_sl ([.ref (ad 40), .int p0, .int p1])).length) Slot.unset).toArray = ls at hl ⊢
  have hl : lv_has ls 15 [(0, .ref (ad 40)), (1, .int p0), (2, .int p1)] := hl
  unfold f_X0_times at hf
  refine lv_iload_n hx hb dX0_times_0 rfl (lv_at hl 1 rfl) ?_
  refine lv_bipush (v := 101) hx hb dX0_times_1 (by decide) ?_
  refine lv_icmp_ge (tgt := 19) hx hb dX0_times_3 (by decide) (fun c1 => ?_) (fun c1 => ?_)
  · rw [if_pos c1] at hf
    refine lv_iload_n hx hb dX0_times_19 rfl (lv_at hl 1 rfl) ?_
    refine lv_bipush (v := 101) hx hb dX0_times_20 (by decide) ?_
    refine jv_irem hx hb dX0_times_22 (by decide) ?_
    obtain ⟨v2, ev2, hf⟩ := nm_elim hf
    try dsimp only at hf
    refine tp_I ev2 ?_
    refine lv_istore_n (lv' := [(3, .int v2), (0, .ref (ad 40)), (1, .int p0), (2, .int p1)]) hx hb dX0_times_23 rfl hl (by decide) rfl (fun ls hl => ?_)
    refine lv_iload_n hx hb dX0_times_24 rfl (lv_at hl 2 rfl) ?_
    refine lv_bipush (v := 101) hx hb dX0_times_25 (by decide) ?_
    refine lv_idiv hx hb dX0_times_27 (by decide) ?_
    refine lv_bipush (v := 101) hx hb dX0_times_28 (by decide) ?_
    refine jv_irem hx hb dX0_times_30 (by decide) ?_
    obtain ⟨v3, ev3, hf⟩ := nm_elim hf
    try dsimp only at hf
    refine tp_I ev3 ?_
    refine lv_istore (lv' := [(4, .int v3), (3, .int v2), (0, .ref (ad 40)), (1, .int p0), (2, .int p1)]) hx hb dX0_times_31 hl (by decide) rfl (fun ls hl => ?_)
    refine lv_iload_n hx hb dX0_times_33 rfl (lv_at hl 3 rfl) ?_
    refine lv_sipush (v := 10201) hx hb dX0_times_34 (by decide) ?_
    refine lv_idiv hx hb dX0_times_37 (by decide) ?_
    obtain ⟨v4, ev4, hf⟩ := nm_elim hf
    try dsimp only at hf
    refine tp_I ev4 ?_
    refine lv_istore (lv' := [(5, .int v4), (4, .int v3), (3, .int v2), (0, .ref (ad 40)), (1, .int p0), (2, .int p1)]) hx hb dX0_times_38 hl (by decide) rfl (fun ls hl => ?_)
    refine lv_iload_n hx hb dX0_times_40 rfl (lv_at hl 5 rfl) ?_
    refine lv_bipush (v := 101) hx hb dX0_times_41 (by decide) ?_
    refine jv_irem hx hb dX0_times_43 (by decide) ?_
    obtain ⟨v5, ev5, hf⟩ := nm_elim hf
    try dsimp only at hf
    refine tp_I ev5 ?_
    refine lv_istore (lv' := [(6, .int v5), (5, .int v4), (4, .int v3), (3, .int v2), (0, .ref (ad 40)), (1, .int p0), (2, .int p1)]) hx hb dX0_times_44 hl (by decide) rfl (fun ls hl => ?_)
    refine lv_iload_n hx hb dX0_times_46 rfl (lv_at hl 6 rfl) ?_
    refine lv_bipush (v := 101) hx hb dX0_times_47 (by decide) ?_
    refine lv_idiv hx hb dX0_times_49 (by decide) ?_
    refine lv_bipush (v := 101) hx hb dX0_times_50 (by decide) ?_
    refine jv_irem hx hb dX0_times_52 (by decide) ?_
    obtain ⟨v6, ev6, hf⟩ := nm_elim hf
    try dsimp only at hf
    refine tp_I ev6 ?_
    refine lv_istore (lv' := [(7, .int v6), (6, .int v5), (5, .int v4), (4, .int v3), (3, .int v2), (0, .ref (ad 40)), (1, .int p0), (2, .int p1)]) hx hb dX0_times_53 hl (by decide) rfl (fun ls hl => ?_)
    refine lv_iload_n hx hb dX0_times_55 rfl (lv_at hl 7 rfl) ?_
    refine lv_sipush (v := 10201) hx hb dX0_times_56 (by decide) ?_
    refine lv_idiv hx hb dX0_times_59 (by decide) ?_
    obtain ⟨v7, ev7, hf⟩ := nm_elim hf
    try dsimp only at hf
    refine tp_I ev7 ?_
    refine lv_istore (lv' := [(8, .int v7), (7, .int v6), (6, .int v5), (5, .int v4), (4, .int v3), (3, .int v2), (0, .ref (ad 40)), (1, .int p0), (2, .int p1)]) hx hb dX0_times_60 hl (by decide) rfl (fun ls hl => ?_)
    refine lv_iload_n hx hb dX0_times_62 rfl (lv_at hl 5 rfl) ?_
    refine lv_iload hx hb dX0_times_63 (lv_at hl 2 rfl) ?_
    refine lv_imul hx hb dX0_times_65 ?_
    obtain ⟨v8, ev8, hf⟩ := nm_elim hf
    try dsimp only at hf
    refine tp_I ev8 ?_
    refine lv_istore (lv' := [(9, .int v8), (8, .int v7), (7, .int v6), (6, .int v5), (5, .int v4), (4, .int v3), (3, .int v2), (0, .ref (ad 40)), (1, .int p0), (2, .int p1)]) hx hb dX0_times_66 hl (by decide) rfl (fun ls hl => ?_)
    refine lv_iload_n hx hb dX0_times_68 rfl (lv_at hl 6 rfl) ?_
    refine lv_iload hx hb dX0_times_69 (lv_at hl 2 rfl) ?_
    refine lv_imul hx hb dX0_times_71 ?_
    refine lv_iload hx hb dX0_times_72 (lv_at hl 5 rfl) ?_
    refine lv_iload hx hb dX0_times_74 (lv_at hl 3 rfl) ?_
    refine lv_imul hx hb dX0_times_76 ?_
    refine lv_iadd hx hb dX0_times_77 ?_
    obtain ⟨v9, ev9, hf⟩ := nm_elim hf
    try dsimp only at hf
    refine tp_I ev9 ?_
    refine lv_istore (lv' := [(10, .int v9), (9, .int v8), (8, .int v7), (7, .int v6), (6, .int v5), (5, .int v4), (4, .int v3), (3, .int v2), (0, .ref (ad 40)), (1, .int p0), (2, .int p1)]) hx hb dX0_times_78 hl (by decide) rfl (fun ls hl => ?_)
    refine lv_iload_n hx hb dX0_times_80 rfl (lv_at hl 7 rfl) ?_
    refine lv_iload hx hb dX0_times_81 (lv_at hl 2 rfl) ?_
    refine lv_imul hx hb dX0_times_83 ?_
    refine lv_iload hx hb dX0_times_84 (lv_at hl 6 rfl) ?_
    refine lv_iload hx hb dX0_times_86 (lv_at hl 3 rfl) ?_
    refine lv_imul hx hb dX0_times_88 ?_
    refine lv_iadd hx hb dX0_times_89 ?_
    refine lv_iload hx hb dX0_times_90 (lv_at hl 5 rfl) ?_
    refine lv_iload hx hb dX0_times_92 (lv_at hl 4 rfl) ?_
    refine lv_imul hx hb dX0_times_94 ?_
    refine lv_iadd hx hb dX0_times_95 ?_
    obtain ⟨v10, ev10, hf⟩ := nm_elim hf
    try dsimp only at hf
    refine tp_I ev10 ?_
    refine lv_istore (lv' := [(11, .int v10), (10, .int v9), (9, .int v8), (8, .int v7), (7, .int v6), (6, .int v5), (5, .int v4), (4, .int v3), (3, .int v2), (0, .ref (ad 40)), (1, .int p0), (2, .int p1)]) hx hb dX0_times_96 hl (by decide) rfl (fun ls hl => ?_)
    refine lv_aload_n hx hb dX0_times_98 rfl (lv_at hl 9 rfl) ?_
    refine va_get (ci := 0) (v := .int (E 0)) (C := RX0) (T := TX0) (N := 8) hx hb hts (by decide +kernel) hown hK hP 40 cc_ext rfl 0 (by decide) (hts (.fieldLink RX0 9 "NumberFieldFactors$Extension" "degree" "I") (by decide +kernel)) (fun _ h9 => h9) rfl dX0_times_99 ?_
    refine lv_iconst (v := 2) hx hb dX0_times_102 (by decide) ?_
    refine lv_icmp_ne (tgt := 158) hx hb dX0_times_103 (by decide) (fun c11 => ?_) (fun c11 => ?_)
    · rw [if_neg c11] at hf
      refine lv_bipush (v := 101) hx hb dX0_times_158 (by decide) ?_
      refine lv_iload hx hb dX0_times_160 (lv_at hl 6 rfl) ?_
      refine lv_iload hx hb dX0_times_162 (lv_at hl 3 rfl) ?_
      refine lv_imul hx hb dX0_times_164 ?_
      refine lv_bipush (v := 101) hx hb dX0_times_165 (by decide) ?_
      refine jv_irem hx hb dX0_times_167 (by decide) ?_
      refine lv_isub hx hb dX0_times_168 ?_
      refine lv_bipush (v := 101) hx hb dX0_times_169 (by decide) ?_
      refine jv_irem hx hb dX0_times_171 (by decide) ?_
      obtain ⟨v12, ev12, hf⟩ := nm_elim hf
      try dsimp only at hf
      refine tp_I ev12 ?_
      refine lv_istore (lv' := [(12, .int v12), (11, .int v10), (10, .int v9), (9, .int v8), (8, .int v7), (7, .int v6), (6, .int v5), (5, .int v4), (4, .int v3), (3, .int v2), (0, .ref (ad 40)), (1, .int p0), (2, .int p1)]) hx hb dX0_times_172 hl (by decide) rfl (fun ls hl => ?_)
      refine lv_iload hx hb dX0_times_174 (lv_at hl 8 rfl) ?_
      refine lv_iload hx hb dX0_times_176 (lv_at hl 4 rfl) ?_
      refine lv_imul hx hb dX0_times_178 ?_
      refine lv_iload hx hb dX0_times_179 (lv_at hl 7 rfl) ?_
      refine lv_iload hx hb dX0_times_181 (lv_at hl 5 rfl) ?_
      refine lv_imul hx hb dX0_times_183 ?_
      refine lv_iadd hx hb dX0_times_184 ?_
      refine lv_iload hx hb dX0_times_185 (lv_at hl 0 rfl) ?_
      refine lv_aload_n hx hb dX0_times_187 rfl (lv_at hl 10 rfl) ?_
      refine va_get (ci := 0) (v := .int (E 4)) (C := RX0) (T := TX0) (N := 8) hx hb hts (by decide +kernel) hown hK hP 40 cc_ext rfl 4 (by decide) (hts (.fieldLink RX0 24 "NumberFieldFactors$Extension" "low2" "I") (by decide +kernel)) (fun _ h9 => h9) rfl dX0_times_188 ?_
      refine lv_imul hx hb dX0_times_191 ?_
      refine lv_iadd hx hb dX0_times_192 ?_
      obtain ⟨v13, ev13, hf⟩ := nm_elim hf
      try dsimp only at hf
      refine tp_I ev13 ?_
      refine lv_istore (lv' := [(13, .int v13), (12, .int v12), (11, .int v10), (10, .int v9), (9, .int v8), (8, .int v7), (7, .int v6), (6, .int v5), (5, .int v4), (4, .int v3), (3, .int v2), (0, .ref (ad 40)), (1, .int p0), (2, .int p1)]) hx hb dX0_times_193 hl (by decide) rfl (fun ls hl => ?_)
      refine lv_bipush (v := 101) hx hb dX0_times_195 (by decide) ?_
      refine lv_iload hx hb dX0_times_197 (lv_at hl 0 rfl) ?_
      refine lv_bipush (v := 101) hx hb dX0_times_199 (by decide) ?_
      refine jv_irem hx hb dX0_times_201 (by decide) ?_
      refine lv_isub hx hb dX0_times_202 ?_
      refine lv_bipush (v := 101) hx hb dX0_times_203 (by decide) ?_
      refine jv_irem hx hb dX0_times_205 (by decide) ?_
      obtain ⟨v14, ev14, hf⟩ := nm_elim hf
      try dsimp only at hf
      refine tp_I ev14 ?_
      refine lv_istore (lv' := [(14, .int v14), (13, .int v13), (12, .int v12), (11, .int v10), (10, .int v9), (9, .int v8), (8, .int v7), (7, .int v6), (6, .int v5), (5, .int v4), (4, .int v3), (3, .int v2), (0, .ref (ad 40)), (1, .int p0), (2, .int p1)]) hx hb dX0_times_206 hl (by decide) rfl (fun ls hl => ?_)
      refine lv_iload hx hb dX0_times_208 (lv_at hl 3 rfl) ?_
      refine lv_iload hx hb dX0_times_210 (lv_at hl 2 rfl) ?_
      refine lv_aload_n hx hb dX0_times_212 rfl (lv_at hl 12 rfl) ?_
      refine va_get (ci := 0) (v := .int (E 3)) (C := RX0) (T := TX0) (N := 8) hx hb hts (by decide +kernel) hown hK hP 40 cc_ext rfl 3 (by decide) (hts (.fieldLink RX0 21 "NumberFieldFactors$Extension" "low1" "I") (by decide +kernel)) (fun _ h9 => h9) rfl dX0_times_213 ?_
      refine lv_imul hx hb dX0_times_216 ?_
      refine lv_iload hx hb dX0_times_217 (lv_at hl 0 rfl) ?_
      refine lv_aload_n hx hb dX0_times_219 rfl (lv_at hl 12 rfl) ?_
      refine va_get (ci := 0) (v := .int (E 4)) (C := RX0) (T := TX0) (N := 8) hx hb hts (by decide +kernel) hown hK hP 40 cc_ext rfl 4 (by decide) (hts (.fieldLink RX0 24 "NumberFieldFactors$Extension" "low2" "I") (by decide +kernel)) (fun _ h9 => h9) rfl dX0_times_220 ?_
      refine lv_imul hx hb dX0_times_223 ?_
      refine lv_iadd hx hb dX0_times_224 ?_
      refine lv_iadd hx hb dX0_times_225 ?_
      obtain ⟨v15, ev15, hf⟩ := nm_elim hf
      try dsimp only at hf
      refine tp_I ev15 ?_
      refine lv_istore (lv' := [(11, .int v15), (14, .int v14), (13, .int v13), (12, .int v12), (10, .int v9), (9, .int v8), (8, .int v7), (7, .int v6), (6, .int v5), (5, .int v4), (4, .int v3), (3, .int v2), (0, .ref (ad 40)), (1, .int p0), (2, .int p1)]) hx hb dX0_times_226 hl (by decide) rfl (fun ls hl => ?_)
      refine lv_iload hx hb dX0_times_228 (lv_at hl 4 rfl) ?_
      refine lv_iload hx hb dX0_times_230 (lv_at hl 3 rfl) ?_
      refine lv_aload_n hx hb dX0_times_232 rfl (lv_at hl 12 rfl) ?_
      refine va_get (ci := 0) (v := .int (E 2)) (C := RX0) (T := TX0) (N := 8) hx hb hts (by decide +kernel) hown hK hP 40 cc_ext rfl 2 (by decide) (hts (.fieldLink RX0 18 "NumberFieldFactors$Extension" "low0" "I") (by decide +kernel)) (fun _ h9 => h9) rfl dX0_times_233 ?_
      refine lv_imul hx hb dX0_times_236 ?_
      refine lv_iload hx hb dX0_times_237 (lv_at hl 1 rfl) ?_
      refine lv_aload_n hx hb dX0_times_239 rfl (lv_at hl 12 rfl) ?_
      refine va_get (ci := 0) (v := .int (E 3)) (C := RX0) (T := TX0) (N := 8) hx hb hts (by decide +kernel) hown hK hP 40 cc_ext rfl 3 (by decide) (hts (.fieldLink RX0 21 "NumberFieldFactors$Extension" "low1" "I") (by decide +kernel)) (fun _ h9 => h9) rfl dX0_times_240 ?_
      refine lv_imul hx hb dX0_times_243 ?_
      refine lv_iadd hx hb dX0_times_244 ?_
      refine lv_iadd hx hb dX0_times_245 ?_
      obtain ⟨v16, ev16, hf⟩ := nm_elim hf
      try dsimp only at hf
      refine tp_I ev16 ?_
      refine lv_istore (lv' := [(10, .int v16), (11, .int v15), (14, .int v14), (13, .int v13), (12, .int v12), (9, .int v8), (8, .int v7), (7, .int v6), (6, .int v5), (5, .int v4), (4, .int v3), (3, .int v2), (0, .ref (ad 40)), (1, .int p0), (2, .int p1)]) hx hb dX0_times_246 hl (by decide) rfl (fun ls hl => ?_)
      refine lv_iload hx hb dX0_times_248 (lv_at hl 5 rfl) ?_
      refine lv_iload hx hb dX0_times_250 (lv_at hl 2 rfl) ?_
      refine lv_aload_n hx hb dX0_times_252 rfl (lv_at hl 12 rfl) ?_
      refine va_get (ci := 0) (v := .int (E 2)) (C := RX0) (T := TX0) (N := 8) hx hb hts (by decide +kernel) hown hK hP 40 cc_ext rfl 2 (by decide) (hts (.fieldLink RX0 18 "NumberFieldFactors$Extension" "low0" "I") (by decide +kernel)) (fun _ h9 => h9) rfl dX0_times_253 ?_
      refine lv_imul hx hb dX0_times_256 ?_
      refine lv_iadd hx hb dX0_times_257 ?_
      obtain ⟨v17, ev17, hf⟩ := nm_elim hf
      try dsimp only at hf
      refine tp_I ev17 ?_
      refine lv_istore (lv' := [(9, .int v17), (10, .int v16), (11, .int v15), (14, .int v14), (13, .int v13), (12, .int v12), (8, .int v7), (7, .int v6), (6, .int v5), (5, .int v4), (4, .int v3), (3, .int v2), (0, .ref (ad 40)), (1, .int p0), (2, .int p1)]) hx hb dX0_times_258 hl (by decide) rfl (fun ls hl => ?_)
      refine lv_iload hx hb dX0_times_260 (lv_at hl 0 rfl) ?_
      refine lv_bipush (v := 101) hx hb dX0_times_262 (by decide) ?_
      refine jv_irem hx hb dX0_times_264 (by decide) ?_
      refine lv_bipush (v := 101) hx hb dX0_times_265 (by decide) ?_
      refine lv_iload hx hb dX0_times_267 (lv_at hl 1 rfl) ?_
      refine lv_bipush (v := 101) hx hb dX0_times_269 (by decide) ?_
      refine jv_irem hx hb dX0_times_271 (by decide) ?_
      refine lv_imul hx hb dX0_times_272 ?_
      refine lv_iadd hx hb dX0_times_273 ?_
      refine lv_sipush (v := 10201) hx hb dX0_times_274 (by decide) ?_
      refine lv_iload hx hb dX0_times_277 (lv_at hl 2 rfl) ?_
      refine lv_bipush (v := 101) hx hb dX0_times_279 (by decide) ?_
      refine jv_irem hx hb dX0_times_281 (by decide) ?_
      refine lv_imul hx hb dX0_times_282 ?_
      refine lv_iadd hx hb dX0_times_283 ?_
      obtain rfl := Option.some.inj hf
      exact W.iret (v := ((jrem v17 101) + (101 * (jrem v16 101))) + (10201 * (jrem v15 101))) hx hb hr (fun t ht hW => ⟨rfl, by rw [ht]; exact hP, hS.F ht⟩) hS.2.2 dX0_times_284
    · rw [if_pos c11] at hf
      refine lv_bipush (v := 101) hx hb dX0_times_106 (by decide) ?_
      refine lv_iload hx hb dX0_times_108 (lv_at hl 0 rfl) ?_
      refine lv_bipush (v := 101) hx hb dX0_times_110 (by decide) ?_
      refine jv_irem hx hb dX0_times_112 (by decide) ?_
      refine lv_isub hx hb dX0_times_113 ?_
      refine lv_bipush (v := 101) hx hb dX0_times_114 (by decide) ?_
      refine jv_irem hx hb dX0_times_116 (by decide) ?_
      obtain ⟨v18, ev18, hf⟩ := nm_elim hf
      try dsimp only at hf
      refine tp_I ev18 ?_
      refine lv_istore (lv' := [(12, .int v18), (11, .int v10), (10, .int v9), (9, .int v8), (8, .int v7), (7, .int v6), (6, .int v5), (5, .int v4), (4, .int v3), (3, .int v2), (0, .ref (ad 40)), (1, .int p0), (2, .int p1)]) hx hb dX0_times_117 hl (by decide) rfl (fun ls hl => ?_)
      refine lv_iload hx hb dX0_times_119 (lv_at hl 2 rfl) ?_
      refine lv_iload hx hb dX0_times_121 (lv_at hl 0 rfl) ?_
      refine lv_aload_n hx hb dX0_times_123 rfl (lv_at hl 10 rfl) ?_
      refine va_get (ci := 0) (v := .int (E 3)) (C := RX0) (T := TX0) (N := 8) hx hb hts (by decide +kernel) hown hK hP 40 cc_ext rfl 3 (by decide) (hts (.fieldLink RX0 21 "NumberFieldFactors$Extension" "low1" "I") (by decide +kernel)) (fun _ h9 => h9) rfl dX0_times_124 ?_
      refine lv_imul hx hb dX0_times_127 ?_
      refine lv_iadd hx hb dX0_times_128 ?_
      obtain ⟨v19, ev19, hf⟩ := nm_elim hf
      try dsimp only at hf
      refine tp_I ev19 ?_
      refine lv_istore (lv' := [(10, .int v19), (12, .int v18), (11, .int v10), (9, .int v8), (8, .int v7), (7, .int v6), (6, .int v5), (5, .int v4), (4, .int v3), (3, .int v2), (0, .ref (ad 40)), (1, .int p0), (2, .int p1)]) hx hb dX0_times_129 hl (by decide) rfl (fun ls hl => ?_)
      refine lv_iload hx hb dX0_times_131 (lv_at hl 3 rfl) ?_
      refine lv_iload hx hb dX0_times_133 (lv_at hl 1 rfl) ?_
      refine lv_aload_n hx hb dX0_times_135 rfl (lv_at hl 10 rfl) ?_
      refine va_get (ci := 0) (v := .int (E 2)) (C := RX0) (T := TX0) (N := 8) hx hb hts (by decide +kernel) hown hK hP 40 cc_ext rfl 2 (by decide) (hts (.fieldLink RX0 18 "NumberFieldFactors$Extension" "low0" "I") (by decide +kernel)) (fun _ h9 => h9) rfl dX0_times_136 ?_
      refine lv_imul hx hb dX0_times_139 ?_
      refine lv_iadd hx hb dX0_times_140 ?_
      obtain ⟨v20, ev20, hf⟩ := nm_elim hf
      try dsimp only at hf
      refine tp_I ev20 ?_
      refine lv_istore (lv' := [(9, .int v20), (10, .int v19), (12, .int v18), (11, .int v10), (8, .int v7), (7, .int v6), (6, .int v5), (5, .int v4), (4, .int v3), (3, .int v2), (0, .ref (ad 40)), (1, .int p0), (2, .int p1)]) hx hb dX0_times_141 hl (by decide) rfl (fun ls hl => ?_)
      refine lv_iload hx hb dX0_times_143 (lv_at hl 0 rfl) ?_
      refine lv_bipush (v := 101) hx hb dX0_times_145 (by decide) ?_
      refine jv_irem hx hb dX0_times_147 (by decide) ?_
      refine lv_bipush (v := 101) hx hb dX0_times_148 (by decide) ?_
      refine lv_iload hx hb dX0_times_150 (lv_at hl 1 rfl) ?_
      refine lv_bipush (v := 101) hx hb dX0_times_152 (by decide) ?_
      refine jv_irem hx hb dX0_times_154 (by decide) ?_
      refine lv_imul hx hb dX0_times_155 ?_
      refine lv_iadd hx hb dX0_times_156 ?_
      obtain rfl := Option.some.inj hf
      exact W.iret (v := (jrem v20 101) + (101 * (jrem v19 101))) hx hb hr (fun t ht hW => ⟨rfl, by rw [ht]; exact hP, hS.F ht⟩) hS.2.2 dX0_times_157
  · rw [if_neg c1] at hf
    refine lv_iload_n hx hb dX0_times_6 rfl (lv_at hl 2 rfl) ?_
    refine lv_bipush (v := 101) hx hb dX0_times_7 (by decide) ?_
    refine lv_icmp_ge (tgt := 19) hx hb dX0_times_9 (by decide) (fun c21 => ?_) (fun c21 => ?_)
    · rw [if_pos c21] at hf
      refine lv_iload_n hx hb dX0_times_19 rfl (lv_at hl 1 rfl) ?_
      refine lv_bipush (v := 101) hx hb dX0_times_20 (by decide) ?_
      refine jv_irem hx hb dX0_times_22 (by decide) ?_
      obtain ⟨v22, ev22, hf⟩ := nm_elim hf
      try dsimp only at hf
      refine tp_I ev22 ?_
      refine lv_istore_n (lv' := [(3, .int v22), (0, .ref (ad 40)), (1, .int p0), (2, .int p1)]) hx hb dX0_times_23 rfl hl (by decide) rfl (fun ls hl => ?_)
      refine lv_iload_n hx hb dX0_times_24 rfl (lv_at hl 2 rfl) ?_
      refine lv_bipush (v := 101) hx hb dX0_times_25 (by decide) ?_
      refine lv_idiv hx hb dX0_times_27 (by decide) ?_
      refine lv_bipush (v := 101) hx hb dX0_times_28 (by decide) ?_
      refine jv_irem hx hb dX0_times_30 (by decide) ?_
      obtain ⟨v23, ev23, hf⟩ := nm_elim hf
      try dsimp only at hf
      refine tp_I ev23 ?_
      refine lv_istore (lv' := [(4, .int v23), (3, .int v22), (0, .ref (ad 40)), (1, .int p0), (2, .int p1)]) hx hb dX0_times_31 hl (by decide) rfl (fun ls hl => ?_)
      refine lv_iload_n hx hb dX0_times_33 rfl (lv_at hl 3 rfl) ?_
      refine lv_sipush (v := 10201) hx hb dX0_times_34 (by decide) ?_
      refine lv_idiv hx hb dX0_times_37 (by decide) ?_
      obtain ⟨v24, ev24, hf⟩ := nm_elim hf
      try dsimp only at hf
      refine tp_I ev24 ?_
      refine lv_istore (lv' := [(5, .int v24), (4, .int v23), (3, .int v22), (0, .ref (ad 40)), (1, .int p0), (2, .int p1)]) hx hb dX0_times_38 hl (by decide) rfl (fun ls hl => ?_)
      refine lv_iload_n hx hb dX0_times_40 rfl (lv_at hl 5 rfl) ?_
      refine lv_bipush (v := 101) hx hb dX0_times_41 (by decide) ?_
      refine jv_irem hx hb dX0_times_43 (by decide) ?_
      obtain ⟨v25, ev25, hf⟩ := nm_elim hf
      try dsimp only at hf
      refine tp_I ev25 ?_
      refine lv_istore (lv' := [(6, .int v25), (5, .int v24), (4, .int v23), (3, .int v22), (0, .ref (ad 40)), (1, .int p0), (2, .int p1)]) hx hb dX0_times_44 hl (by decide) rfl (fun ls hl => ?_)
      refine lv_iload_n hx hb dX0_times_46 rfl (lv_at hl 6 rfl) ?_
      refine lv_bipush (v := 101) hx hb dX0_times_47 (by decide) ?_
      refine lv_idiv hx hb dX0_times_49 (by decide) ?_
      refine lv_bipush (v := 101) hx hb dX0_times_50 (by decide) ?_
      refine jv_irem hx hb dX0_times_52 (by decide) ?_
      obtain ⟨v26, ev26, hf⟩ := nm_elim hf
      try dsimp only at hf
      refine tp_I ev26 ?_
      refine lv_istore (lv' := [(7, .int v26), (6, .int v25), (5, .int v24), (4, .int v23), (3, .int v22), (0, .ref (ad 40)), (1, .int p0), (2, .int p1)]) hx hb dX0_times_53 hl (by decide) rfl (fun ls hl => ?_)
      refine lv_iload_n hx hb dX0_times_55 rfl (lv_at hl 7 rfl) ?_
      refine lv_sipush (v := 10201) hx hb dX0_times_56 (by decide) ?_
      refine lv_idiv hx hb dX0_times_59 (by decide) ?_
      obtain ⟨v27, ev27, hf⟩ := nm_elim hf
      try dsimp only at hf
      refine tp_I ev27 ?_
      refine lv_istore (lv' := [(8, .int v27), (7, .int v26), (6, .int v25), (5, .int v24), (4, .int v23), (3, .int v22), (0, .ref (ad 40)), (1, .int p0), (2, .int p1)]) hx hb dX0_times_60 hl (by decide) rfl (fun ls hl => ?_)
      refine lv_iload_n hx hb dX0_times_62 rfl (lv_at hl 5 rfl) ?_
      refine lv_iload hx hb dX0_times_63 (lv_at hl 2 rfl) ?_
      refine lv_imul hx hb dX0_times_65 ?_
      obtain ⟨v28, ev28, hf⟩ := nm_elim hf
      try dsimp only at hf
      refine tp_I ev28 ?_
      refine lv_istore (lv' := [(9, .int v28), (8, .int v27), (7, .int v26), (6, .int v25), (5, .int v24), (4, .int v23), (3, .int v22), (0, .ref (ad 40)), (1, .int p0), (2, .int p1)]) hx hb dX0_times_66 hl (by decide) rfl (fun ls hl => ?_)
      refine lv_iload_n hx hb dX0_times_68 rfl (lv_at hl 6 rfl) ?_
      refine lv_iload hx hb dX0_times_69 (lv_at hl 2 rfl) ?_
      refine lv_imul hx hb dX0_times_71 ?_
      refine lv_iload hx hb dX0_times_72 (lv_at hl 5 rfl) ?_
      refine lv_iload hx hb dX0_times_74 (lv_at hl 3 rfl) ?_
      refine lv_imul hx hb dX0_times_76 ?_
      refine lv_iadd hx hb dX0_times_77 ?_
      obtain ⟨v29, ev29, hf⟩ := nm_elim hf
      try dsimp only at hf
      refine tp_I ev29 ?_
      refine lv_istore (lv' := [(10, .int v29), (9, .int v28), (8, .int v27), (7, .int v26), (6, .int v25), (5, .int v24), (4, .int v23), (3, .int v22), (0, .ref (ad 40)), (1, .int p0), (2, .int p1)]) hx hb dX0_times_78 hl (by decide) rfl (fun ls hl => ?_)
      refine lv_iload_n hx hb dX0_times_80 rfl (lv_at hl 7 rfl) ?_
      refine lv_iload hx hb dX0_times_81 (lv_at hl 2 rfl) ?_
      refine lv_imul hx hb dX0_times_83 ?_
      refine lv_iload hx hb dX0_times_84 (lv_at hl 6 rfl) ?_
      refine lv_iload hx hb dX0_times_86 (lv_at hl 3 rfl) ?_
      refine lv_imul hx hb dX0_times_88 ?_
      refine lv_iadd hx hb dX0_times_89 ?_
      refine lv_iload hx hb dX0_times_90 (lv_at hl 5 rfl) ?_
      refine lv_iload hx hb dX0_times_92 (lv_at hl 4 rfl) ?_
      refine lv_imul hx hb dX0_times_94 ?_
      refine lv_iadd hx hb dX0_times_95 ?_
      obtain ⟨v30, ev30, hf⟩ := nm_elim hf
      try dsimp only at hf
      refine tp_I ev30 ?_
      refine lv_istore (lv' := [(11, .int v30), (10, .int v29), (9, .int v28), (8, .int v27), (7, .int v26), (6, .int v25), (5, .int v24), (4, .int v23), (3, .int v22), (0, .ref (ad 40)), (1, .int p0), (2, .int p1)]) hx hb dX0_times_96 hl (by decide) rfl (fun ls hl => ?_)
      refine lv_aload_n hx hb dX0_times_98 rfl (lv_at hl 9 rfl) ?_
      refine va_get (ci := 0) (v := .int (E 0)) (C := RX0) (T := TX0) (N := 8) hx hb hts (by decide +kernel) hown hK hP 40 cc_ext rfl 0 (by decide) (hts (.fieldLink RX0 9 "NumberFieldFactors$Extension" "degree" "I") (by decide +kernel)) (fun _ h9 => h9) rfl dX0_times_99 ?_
      refine lv_iconst (v := 2) hx hb dX0_times_102 (by decide) ?_
      refine lv_icmp_ne (tgt := 158) hx hb dX0_times_103 (by decide) (fun c31 => ?_) (fun c31 => ?_)
      · rw [if_neg c31] at hf
        refine lv_bipush (v := 101) hx hb dX0_times_158 (by decide) ?_
        refine lv_iload hx hb dX0_times_160 (lv_at hl 6 rfl) ?_
        refine lv_iload hx hb dX0_times_162 (lv_at hl 3 rfl) ?_
        refine lv_imul hx hb dX0_times_164 ?_
        refine lv_bipush (v := 101) hx hb dX0_times_165 (by decide) ?_
        refine jv_irem hx hb dX0_times_167 (by decide) ?_
        refine lv_isub hx hb dX0_times_168 ?_
        refine lv_bipush (v := 101) hx hb dX0_times_169 (by decide) ?_
        refine jv_irem hx hb dX0_times_171 (by decide) ?_
        obtain ⟨v32, ev32, hf⟩ := nm_elim hf
        try dsimp only at hf
        refine tp_I ev32 ?_
        refine lv_istore (lv' := [(12, .int v32), (11, .int v30), (10, .int v29), (9, .int v28), (8, .int v27), (7, .int v26), (6, .int v25), (5, .int v24), (4, .int v23), (3, .int v22), (0, .ref (ad 40)), (1, .int p0), (2, .int p1)]) hx hb dX0_times_172 hl (by decide) rfl (fun ls hl => ?_)
        refine lv_iload hx hb dX0_times_174 (lv_at hl 8 rfl) ?_
        refine lv_iload hx hb dX0_times_176 (lv_at hl 4 rfl) ?_
        refine lv_imul hx hb dX0_times_178 ?_
        refine lv_iload hx hb dX0_times_179 (lv_at hl 7 rfl) ?_
        refine lv_iload hx hb dX0_times_181 (lv_at hl 5 rfl) ?_
        refine lv_imul hx hb dX0_times_183 ?_
        refine lv_iadd hx hb dX0_times_184 ?_
        refine lv_iload hx hb dX0_times_185 (lv_at hl 0 rfl) ?_
        refine lv_aload_n hx hb dX0_times_187 rfl (lv_at hl 10 rfl) ?_
        refine va_get (ci := 0) (v := .int (E 4)) (C := RX0) (T := TX0) (N := 8) hx hb hts (by decide +kernel) hown hK hP 40 cc_ext rfl 4 (by decide) (hts (.fieldLink RX0 24 "NumberFieldFactors$Extension" "low2" "I") (by decide +kernel)) (fun _ h9 => h9) rfl dX0_times_188 ?_
        refine lv_imul hx hb dX0_times_191 ?_
        refine lv_iadd hx hb dX0_times_192 ?_
        obtain ⟨v33, ev33, hf⟩ := nm_elim hf
        try dsimp only at hf
        refine tp_I ev33 ?_
        refine lv_istore (lv' := [(13, .int v33), (12, .int v32), (11, .int v30), (10, .int v29), (9, .int v28), (8, .int v27), (7, .int v26), (6, .int v25), (5, .int v24), (4, .int v23), (3, .int v22), (0, .ref (ad 40)), (1, .int p0), (2, .int p1)]) hx hb dX0_times_193 hl (by decide) rfl (fun ls hl => ?_)
        refine lv_bipush (v := 101) hx hb dX0_times_195 (by decide) ?_
        refine lv_iload hx hb dX0_times_197 (lv_at hl 0 rfl) ?_
        refine lv_bipush (v := 101) hx hb dX0_times_199 (by decide) ?_
        refine jv_irem hx hb dX0_times_201 (by decide) ?_
        refine lv_isub hx hb dX0_times_202 ?_
        refine lv_bipush (v := 101) hx hb dX0_times_203 (by decide) ?_
        refine jv_irem hx hb dX0_times_205 (by decide) ?_
        obtain ⟨v34, ev34, hf⟩ := nm_elim hf
        try dsimp only at hf
        refine tp_I ev34 ?_
        refine lv_istore (lv' := [(14, .int v34), (13, .int v33), (12, .int v32), (11, .int v30), (10, .int v29), (9, .int v28), (8, .int v27), (7, .int v26), (6, .int v25), (5, .int v24), (4, .int v23), (3, .int v22), (0, .ref (ad 40)), (1, .int p0), (2, .int p1)]) hx hb dX0_times_206 hl (by decide) rfl (fun ls hl => ?_)
        refine lv_iload hx hb dX0_times_208 (lv_at hl 3 rfl) ?_
        refine lv_iload hx hb dX0_times_210 (lv_at hl 2 rfl) ?_
        refine lv_aload_n hx hb dX0_times_212 rfl (lv_at hl 12 rfl) ?_
        refine va_get (ci := 0) (v := .int (E 3)) (C := RX0) (T := TX0) (N := 8) hx hb hts (by decide +kernel) hown hK hP 40 cc_ext rfl 3 (by decide) (hts (.fieldLink RX0 21 "NumberFieldFactors$Extension" "low1" "I") (by decide +kernel)) (fun _ h9 => h9) rfl dX0_times_213 ?_
        refine lv_imul hx hb dX0_times_216 ?_
        refine lv_iload hx hb dX0_times_217 (lv_at hl 0 rfl) ?_
        refine lv_aload_n hx hb dX0_times_219 rfl (lv_at hl 12 rfl) ?_
        refine va_get (ci := 0) (v := .int (E 4)) (C := RX0) (T := TX0) (N := 8) hx hb hts (by decide +kernel) hown hK hP 40 cc_ext rfl 4 (by decide) (hts (.fieldLink RX0 24 "NumberFieldFactors$Extension" "low2" "I") (by decide +kernel)) (fun _ h9 => h9) rfl dX0_times_220 ?_
        refine lv_imul hx hb dX0_times_223 ?_
        refine lv_iadd hx hb dX0_times_224 ?_
        refine lv_iadd hx hb dX0_times_225 ?_
        obtain ⟨v35, ev35, hf⟩ := nm_elim hf
        try dsimp only at hf
        refine tp_I ev35 ?_
        refine lv_istore (lv' := [(11, .int v35), (14, .int v34), (13, .int v33), (12, .int v32), (10, .int v29), (9, .int v28), (8, .int v27), (7, .int v26), (6, .int v25), (5, .int v24), (4, .int v23), (3, .int v22), (0, .ref (ad 40)), (1, .int p0), (2, .int p1)]) hx hb dX0_times_226 hl (by decide) rfl (fun ls hl => ?_)
        refine lv_iload hx hb dX0_times_228 (lv_at hl 4 rfl) ?_
        refine lv_iload hx hb dX0_times_230 (lv_at hl 3 rfl) ?_
        refine lv_aload_n hx hb dX0_times_232 rfl (lv_at hl 12 rfl) ?_
        refine va_get (ci := 0) (v := .int (E 2)) (C := RX0) (T := TX0) (N := 8) hx hb hts (by decide +kernel) hown hK hP 40 cc_ext rfl 2 (by decide) (hts (.fieldLink RX0 18 "NumberFieldFactors$Extension" "low0" "I") (by decide +kernel)) (fun _ h9 => h9) rfl dX0_times_233 ?_
        refine lv_imul hx hb dX0_times_236 ?_
        refine lv_iload hx hb dX0_times_237 (lv_at hl 1 rfl) ?_
        refine lv_aload_n hx hb dX0_times_239 rfl (lv_at hl 12 rfl) ?_
        refine va_get (ci := 0) (v := .int (E 3)) (C := RX0) (T := TX0) (N := 8) hx hb hts (by decide +kernel) hown hK hP 40 cc_ext rfl 3 (by decide) (hts (.fieldLink RX0 21 "NumberFieldFactors$Extension" "low1" "I") (by decide +kernel)) (fun _ h9 => h9) rfl dX0_times_240 ?_
        refine lv_imul hx hb dX0_times_243 ?_
        refine lv_iadd hx hb dX0_times_244 ?_
        refine lv_iadd hx hb dX0_times_245 ?_
        obtain ⟨v36, ev36, hf⟩ := nm_elim hf
        try dsimp only at hf
        refine tp_I ev36 ?_
        refine lv_istore (lv' := [(10, .int v36), (11, .int v35), (14, .int v34), (13, .int v33), (12, .int v32), (9, .int v28), (8, .int v27), (7, .int v26), (6, .int v25), (5, .int v24), (4, .int v23), (3, .int v22), (0, .ref (ad 40)), (1, .int p0), (2, .int p1)]) hx hb dX0_times_246 hl (by decide) rfl (fun ls hl => ?_)
        refine lv_iload hx hb dX0_times_248 (lv_at hl 5 rfl) ?_
        refine lv_iload hx hb dX0_times_250 (lv_at hl 2 rfl) ?_
        refine lv_aload_n hx hb dX0_times_252 rfl (lv_at hl 12 rfl) ?_
        refine va_get (ci := 0) (v := .int (E 2)) (C := RX0) (T := TX0) (N := 8) hx hb hts (by decide +kernel) hown hK hP 40 cc_ext rfl 2 (by decide) (hts (.fieldLink RX0 18 "NumberFieldFactors$Extension" "low0" "I") (by decide +kernel)) (fun _ h9 => h9) rfl dX0_times_253 ?_
        refine lv_imul hx hb dX0_times_256 ?_
        refine lv_iadd hx hb dX0_times_257 ?_
        obtain ⟨v37, ev37, hf⟩ := nm_elim hf
        try dsimp only at hf
        refine tp_I ev37 ?_
        refine lv_istore (lv' := [(9, .int v37), (10, .int v36), (11, .int v35), (14, .int v34), (13, .int v33), (12, .int v32), (8, .int v27), (7, .int v26), (6, .int v25), (5, .int v24), (4, .int v23), (3, .int v22), (0, .ref (ad 40)), (1, .int p0), (2, .int p1)]) hx hb dX0_times_258 hl (by decide) rfl (fun ls hl => ?_)
        refine lv_iload hx hb dX0_times_260 (lv_at hl 0 rfl) ?_
        refine lv_bipush (v := 101) hx hb dX0_times_262 (by decide) ?_
        refine jv_irem hx hb dX0_times_264 (by decide) ?_
        refine lv_bipush (v := 101) hx hb dX0_times_265 (by decide) ?_
        refine lv_iload hx hb dX0_times_267 (lv_at hl 1 rfl) ?_
        refine lv_bipush (v := 101) hx hb dX0_times_269 (by decide) ?_
        refine jv_irem hx hb dX0_times_271 (by decide) ?_
        refine lv_imul hx hb dX0_times_272 ?_
        refine lv_iadd hx hb dX0_times_273 ?_
        refine lv_sipush (v := 10201) hx hb dX0_times_274 (by decide) ?_
        refine lv_iload hx hb dX0_times_277 (lv_at hl 2 rfl) ?_
        refine lv_bipush (v := 101) hx hb dX0_times_279 (by decide) ?_
        refine jv_irem hx hb dX0_times_281 (by decide) ?_
        refine lv_imul hx hb dX0_times_282 ?_
        refine lv_iadd hx hb dX0_times_283 ?_
        obtain rfl := Option.some.inj hf
        exact W.iret (v := ((jrem v37 101) + (101 * (jrem v36 101))) + (10201 * (jrem v35 101))) hx hb hr (fun t ht hW => ⟨rfl, by rw [ht]; exact hP, hS.F ht⟩) hS.2.2 dX0_times_284
      · rw [if_pos c31] at hf
        refine lv_bipush (v := 101) hx hb dX0_times_106 (by decide) ?_
        refine lv_iload hx hb dX0_times_108 (lv_at hl 0 rfl) ?_
        refine lv_bipush (v := 101) hx hb dX0_times_110 (by decide) ?_
        refine jv_irem hx hb dX0_times_112 (by decide) ?_
        refine lv_isub hx hb dX0_times_113 ?_
        refine lv_bipush (v := 101) hx hb dX0_times_114 (by decide) ?_
        refine jv_irem hx hb dX0_times_116 (by decide) ?_
        obtain ⟨v38, ev38, hf⟩ := nm_elim hf
        try dsimp only at hf
        refine tp_I ev38 ?_
        refine lv_istore (lv' := [(12, .int v38), (11, .int v30), (10, .int v29), (9, .int v28), (8, .int v27), (7, .int v26), (6, .int v25), (5, .int v24), (4, .int v23), (3, .int v22), (0, .ref (ad 40)), (1, .int p0), (2, .int p1)]) hx hb dX0_times_117 hl (by decide) rfl (fun ls hl => ?_)
        refine lv_iload hx hb dX0_times_119 (lv_at hl 2 rfl) ?_
        refine lv_iload hx hb dX0_times_121 (lv_at hl 0 rfl) ?_
        refine lv_aload_n hx hb dX0_times_123 rfl (lv_at hl 10 rfl) ?_
        refine va_get (ci := 0) (v := .int (E 3)) (C := RX0) (T := TX0) (N := 8) hx hb hts (by decide +kernel) hown hK hP 40 cc_ext rfl 3 (by decide) (hts (.fieldLink RX0 21 "NumberFieldFactors$Extension" "low1" "I") (by decide +kernel)) (fun _ h9 => h9) rfl dX0_times_124 ?_
        refine lv_imul hx hb dX0_times_127 ?_
        refine lv_iadd hx hb dX0_times_128 ?_
        obtain ⟨v39, ev39, hf⟩ := nm_elim hf
        try dsimp only at hf
        refine tp_I ev39 ?_
        refine lv_istore (lv' := [(10, .int v39), (12, .int v38), (11, .int v30), (9, .int v28), (8, .int v27), (7, .int v26), (6, .int v25), (5, .int v24), (4, .int v23), (3, .int v22), (0, .ref (ad 40)), (1, .int p0), (2, .int p1)]) hx hb dX0_times_129 hl (by decide) rfl (fun ls hl => ?_)
        refine lv_iload hx hb dX0_times_131 (lv_at hl 3 rfl) ?_
        refine lv_iload hx hb dX0_times_133 (lv_at hl 1 rfl) ?_
        refine lv_aload_n hx hb dX0_times_135 rfl (lv_at hl 10 rfl) ?_
        refine va_get (ci := 0) (v := .int (E 2)) (C := RX0) (T := TX0) (N := 8) hx hb hts (by decide +kernel) hown hK hP 40 cc_ext rfl 2 (by decide) (hts (.fieldLink RX0 18 "NumberFieldFactors$Extension" "low0" "I") (by decide +kernel)) (fun _ h9 => h9) rfl dX0_times_136 ?_
        refine lv_imul hx hb dX0_times_139 ?_
        refine lv_iadd hx hb dX0_times_140 ?_
        obtain ⟨v40, ev40, hf⟩ := nm_elim hf
        try dsimp only at hf
        refine tp_I ev40 ?_
        refine lv_istore (lv' := [(9, .int v40), (10, .int v39), (12, .int v38), (11, .int v30), (8, .int v27), (7, .int v26), (6, .int v25), (5, .int v24), (4, .int v23), (3, .int v22), (0, .ref (ad 40)), (1, .int p0), (2, .int p1)]) hx hb dX0_times_141 hl (by decide) rfl (fun ls hl => ?_)
        refine lv_iload hx hb dX0_times_143 (lv_at hl 0 rfl) ?_
        refine lv_bipush (v := 101) hx hb dX0_times_145 (by decide) ?_
        refine jv_irem hx hb dX0_times_147 (by decide) ?_
        refine lv_bipush (v := 101) hx hb dX0_times_148 (by decide) ?_
        refine lv_iload hx hb dX0_times_150 (lv_at hl 1 rfl) ?_
        refine lv_bipush (v := 101) hx hb dX0_times_152 (by decide) ?_
        refine jv_irem hx hb dX0_times_154 (by decide) ?_
        refine lv_imul hx hb dX0_times_155 ?_
        refine lv_iadd hx hb dX0_times_156 ?_
        obtain rfl := Option.some.inj hf
        exact W.iret (v := (jrem v40 101) + (101 * (jrem v39 101))) hx hb hr (fun t ht hW => ⟨rfl, by rw [ht]; exact hP, hS.F ht⟩) hS.2.2 dX0_times_157
    · rw [if_neg c21] at hf
      refine lv_iload_n hx hb dX0_times_12 rfl (lv_at hl 1 rfl) ?_
      refine lv_iload_n hx hb dX0_times_13 rfl (lv_at hl 2 rfl) ?_
      refine lv_imul hx hb dX0_times_14 ?_
      refine lv_bipush (v := 101) hx hb dX0_times_15 (by decide) ?_
      refine jv_irem hx hb dX0_times_17 (by decide) ?_
      obtain rfl := Option.some.inj hf
      exact W.iret (v := jrem (p0 * p1) 101) hx hb hr (fun t ht hW => ⟨rfl, by rw [ht]; exact hP, hS.F ht⟩) hS.2.2 dX0_times_18
def f_X0_power_l8 (k8 : Int32 → Int32 → Int32 → Option (Int32)) (fu : Nat) (E : Nat → Int32) (x1 : Int32) (x2 : Int32) : Nat → Int32 → Int32 → Int32 → Option (Int32)
  | 0, _, _, _ => none
  | n + 1, x3, x4, x5 =>
    if x5 ≤ 0 then
      k8 x3 x4 x5
    else
      if (x5 &&& 1) = 1 then
        (f_X0_times E x3 x4).bind (fun u6 =>
        (f_X0_times E x4 x4).bind (fun u8 =>
        nm (x5 >>> (1 &&& 31)) (fun v10 =>
        f_X0_power_l8 k8 fu E x1 x2 n u6 u8 v10)))
      else
        (f_X0_times E x4 x4).bind (fun u3 =>
        nm (x5 >>> (1 &&& 31)) (fun v5 =>
        f_X0_power_l8 k8 fu E x1 x2 n x3 u3 v5))
def f_X0_power (fu : Nat) (E : Nat → Int32) (p0 : Int32) (p1 : Int32) : Option (Int32) :=
  f_X0_power_l8 (fun y11 y12 y13 =>
    some y11) fu E p0 p1 fu 1 p0 p1
set_option maxHeartbeats 4000000 in
set_option maxRecDepth 100000 in
theorem C_X0_power (l : Launch) (D : va_G) (tys : List (ClassId × FieldType)) (nw : List Cond) (hn : nw.all nw_kind = true) (hnw : ∀ w ∈ nw0, w ∈ nw) {ad : Nat → Nat} (hj : ww_inj 46 ad) {cI : ClassId} {cR : ClassId} (htI : tys[0]? = some (cI, .int)) (htR : tys[1]? = some (cR, .object RX2)) {fu : Nat} {M : Fin 20 → Nat → Int32} {E : Nat → Int32} {P : Nat → Fin 20} {C : Nat → Int32} {N : Nat → Int32} {p0 : Int32} {p1 : Int32} {res : Int32} (hf : f_X0_power fu E p0 p1 = some res) :
    Met l yX0_power wsX0_power ({ frames := 1, cells := 0, slots := 0, locals := 34 }) (va_Pc [.ref (ad 40), .int p0, .int p1] (ws_B D tys nw (ww 46 ad (cellC cI cR ad M E P C N)))) (ct_Q D (ww 46 ad (cellC cI cR ad M E P C N)) (ww_A 46 ad) (some (.int res))) 0 0 (ww_A 46 ad) := by
  refine Met.ofW (cc := cX0_power) (maxL := 6) (ret := (some .int)) (by decide) rfl ?_
  intro p e s m args below meth c s₁ B hml hv
  obtain ⟨rfl, hP, hK, hN⟩ := hv
  have hx := B.exec
  have hb := B.bytes
  have hr := B.returns
  have hts := atoms_spec (ws := wsX0_power) B.pre
  have hown : s.vm.findClass RX0 = some m.cls := findClass_of_methodNamed B.named
  have hlocks := B.notSynchronized
  have hS : va_S (ww_A 46 ad) s.heap s.heap [] := va_S.rf
  have hl := lv_entry ([.ref (ad 40), .int p0, .int p1]) (n := 6) (Nat.le_of_ble_eq_true rfl)
  rw [lg_entry_eq]
  generalize (lg_sl ([.ref (ad 40), .int p0, .int p1]) ++ List.replicate (6 - (lg_sl ([.ref (ad 40), .int p0, .int p1])).length) Slot.unset).toArray = ls at hl ⊢
  have hl : lv_has ls 6 [(0, .ref (ad 40)), (1, .int p0), (2, .int p1)] := hl
  have L8 : ∀ (x1 : Int32) (x2 : Int32) (k8 : Int32 → Int32 → Int32 → Option (Int32)), (∀ (x3 : Int32) (x4 : Int32) (x5 : Int32) (H : Heap) (locs : List Loc) (ls : Array Slot), va_P D vwCl (ww 46 ad (cellC cI cR ad M E P C N)) H → va_S (ww_A 46 ad) s.heap H locs → lv_has ls 6 [(0, .ref (ad 40)), (1, .int x1), (2, .int x2), (3, .int x3), (4, .int x4), (5, .int x5)] →  k8 x3 x4 x5 = some res → W p l e (headSpec wsX0_power { frames := 1, cells := 0, slots := 0, locals := 34 }).room s m [.ref (ad 40), .int p0, .int p1].toArray below meth c H locs 0 0 (MQ below (ct_Q D (ww 46 ad (cellC cI cR ad M E P C N)) (ww_A 46 ad) (some (.int res))) [.ref (ad 40), .int p0, .int p1].toArray s 0 0 (ww_A 46 ad)) (F0 m 48 ls [])) → ∀ (n : Nat) (x3 : Int32) (x4 : Int32) (x5 : Int32) (H : Heap) (locs : List Loc) (ls : Array Slot), va_P D vwCl (ww 46 ad (cellC cI cR ad M E P C N)) H → va_S (ww_A 46 ad) s.heap H locs → lv_has ls 6 [(0, .ref (ad 40)), (1, .int x1), (2, .int x2), (3, .int x3), (4, .int x4), (5, .int x5)] →  f_X0_power_l8 k8 fu E x1 x2 n x3 x4 x5 = some res → W p l e (headSpec wsX0_power { frames := 1, cells := 0, slots := 0, locals := 34 }).room s m [.ref (ad 40), .int p0, .int p1].toArray below meth c H locs 0 0 (MQ below (ct_Q D (ww 46 ad (cellC cI cR ad M E P C N)) (ww_A 46 ad) (some (.int res))) [.ref (ad 40), .int p0, .int p1].toArray s 0 0 (ww_A 46 ad)) (F0 m 8 ls []) := by
    intro x1 x2 k8 hk_8 n
    induction n with
    | zero => intro x3 x4 x5 H locs ls hP hS hl hf; rw [f_X0_power_l8] at hf; cases hf
    | succ n ih =>
      intro x3 x4 x5 H locs ls hP hS hl hf
      rw [f_X0_power_l8] at hf
      refine lv_iload hx hb dX0_power_8 (lv_at hl 5 rfl) ?_
      refine lv_if_le (tgt := 48) hx hb dX0_power_10 (by decide) (fun c1 => ?_) (fun c1 => ?_)
      · rw [if_pos c1] at hf
        exact hk_8 x3 x4 x5 _ _ _ hP hS (lv_sub hl [0, 1, 2, 3, 4, 5] rfl) hf
      · rw [if_neg c1] at hf
        refine lv_iload hx hb dX0_power_13 (lv_at hl 5 rfl) ?_
        refine lv_iconst (v := 1) hx hb dX0_power_15 (by decide) ?_
        refine lv_iand hx hb dX0_power_16 ?_
        refine lv_iconst (v := 1) hx hb dX0_power_17 (by decide) ?_
        refine lv_icmp_ne (tgt := 29) hx hb dX0_power_18 (by decide) (fun c2 => ?_) (fun c2 => ?_)
        · rw [if_neg c2] at hf
          refine lv_aload_n hx hb dX0_power_29 rfl (lv_at hl 0 rfl) ?_
          refine lv_iload hx hb dX0_power_30 (lv_at hl 4 rfl) ?_
          refine lv_iload hx hb dX0_power_32 (lv_at hl 4 rfl) ?_
          obtain ⟨u3, g4, hf⟩ := Option.bind_eq_some_iff.mp hf
          try dsimp only at hf
          refine ct_call (va_runV (As := [.int x4, .int x4]) (rest := []) ⟨hx, hb, hml, hown, hts⟩ (C_X0_times l D tys nw hn hnw hj htI htR (res := u3) g4) (cwV 2 hts gX0_power_X0_times rfl rfl rfl (by decide +kernel) ⟨Nat.le_of_ble_eq_true rfl, Nat.le_of_ble_eq_true rfl⟩) (ct_preV hn hP hK hN (ci := 0) (k := 40) rfl (by decide) rfl) rfl rfl hl.1 rfl (lv_room (Nat.le_of_ble_eq_true rfl)) dX0_power_34 ⟨Nat.zero_le _, Nat.zero_le _⟩) hS (fun H locs hP hS => ?_)
          refine lv_istore (lv' := [(4, .int u3), (0, .ref (ad 40)), (1, .int x1), (2, .int x2), (3, .int x3), (5, .int x5)]) hx hb dX0_power_37 hl (by decide) rfl (fun ls hl => ?_)
          refine lv_iload hx hb dX0_power_39 (lv_at hl 5 rfl) ?_
          refine lv_iconst (v := 1) hx hb dX0_power_41 (by decide) ?_
          refine lv_ishr hx hb dX0_power_42 ?_
          obtain ⟨v5, ev5, hf⟩ := nm_elim hf
          try dsimp only at hf
          refine tp_I ev5 ?_
          refine lv_istore (lv' := [(5, .int v5), (4, .int u3), (0, .ref (ad 40)), (1, .int x1), (2, .int x2), (3, .int x3)]) hx hb dX0_power_43 hl (by decide) rfl (fun ls hl => ?_)
          refine lv_goto (tgt := 8) hx hb dX0_power_45 (by decide) ?_
          exact ih x3 u3 v5 _ _ _ hP hS (lv_sub hl [2, 3, 4, 5, 1, 0] rfl) hf
        · rw [if_pos c2] at hf
          refine lv_aload_n hx hb dX0_power_21 rfl (lv_at hl 0 rfl) ?_
          refine lv_iload_n hx hb dX0_power_22 rfl (lv_at hl 3 rfl) ?_
          refine lv_iload hx hb dX0_power_23 (lv_at hl 4 rfl) ?_
          obtain ⟨u6, g7, hf⟩ := Option.bind_eq_some_iff.mp hf
          try dsimp only at hf
          refine ct_call (va_runV (As := [.int x3, .int x4]) (rest := []) ⟨hx, hb, hml, hown, hts⟩ (C_X0_times l D tys nw hn hnw hj htI htR (res := u6) g7) (cwV 2 hts gX0_power_X0_times rfl rfl rfl (by decide +kernel) ⟨Nat.le_of_ble_eq_true rfl, Nat.le_of_ble_eq_true rfl⟩) (ct_preV hn hP hK hN (ci := 0) (k := 40) rfl (by decide) rfl) rfl rfl hl.1 rfl (lv_room (Nat.le_of_ble_eq_true rfl)) dX0_power_25 ⟨Nat.zero_le _, Nat.zero_le _⟩) hS (fun H locs hP hS => ?_)
          refine lv_istore_n (lv' := [(3, .int u6), (0, .ref (ad 40)), (1, .int x1), (2, .int x2), (4, .int x4), (5, .int x5)]) hx hb dX0_power_28 rfl hl (by decide) rfl (fun ls hl => ?_)
          refine lv_aload_n hx hb dX0_power_29 rfl (lv_at hl 1 rfl) ?_
          refine lv_iload hx hb dX0_power_30 (lv_at hl 4 rfl) ?_
          refine lv_iload hx hb dX0_power_32 (lv_at hl 4 rfl) ?_
          obtain ⟨u8, g9, hf⟩ := Option.bind_eq_some_iff.mp hf
          try dsimp only at hf
          refine ct_call (va_runV (As := [.int x4, .int x4]) (rest := []) ⟨hx, hb, hml, hown, hts⟩ (C_X0_times l D tys nw hn hnw hj htI htR (res := u8) g9) (cwV 2 hts gX0_power_X0_times rfl rfl rfl (by decide +kernel) ⟨Nat.le_of_ble_eq_true rfl, Nat.le_of_ble_eq_true rfl⟩) (ct_preV hn hP hK hN (ci := 0) (k := 40) rfl (by decide) rfl) rfl rfl hl.1 rfl (lv_room (Nat.le_of_ble_eq_true rfl)) dX0_power_34 ⟨Nat.zero_le _, Nat.zero_le _⟩) hS (fun H locs hP hS => ?_)
          refine lv_istore (lv' := [(4, .int u8), (3, .int u6), (0, .ref (ad 40)), (1, .int x1), (2, .int x2), (5, .int x5)]) hx hb dX0_power_37 hl (by decide) rfl (fun ls hl => ?_)
          refine lv_iload hx hb dX0_power_39 (lv_at hl 5 rfl) ?_
          refine lv_iconst (v := 1) hx hb dX0_power_41 (by decide) ?_
          refine lv_ishr hx hb dX0_power_42 ?_
          obtain ⟨v10, ev10, hf⟩ := nm_elim hf
          try dsimp only at hf
          refine tp_I ev10 ?_
          refine lv_istore (lv' := [(5, .int v10), (4, .int u8), (3, .int u6), (0, .ref (ad 40)), (1, .int x1), (2, .int x2)]) hx hb dX0_power_43 hl (by decide) rfl (fun ls hl => ?_)
          refine lv_goto (tgt := 8) hx hb dX0_power_45 (by decide) ?_
          exact ih u6 u8 v10 _ _ _ hP hS (lv_sub hl [3, 4, 5, 2, 1, 0] rfl) hf
  unfold f_X0_power at hf
  refine lv_iconst (v := 1) hx hb dX0_power_0 (by decide) ?_
  refine lv_istore_n (lv' := [(3, .int 1), (0, .ref (ad 40)), (1, .int p0), (2, .int p1)]) hx hb dX0_power_1 rfl hl (by decide) rfl (fun ls hl => ?_)
  refine lv_iload_n hx hb dX0_power_2 rfl (lv_at hl 2 rfl) ?_
  refine lv_istore (lv' := [(4, .int p0), (3, .int 1), (0, .ref (ad 40)), (1, .int p0), (2, .int p1)]) hx hb dX0_power_3 hl (by decide) rfl (fun ls hl => ?_)
  refine lv_iload_n hx hb dX0_power_5 rfl (lv_at hl 4 rfl) ?_
  refine lv_istore (lv' := [(5, .int p1), (4, .int p0), (3, .int 1), (0, .ref (ad 40)), (1, .int p0), (2, .int p1)]) hx hb dX0_power_6 hl (by decide) rfl (fun ls hl => ?_)
  refine L8 p0 p1 _ (fun y11 y12 y13 H locs ls hP hS hl hf => ?_) fu 1 p0 p1 _ _ _ hP hS (lv_sub hl [3, 4, 5, 2, 1, 0] rfl) hf
  try dsimp only at hf
  refine lv_iload_n hx hb dX0_power_48 rfl (lv_at hl 3 rfl) ?_
  obtain rfl := Option.some.inj hf
  exact W.iret (v := y11) hx hb hr (fun t ht hW => ⟨rfl, by rw [ht]; exact hP, hS.F ht⟩) hS.2.2 dX0_power_49
def f_X0_mate (E : Nat → Int32) (p0 : Int32) : Option (Int32) :=
  (f_X0_times E (p0 / 10201) (E 7)).bind (fun u1 =>
  (f_X0_times E (jrem (p0 / 101) 101) (E 6)).bind (fun u3 =>
  (f_X0_plus u3 u1).bind (fun u5 =>
  (f_X0_plus (jrem p0 101) u5).bind (fun u7 =>
  some u7))))
set_option maxHeartbeats 4000000 in
set_option maxRecDepth 100000 in
theorem C_X0_mate (l : Launch) (D : va_G) (tys : List (ClassId × FieldType)) (nw : List Cond) (hn : nw.all nw_kind = true) (hnw : ∀ w ∈ nw0, w ∈ nw) {ad : Nat → Nat} (hj : ww_inj 46 ad) {cI : ClassId} {cR : ClassId} (htI : tys[0]? = some (cI, .int)) (htR : tys[1]? = some (cR, .object RX2)) {M : Fin 20 → Nat → Int32} {E : Nat → Int32} {P : Nat → Fin 20} {C : Nat → Int32} {N : Nat → Int32} {p0 : Int32} {res : Int32} (hf : f_X0_mate E p0 = some res) :
    Met l yX0_mate wsX0_mate ({ frames := 1, cells := 0, slots := 0, locals := 34 }) (va_Pc [.ref (ad 40), .int p0] (ws_B D tys nw (ww 46 ad (cellC cI cR ad M E P C N)))) (ct_Q D (ww 46 ad (cellC cI cR ad M E P C N)) (ww_A 46 ad) (some (.int res))) 0 0 (ww_A 46 ad) := by
  refine Met.ofW (cc := cX0_mate) (maxL := 4) (ret := (some .int)) (by decide) rfl ?_
  intro p e s m args below meth c s₁ B hml hv
  obtain ⟨rfl, hP, hK, hN⟩ := hv
  have hx := B.exec
  have hb := B.bytes
  have hr := B.returns
  have hts := atoms_spec (ws := wsX0_mate) B.pre
  have hown : s.vm.findClass RX0 = some m.cls := findClass_of_methodNamed B.named
  have hlocks := B.notSynchronized
  have hS : va_S (ww_A 46 ad) s.heap s.heap [] := va_S.rf
  have hl := lv_entry ([.ref (ad 40), .int p0]) (n := 4) (Nat.le_of_ble_eq_true rfl)
  rw [lg_entry_eq]
  generalize (lg_sl ([.ref (ad 40), .int p0]) ++ List.replicate (4 - (lg_sl ([.ref (ad 40), .int p0])).length) Slot.unset).toArray = ls at hl ⊢
  have hl : lv_has ls 4 [(0, .ref (ad 40)), (1, .int p0)] := hl
  unfold f_X0_mate at hf
  refine lv_aload_n hx hb dX0_mate_0 rfl (lv_at hl 0 rfl) ?_
  refine lv_iload_n hx hb dX0_mate_1 rfl (lv_at hl 1 rfl) ?_
  refine lv_sipush (v := 10201) hx hb dX0_mate_2 (by decide) ?_
  refine lv_idiv hx hb dX0_mate_5 (by decide) ?_
  refine lv_aload_n hx hb dX0_mate_6 rfl (lv_at hl 0 rfl) ?_
  refine va_get (ci := 0) (v := .int (E 7)) (C := RX0) (T := TX0) (N := 8) hx hb hts (by decide +kernel) hown hK hP 40 cc_ext rfl 7 (by decide) (hts (.fieldLink RX0 33 "NumberFieldFactors$Extension" "mateOfTSquared" "I") (by decide +kernel)) (fun _ h9 => h9) rfl dX0_mate_7 ?_
  obtain ⟨u1, g2, hf⟩ := Option.bind_eq_some_iff.mp hf
  try dsimp only at hf
  refine ct_call (va_runV (As := [.int (p0 / 10201), .int (E 7)]) (rest := []) ⟨hx, hb, hml, hown, hts⟩ (C_X0_times l D tys nw hn hnw hj htI htR (res := u1) g2) (cwV 2 hts gX0_mate_X0_times rfl rfl rfl (by decide +kernel) ⟨Nat.le_of_ble_eq_true rfl, Nat.le_of_ble_eq_true rfl⟩) (ct_preV hn hP hK hN (ci := 0) (k := 40) rfl (by decide) rfl) rfl rfl hl.1 rfl (lv_room (Nat.le_of_ble_eq_true rfl)) dX0_mate_10 ⟨Nat.zero_le _, Nat.zero_le _⟩) hS (fun H locs hP hS => ?_)
  refine lv_istore_n (lv' := [(2, .int u1), (0, .ref (ad 40)), (1, .int p0)]) hx hb dX0_mate_13 rfl hl (by decide) rfl (fun ls hl => ?_)
  refine lv_aload_n hx hb dX0_mate_14 rfl (lv_at hl 1 rfl) ?_
  refine lv_iload_n hx hb dX0_mate_15 rfl (lv_at hl 2 rfl) ?_
  refine lv_bipush (v := 101) hx hb dX0_mate_16 (by decide) ?_
  refine lv_idiv hx hb dX0_mate_18 (by decide) ?_
  refine lv_bipush (v := 101) hx hb dX0_mate_19 (by decide) ?_
  refine jv_irem hx hb dX0_mate_21 (by decide) ?_
  refine lv_aload_n hx hb dX0_mate_22 rfl (lv_at hl 1 rfl) ?_
  refine va_get (ci := 0) (v := .int (E 6)) (C := RX0) (T := TX0) (N := 8) hx hb hts (by decide +kernel) hown hK hP 40 cc_ext rfl 6 (by decide) (hts (.fieldLink RX0 30 "NumberFieldFactors$Extension" "mateOfT" "I") (by decide +kernel)) (fun _ h9 => h9) rfl dX0_mate_23 ?_
  obtain ⟨u3, g4, hf⟩ := Option.bind_eq_some_iff.mp hf
  try dsimp only at hf
  refine ct_call (va_runV (As := [.int (jrem (p0 / 101) 101), .int (E 6)]) (rest := []) ⟨hx, hb, hml, hown, hts⟩ (C_X0_times l D tys nw hn hnw hj htI htR (res := u3) g4) (cwV 2 hts gX0_mate_X0_times rfl rfl rfl (by decide +kernel) ⟨Nat.le_of_ble_eq_true rfl, Nat.le_of_ble_eq_true rfl⟩) (ct_preV hn hP hK hN (ci := 0) (k := 40) rfl (by decide) rfl) rfl rfl hl.1 rfl (lv_room (Nat.le_of_ble_eq_true rfl)) dX0_mate_26 ⟨Nat.zero_le _, Nat.zero_le _⟩) hS (fun H locs hP hS => ?_)
  refine lv_istore_n (lv' := [(3, .int u3), (2, .int u1), (0, .ref (ad 40)), (1, .int p0)]) hx hb dX0_mate_29 rfl hl (by decide) rfl (fun ls hl => ?_)
  refine lv_aload_n hx hb dX0_mate_30 rfl (lv_at hl 2 rfl) ?_
  refine lv_iload_n hx hb dX0_mate_31 rfl (lv_at hl 3 rfl) ?_
  refine lv_bipush (v := 101) hx hb dX0_mate_32 (by decide) ?_
  refine jv_irem hx hb dX0_mate_34 (by decide) ?_
  refine lv_aload_n hx hb dX0_mate_35 rfl (lv_at hl 2 rfl) ?_
  refine lv_iload_n hx hb dX0_mate_36 rfl (lv_at hl 0 rfl) ?_
  refine lv_iload_n hx hb dX0_mate_37 rfl (lv_at hl 1 rfl) ?_
  obtain ⟨u5, g6, hf⟩ := Option.bind_eq_some_iff.mp hf
  try dsimp only at hf
  refine ct_call (va_runV (As := [.int u3, .int u1]) (rest := [.int (jrem p0 101), .ref (ad 40)]) ⟨hx, hb, hml, hown, hts⟩ (C_X0_plus l D tys nw hn hnw hj htI htR (res := u5) g6) (cwV 2 hts gX0_mate_X0_plus rfl rfl rfl (by decide +kernel) ⟨Nat.le_of_ble_eq_true rfl, Nat.le_of_ble_eq_true rfl⟩) (ct_preV hn hP hK hN (ci := 0) (k := 40) rfl (by decide) rfl) rfl rfl hl.1 rfl (lv_room (Nat.le_of_ble_eq_true rfl)) dX0_mate_38 ⟨Nat.zero_le _, Nat.zero_le _⟩) hS (fun H locs hP hS => ?_)
  obtain ⟨u7, g8, hf⟩ := Option.bind_eq_some_iff.mp hf
  try dsimp only at hf
  refine ct_call (va_runV (As := [.int (jrem p0 101), .int u5]) (rest := []) ⟨hx, hb, hml, hown, hts⟩ (C_X0_plus l D tys nw hn hnw hj htI htR (res := u7) g8) (cwV 2 hts gX0_mate_X0_plus rfl rfl rfl (by decide +kernel) ⟨Nat.le_of_ble_eq_true rfl, Nat.le_of_ble_eq_true rfl⟩) (ct_preV hn hP hK hN (ci := 0) (k := 40) rfl (by decide) rfl) rfl rfl hl.1 rfl (lv_room (Nat.le_of_ble_eq_true rfl)) dX0_mate_41 ⟨Nat.zero_le _, Nat.zero_le _⟩) hS (fun H locs hP hS => ?_)
  obtain rfl := Option.some.inj hf
  exact W.iret (v := u7) hx hb hr (fun t ht hW => ⟨rfl, by rw [ht]; exact hP, hS.F ht⟩) hS.2.2 dX0_mate_44
def f_X0_isSquare (fu : Nat) (E : Nat → Int32) (p0 : Int32) : Option (Int32) :=
  if p0 = 0 then
    some 1
  else
    (f_X0_power fu E p0 ((E 1) / 2)).bind (fun u2 =>
    if u2 = 1 then
      some 1
    else
      some 0)
set_option maxHeartbeats 4000000 in
set_option maxRecDepth 100000 in
theorem C_X0_isSquare (l : Launch) (D : va_G) (tys : List (ClassId × FieldType)) (nw : List Cond) (hn : nw.all nw_kind = true) (hnw : ∀ w ∈ nw0, w ∈ nw) {ad : Nat → Nat} (hj : ww_inj 46 ad) {cI : ClassId} {cR : ClassId} (htI : tys[0]? = some (cI, .int)) (htR : tys[1]? = some (cR, .object RX2)) {fu : Nat} {M : Fin 20 → Nat → Int32} {E : Nat → Int32} {P : Nat → Fin 20} {C : Nat → Int32} {N : Nat → Int32} {p0 : Int32} {res : Int32} (hf : f_X0_isSquare fu E p0 = some res) :
    Met l yX0_isSquare wsX0_isSquare ({ frames := 2, cells := 0, slots := 0, locals := 59 }) (va_Pc [.ref (ad 40), .int p0] (ws_B D tys nw (ww 46 ad (cellC cI cR ad M E P C N)))) (ct_Q D (ww 46 ad (cellC cI cR ad M E P C N)) (ww_A 46 ad) (some (.int res))) 0 0 (ww_A 46 ad) := by
  refine Met.ofW (cc := cX0_isSquare) (maxL := 2) (ret := (some .boolean)) (by decide) rfl ?_
  intro p e s m args below meth c s₁ B hml hv
  obtain ⟨rfl, hP, hK, hN⟩ := hv
  have hx := B.exec
  have hb := B.bytes
  have hr := B.returns
  have hts := atoms_spec (ws := wsX0_isSquare) B.pre
  have hown : s.vm.findClass RX0 = some m.cls := findClass_of_methodNamed B.named
  have hlocks := B.notSynchronized
  have hS : va_S (ww_A 46 ad) s.heap s.heap [] := va_S.rf
  have hl := lv_entry ([.ref (ad 40), .int p0]) (n := 2) (Nat.le_of_ble_eq_true rfl)
  rw [lg_entry_eq]
  generalize (lg_sl ([.ref (ad 40), .int p0]) ++ List.replicate (2 - (lg_sl ([.ref (ad 40), .int p0])).length) Slot.unset).toArray = ls at hl ⊢
  have hl : lv_has ls 2 [(0, .ref (ad 40)), (1, .int p0)] := hl
  unfold f_X0_isSquare at hf
  refine lv_iload_n hx hb dX0_isSquare_0 rfl (lv_at hl 1 rfl) ?_
  refine lv_if_eq (tgt := 19) hx hb dX0_isSquare_1 (by decide) (fun c1 => ?_) (fun c1 => ?_)
  · rw [if_pos c1] at hf
    refine lv_iconst (v := 1) hx hb dX0_isSquare_19 (by decide) ?_
    refine lv_goto (tgt := 24) hx hb dX0_isSquare_20 (by decide) ?_
    obtain rfl := Option.some.inj hf
    exact W.zret (v := 1) (ty := .boolean) hx hb hr (by decide) (fun t ht hW => ⟨rfl, by rw [ht]; exact hP, hS.F ht⟩) hS.2.2 dX0_isSquare_24
  · rw [if_neg c1] at hf
    refine lv_aload_n hx hb dX0_isSquare_4 rfl (lv_at hl 0 rfl) ?_
    refine lv_iload_n hx hb dX0_isSquare_5 rfl (lv_at hl 1 rfl) ?_
    refine lv_aload_n hx hb dX0_isSquare_6 rfl (lv_at hl 0 rfl) ?_
    refine va_get (ci := 0) (v := .int (E 1)) (C := RX0) (T := TX0) (N := 8) hx hb hts (by decide +kernel) hown hK hP 40 cc_ext rfl 1 (by decide) (hts (.fieldLink RX0 15 "NumberFieldFactors$Extension" "size" "I") (by decide +kernel)) (fun _ h9 => h9) rfl dX0_isSquare_7 ?_
    refine lv_iconst (v := 2) hx hb dX0_isSquare_10 (by decide) ?_
    refine lv_idiv hx hb dX0_isSquare_11 (by decide) ?_
    obtain ⟨u2, g3, hf⟩ := Option.bind_eq_some_iff.mp hf
    try dsimp only at hf
    refine ct_call (va_runV (As := [.int p0, .int ((E 1) / 2)]) (rest := []) ⟨hx, hb, hml, hown, hts⟩ (C_X0_power l D tys nw hn hnw hj htI htR (res := u2) g3) (cwV 2 hts gX0_isSquare_X0_power rfl rfl rfl (by decide +kernel) ⟨Nat.le_of_ble_eq_true rfl, Nat.le_of_ble_eq_true rfl⟩) (ct_preV hn hP hK hN (ci := 0) (k := 40) rfl (by decide) rfl) rfl rfl hl.1 rfl (lv_room (Nat.le_of_ble_eq_true rfl)) dX0_isSquare_12 ⟨Nat.zero_le _, Nat.zero_le _⟩) hS (fun H locs hP hS => ?_)
    refine lv_iconst (v := 1) hx hb dX0_isSquare_15 (by decide) ?_
    refine lv_icmp_ne (tgt := 23) hx hb dX0_isSquare_16 (by decide) (fun c4 => ?_) (fun c4 => ?_)
    · rw [if_neg c4] at hf
      refine lv_iconst (v := 0) hx hb dX0_isSquare_23 (by decide) ?_
      obtain rfl := Option.some.inj hf
      exact W.zret (v := 0) (ty := .boolean) hx hb hr (by decide) (fun t ht hW => ⟨rfl, by rw [ht]; exact hP, hS.F ht⟩) hS.2.2 dX0_isSquare_24
    · rw [if_pos c4] at hf
      refine lv_iconst (v := 1) hx hb dX0_isSquare_19 (by decide) ?_
      refine lv_goto (tgt := 24) hx hb dX0_isSquare_20 (by decide) ?_
      obtain rfl := Option.some.inj hf
      exact W.zret (v := 1) (ty := .boolean) hx hb hr (by decide) (fun t ht hW => ⟨rfl, by rw [ht]; exact hP, hS.F ht⟩) hS.2.2 dX0_isSquare_24
def f_X0_matesProduct_l7 (k7 : Int32 → Int32 → Int32 → Option (Int32)) (fu : Nat) (E : Nat → Int32) (x1 : Int32) : Nat → Int32 → Int32 → Int32 → Option (Int32)
  | 0, _, _, _ => none
  | n + 1, x2, x3, x4 =>
    if (E 0) ≤ x4 then
      k7 x2 x3 x4
    else
      (f_X0_mate E x3).bind (fun u2 =>
      (f_X0_times E x2 u2).bind (fun u4 =>
      f_X0_matesProduct_l7 k7 fu E x1 n u4 u2 (x4 + 1)))
def f_X0_matesProduct (fu : Nat) (E : Nat → Int32) (p0 : Int32) : Option (Int32) :=
  f_X0_matesProduct_l7 (fun y6 y7 y8 =>
    some y6) fu E p0 fu p0 p0 1
set_option maxHeartbeats 4000000 in
set_option maxRecDepth 100000 in
theorem C_X0_matesProduct (l : Launch) (D : va_G) (tys : List (ClassId × FieldType)) (nw : List Cond) (hn : nw.all nw_kind = true) (hnw : ∀ w ∈ nw0, w ∈ nw) {ad : Nat → Nat} (hj : ww_inj 46 ad) {cI : ClassId} {cR : ClassId} (htI : tys[0]? = some (cI, .int)) (htR : tys[1]? = some (cR, .object RX2)) {fu : Nat} {M : Fin 20 → Nat → Int32} {E : Nat → Int32} {P : Nat → Fin 20} {C : Nat → Int32} {N : Nat → Int32} {p0 : Int32} {res : Int32} (hf : f_X0_matesProduct fu E p0 = some res) :
    Met l yX0_matesProduct wsX0_matesProduct ({ frames := 2, cells := 0, slots := 0, locals := 57 }) (va_Pc [.ref (ad 40), .int p0] (ws_B D tys nw (ww 46 ad (cellC cI cR ad M E P C N)))) (ct_Q D (ww 46 ad (cellC cI cR ad M E P C N)) (ww_A 46 ad) (some (.int res))) 0 0 (ww_A 46 ad) := by
  refine Met.ofW (cc := cX0_matesProduct) (maxL := 5) (ret := (some .int)) (by decide) rfl ?_
  intro p e s m args below meth c s₁ B hml hv
  obtain ⟨rfl, hP, hK, hN⟩ := hv
  have hx := B.exec
  have hb := B.bytes
  have hr := B.returns
  have hts := atoms_spec (ws := wsX0_matesProduct) B.pre
  have hown : s.vm.findClass RX0 = some m.cls := findClass_of_methodNamed B.named
  have hlocks := B.notSynchronized
  have hS : va_S (ww_A 46 ad) s.heap s.heap [] := va_S.rf
  have hl := lv_entry ([.ref (ad 40), .int p0]) (n := 5) (Nat.le_of_ble_eq_true rfl)
  rw [lg_entry_eq]
  generalize (lg_sl ([.ref (ad 40), .int p0]) ++ List.replicate (5 - (lg_sl ([.ref (ad 40), .int p0])).length) Slot.unset).toArray = ls at hl ⊢
  have hl : lv_has ls 5 [(0, .ref (ad 40)), (1, .int p0)] := hl
  have L7 : ∀ (x1 : Int32) (k7 : Int32 → Int32 → Int32 → Option (Int32)), (∀ (x2 : Int32) (x3 : Int32) (x4 : Int32) (H : Heap) (locs : List Loc) (ls : Array Slot), va_P D vwCl (ww 46 ad (cellC cI cR ad M E P C N)) H → va_S (ww_A 46 ad) s.heap H locs → lv_has ls 5 [(0, .ref (ad 40)), (1, .int x1), (2, .int x2), (3, .int x3), (4, .int x4)] →  k7 x2 x3 x4 = some res → W p l e (headSpec wsX0_matesProduct { frames := 2, cells := 0, slots := 0, locals := 57 }).room s m [.ref (ad 40), .int p0].toArray below meth c H locs 0 0 (MQ below (ct_Q D (ww 46 ad (cellC cI cR ad M E P C N)) (ww_A 46 ad) (some (.int res))) [.ref (ad 40), .int p0].toArray s 0 0 (ww_A 46 ad)) (F0 m 35 ls [])) → ∀ (n : Nat) (x2 : Int32) (x3 : Int32) (x4 : Int32) (H : Heap) (locs : List Loc) (ls : Array Slot), va_P D vwCl (ww 46 ad (cellC cI cR ad M E P C N)) H → va_S (ww_A 46 ad) s.heap H locs → lv_has ls 5 [(0, .ref (ad 40)), (1, .int x1), (2, .int x2), (3, .int x3), (4, .int x4)] →  f_X0_matesProduct_l7 k7 fu E x1 n x2 x3 x4 = some res → W p l e (headSpec wsX0_matesProduct { frames := 2, cells := 0, slots := 0, locals := 57 }).room s m [.ref (ad 40), .int p0].toArray below meth c H locs 0 0 (MQ below (ct_Q D (ww 46 ad (cellC cI cR ad M E P C N)) (ww_A 46 ad) (some (.int res))) [.ref (ad 40), .int p0].toArray s 0 0 (ww_A 46 ad)) (F0 m 7 ls []) := by
    intro x1 k7 hk_7 n
    induction n with
    | zero => intro x2 x3 x4 H locs ls hP hS hl hf; rw [f_X0_matesProduct_l7] at hf; cases hf
    | succ n ih =>
      intro x2 x3 x4 H locs ls hP hS hl hf
      rw [f_X0_matesProduct_l7] at hf
      refine lv_iload hx hb dX0_matesProduct_7 (lv_at hl 4 rfl) ?_
      refine lv_aload_n hx hb dX0_matesProduct_9 rfl (lv_at hl 0 rfl) ?_
      refine va_get (ci := 0) (v := .int (E 0)) (C := RX0) (T := TX0) (N := 8) hx hb hts (by decide +kernel) hown hK hP 40 cc_ext rfl 0 (by decide) (hts (.fieldLink RX0 9 "NumberFieldFactors$Extension" "degree" "I") (by decide +kernel)) (fun _ h9 => h9) rfl dX0_matesProduct_10 ?_
      refine lv_icmp_ge (tgt := 35) hx hb dX0_matesProduct_13 (by decide) (fun c1 => ?_) (fun c1 => ?_)
      · rw [if_pos c1] at hf
        exact hk_7 x2 x3 x4 _ _ _ hP hS (lv_sub hl [0, 1, 2, 3, 4] rfl) hf
      · rw [if_neg c1] at hf
        refine lv_aload_n hx hb dX0_matesProduct_16 rfl (lv_at hl 0 rfl) ?_
        refine lv_iload_n hx hb dX0_matesProduct_17 rfl (lv_at hl 3 rfl) ?_
        obtain ⟨u2, g3, hf⟩ := Option.bind_eq_some_iff.mp hf
        try dsimp only at hf
        refine ct_call (va_runV (As := [.int x3]) (rest := []) ⟨hx, hb, hml, hown, hts⟩ (C_X0_mate l D tys nw hn hnw hj htI htR (res := u2) g3) (cwV 1 hts gX0_matesProduct_X0_mate rfl rfl rfl (by decide +kernel) ⟨Nat.le_of_ble_eq_true rfl, Nat.le_of_ble_eq_true rfl⟩) (ct_preV hn hP hK hN (ci := 0) (k := 40) rfl (by decide) rfl) rfl rfl hl.1 rfl (lv_room (Nat.le_of_ble_eq_true rfl)) dX0_matesProduct_18 ⟨Nat.zero_le _, Nat.zero_le _⟩) hS (fun H locs hP hS => ?_)
        refine lv_istore_n (lv' := [(3, .int u2), (0, .ref (ad 40)), (1, .int x1), (2, .int x2), (4, .int x4)]) hx hb dX0_matesProduct_21 rfl hl (by decide) rfl (fun ls hl => ?_)
        refine lv_aload_n hx hb dX0_matesProduct_22 rfl (lv_at hl 1 rfl) ?_
        refine lv_iload_n hx hb dX0_matesProduct_23 rfl (lv_at hl 3 rfl) ?_
        refine lv_iload_n hx hb dX0_matesProduct_24 rfl (lv_at hl 0 rfl) ?_
        obtain ⟨u4, g5, hf⟩ := Option.bind_eq_some_iff.mp hf
        try dsimp only at hf
        refine ct_call (va_runV (As := [.int x2, .int u2]) (rest := []) ⟨hx, hb, hml, hown, hts⟩ (C_X0_times l D tys nw hn hnw hj htI htR (res := u4) g5) (cwV 2 hts gX0_matesProduct_X0_times rfl rfl rfl (by decide +kernel) ⟨Nat.le_of_ble_eq_true rfl, Nat.le_of_ble_eq_true rfl⟩) (ct_preV hn hP hK hN (ci := 0) (k := 40) rfl (by decide) rfl) rfl rfl hl.1 rfl (lv_room (Nat.le_of_ble_eq_true rfl)) dX0_matesProduct_25 ⟨Nat.zero_le _, Nat.zero_le _⟩) hS (fun H locs hP hS => ?_)
        refine lv_istore_n (lv' := [(2, .int u4), (3, .int u2), (0, .ref (ad 40)), (1, .int x1), (4, .int x4)]) hx hb dX0_matesProduct_28 rfl hl (by decide) rfl (fun ls hl => ?_)
        refine lv_iinc (v := x4 + 1) (lv' := [(4, .int (x4 + 1)), (2, .int u4), (3, .int u2), (0, .ref (ad 40)), (1, .int x1)]) hx hb dX0_matesProduct_29 hl (k := 4) rfl rfl (by decide) rfl (fun ls hl => ?_)
        refine lv_goto (tgt := 7) hx hb dX0_matesProduct_32 (by decide) ?_
        exact ih u4 u2 (x4 + 1) _ _ _ hP hS (lv_sub hl [3, 4, 1, 2, 0] rfl) hf
  unfold f_X0_matesProduct at hf
  refine lv_iload_n hx hb dX0_matesProduct_0 rfl (lv_at hl 1 rfl) ?_
  refine lv_istore_n (lv' := [(2, .int p0), (0, .ref (ad 40)), (1, .int p0)]) hx hb dX0_matesProduct_1 rfl hl (by decide) rfl (fun ls hl => ?_)
  refine lv_iload_n hx hb dX0_matesProduct_2 rfl (lv_at hl 2 rfl) ?_
  refine lv_istore_n (lv' := [(3, .int p0), (2, .int p0), (0, .ref (ad 40)), (1, .int p0)]) hx hb dX0_matesProduct_3 rfl hl (by decide) rfl (fun ls hl => ?_)
  refine lv_iconst (v := 1) hx hb dX0_matesProduct_4 (by decide) ?_
  refine lv_istore (lv' := [(4, .int 1), (3, .int p0), (2, .int p0), (0, .ref (ad 40)), (1, .int p0)]) hx hb dX0_matesProduct_5 hl (by decide) rfl (fun ls hl => ?_)
  refine L7 p0 _ (fun y6 y7 y8 H locs ls hP hS hl hf => ?_) fu p0 p0 1 _ _ _ hP hS (lv_sub hl [3, 4, 2, 1, 0] rfl) hf
  try dsimp only at hf
  refine lv_iload_n hx hb dX0_matesProduct_35 rfl (lv_at hl 2 rfl) ?_
  obtain rfl := Option.some.inj hf
  exact W.iret (v := y6) hx hb hr (fun t ht hW => ⟨rfl, by rw [ht]; exact hP, hS.F ht⟩) hS.2.2 dX0_matesProduct_36
def f_X0_matesSum_l7 (k7 : Int32 → Int32 → Int32 → Option (Int32)) (fu : Nat) (E : Nat → Int32) (x1 : Int32) : Nat → Int32 → Int32 → Int32 → Option (Int32)
  | 0, _, _, _ => none
  | n + 1, x2, x3, x4 =>
    if (E 0) ≤ x4 then
      k7 x2 x3 x4
    else
      (f_X0_mate E x3).bind (fun u2 =>
      (f_X0_plus x2 u2).bind (fun u4 =>
      f_X0_matesSum_l7 k7 fu E x1 n u4 u2 (x4 + 1)))
def f_X0_matesSum (fu : Nat) (E : Nat → Int32) (p0 : Int32) : Option (Int32) :=
  f_X0_matesSum_l7 (fun y6 y7 y8 =>
    some y6) fu E p0 fu p0 p0 1
set_option maxHeartbeats 4000000 in
set_option maxRecDepth 100000 in
theorem C_X0_matesSum (l : Launch) (D : va_G) (tys : List (ClassId × FieldType)) (nw : List Cond) (hn : nw.all nw_kind = true) (hnw : ∀ w ∈ nw0, w ∈ nw) {ad : Nat → Nat} (hj : ww_inj 46 ad) {cI : ClassId} {cR : ClassId} (htI : tys[0]? = some (cI, .int)) (htR : tys[1]? = some (cR, .object RX2)) {fu : Nat} {M : Fin 20 → Nat → Int32} {E : Nat → Int32} {P : Nat → Fin 20} {C : Nat → Int32} {N : Nat → Int32} {p0 : Int32} {res : Int32} (hf : f_X0_matesSum fu E p0 = some res) :
    Met l yX0_matesSum wsX0_matesSum ({ frames := 2, cells := 0, slots := 0, locals := 57 }) (va_Pc [.ref (ad 40), .int p0] (ws_B D tys nw (ww 46 ad (cellC cI cR ad M E P C N)))) (ct_Q D (ww 46 ad (cellC cI cR ad M E P C N)) (ww_A 46 ad) (some (.int res))) 0 0 (ww_A 46 ad) := by
  refine Met.ofW (cc := cX0_matesSum) (maxL := 5) (ret := (some .int)) (by decide) rfl ?_
  intro p e s m args below meth c s₁ B hml hv
  obtain ⟨rfl, hP, hK, hN⟩ := hv
  have hx := B.exec
  have hb := B.bytes
  have hr := B.returns
  have hts := atoms_spec (ws := wsX0_matesSum) B.pre
  have hown : s.vm.findClass RX0 = some m.cls := findClass_of_methodNamed B.named
  have hlocks := B.notSynchronized
  have hS : va_S (ww_A 46 ad) s.heap s.heap [] := va_S.rf
  have hl := lv_entry ([.ref (ad 40), .int p0]) (n := 5) (Nat.le_of_ble_eq_true rfl)
  rw [lg_entry_eq]
  generalize (lg_sl ([.ref (ad 40), .int p0]) ++ List.replicate (5 - (lg_sl ([.ref (ad 40), .int p0])).length) Slot.unset).toArray = ls at hl ⊢
  have hl : lv_has ls 5 [(0, .ref (ad 40)), (1, .int p0)] := hl
  have L7 : ∀ (x1 : Int32) (k7 : Int32 → Int32 → Int32 → Option (Int32)), (∀ (x2 : Int32) (x3 : Int32) (x4 : Int32) (H : Heap) (locs : List Loc) (ls : Array Slot), va_P D vwCl (ww 46 ad (cellC cI cR ad M E P C N)) H → va_S (ww_A 46 ad) s.heap H locs → lv_has ls 5 [(0, .ref (ad 40)), (1, .int x1), (2, .int x2), (3, .int x3), (4, .int x4)] →  k7 x2 x3 x4 = some res → W p l e (headSpec wsX0_matesSum { frames := 2, cells := 0, slots := 0, locals := 57 }).room s m [.ref (ad 40), .int p0].toArray below meth c H locs 0 0 (MQ below (ct_Q D (ww 46 ad (cellC cI cR ad M E P C N)) (ww_A 46 ad) (some (.int res))) [.ref (ad 40), .int p0].toArray s 0 0 (ww_A 46 ad)) (F0 m 35 ls [])) → ∀ (n : Nat) (x2 : Int32) (x3 : Int32) (x4 : Int32) (H : Heap) (locs : List Loc) (ls : Array Slot), va_P D vwCl (ww 46 ad (cellC cI cR ad M E P C N)) H → va_S (ww_A 46 ad) s.heap H locs → lv_has ls 5 [(0, .ref (ad 40)), (1, .int x1), (2, .int x2), (3, .int x3), (4, .int x4)] →  f_X0_matesSum_l7 k7 fu E x1 n x2 x3 x4 = some res → W p l e (headSpec wsX0_matesSum { frames := 2, cells := 0, slots := 0, locals := 57 }).room s m [.ref (ad 40), .int p0].toArray below meth c H locs 0 0 (MQ below (ct_Q D (ww 46 ad (cellC cI cR ad M E P C N)) (ww_A 46 ad) (some (.int res))) [.ref (ad 40), .int p0].toArray s 0 0 (ww_A 46 ad)) (F0 m 7 ls []) := by
    intro x1 k7 hk_7 n
    induction n with
    | zero => intro x2 x3 x4 H locs ls hP hS hl hf; rw [f_X0_matesSum_l7] at hf; cases hf
    | succ n ih =>
      intro x2 x3 x4 H locs ls hP hS hl hf
      rw [f_X0_matesSum_l7] at hf
      refine lv_iload hx hb dX0_matesSum_7 (lv_at hl 4 rfl) ?_
      refine lv_aload_n hx hb dX0_matesSum_9 rfl (lv_at hl 0 rfl) ?_
      refine va_get (ci := 0) (v := .int (E 0)) (C := RX0) (T := TX0) (N := 8) hx hb hts (by decide +kernel) hown hK hP 40 cc_ext rfl 0 (by decide) (hts (.fieldLink RX0 9 "NumberFieldFactors$Extension" "degree" "I") (by decide +kernel)) (fun _ h9 => h9) rfl dX0_matesSum_10 ?_
      refine lv_icmp_ge (tgt := 35) hx hb dX0_matesSum_13 (by decide) (fun c1 => ?_) (fun c1 => ?_)
      · rw [if_pos c1] at hf
        exact hk_7 x2 x3 x4 _ _ _ hP hS (lv_sub hl [0, 1, 2, 3, 4] rfl) hf
      · rw [if_neg c1] at hf
        refine lv_aload_n hx hb dX0_matesSum_16 rfl (lv_at hl 0 rfl) ?_
        refine lv_iload_n hx hb dX0_matesSum_17 rfl (lv_at hl 3 rfl) ?_
        obtain ⟨u2, g3, hf⟩ := Option.bind_eq_some_iff.mp hf
        try dsimp only at hf
        refine ct_call (va_runV (As := [.int x3]) (rest := []) ⟨hx, hb, hml, hown, hts⟩ (C_X0_mate l D tys nw hn hnw hj htI htR (res := u2) g3) (cwV 1 hts gX0_matesSum_X0_mate rfl rfl rfl (by decide +kernel) ⟨Nat.le_of_ble_eq_true rfl, Nat.le_of_ble_eq_true rfl⟩) (ct_preV hn hP hK hN (ci := 0) (k := 40) rfl (by decide) rfl) rfl rfl hl.1 rfl (lv_room (Nat.le_of_ble_eq_true rfl)) dX0_matesSum_18 ⟨Nat.zero_le _, Nat.zero_le _⟩) hS (fun H locs hP hS => ?_)
        refine lv_istore_n (lv' := [(3, .int u2), (0, .ref (ad 40)), (1, .int x1), (2, .int x2), (4, .int x4)]) hx hb dX0_matesSum_21 rfl hl (by decide) rfl (fun ls hl => ?_)
        refine lv_aload_n hx hb dX0_matesSum_22 rfl (lv_at hl 1 rfl) ?_
        refine lv_iload_n hx hb dX0_matesSum_23 rfl (lv_at hl 3 rfl) ?_
        refine lv_iload_n hx hb dX0_matesSum_24 rfl (lv_at hl 0 rfl) ?_
        obtain ⟨u4, g5, hf⟩ := Option.bind_eq_some_iff.mp hf
        try dsimp only at hf
        refine ct_call (va_runV (As := [.int x2, .int u2]) (rest := []) ⟨hx, hb, hml, hown, hts⟩ (C_X0_plus l D tys nw hn hnw hj htI htR (res := u4) g5) (cwV 2 hts gX0_matesSum_X0_plus rfl rfl rfl (by decide +kernel) ⟨Nat.le_of_ble_eq_true rfl, Nat.le_of_ble_eq_true rfl⟩) (ct_preV hn hP hK hN (ci := 0) (k := 40) rfl (by decide) rfl) rfl rfl hl.1 rfl (lv_room (Nat.le_of_ble_eq_true rfl)) dX0_matesSum_25 ⟨Nat.zero_le _, Nat.zero_le _⟩) hS (fun H locs hP hS => ?_)
        refine lv_istore_n (lv' := [(2, .int u4), (3, .int u2), (0, .ref (ad 40)), (1, .int x1), (4, .int x4)]) hx hb dX0_matesSum_28 rfl hl (by decide) rfl (fun ls hl => ?_)
        refine lv_iinc (v := x4 + 1) (lv' := [(4, .int (x4 + 1)), (2, .int u4), (3, .int u2), (0, .ref (ad 40)), (1, .int x1)]) hx hb dX0_matesSum_29 hl (k := 4) rfl rfl (by decide) rfl (fun ls hl => ?_)
        refine lv_goto (tgt := 7) hx hb dX0_matesSum_32 (by decide) ?_
        exact ih u4 u2 (x4 + 1) _ _ _ hP hS (lv_sub hl [3, 4, 1, 2, 0] rfl) hf
  unfold f_X0_matesSum at hf
  refine lv_iload_n hx hb dX0_matesSum_0 rfl (lv_at hl 1 rfl) ?_
  refine lv_istore_n (lv' := [(2, .int p0), (0, .ref (ad 40)), (1, .int p0)]) hx hb dX0_matesSum_1 rfl hl (by decide) rfl (fun ls hl => ?_)
  refine lv_iload_n hx hb dX0_matesSum_2 rfl (lv_at hl 2 rfl) ?_
  refine lv_istore_n (lv' := [(3, .int p0), (2, .int p0), (0, .ref (ad 40)), (1, .int p0)]) hx hb dX0_matesSum_3 rfl hl (by decide) rfl (fun ls hl => ?_)
  refine lv_iconst (v := 1) hx hb dX0_matesSum_4 (by decide) ?_
  refine lv_istore (lv' := [(4, .int 1), (3, .int p0), (2, .int p0), (0, .ref (ad 40)), (1, .int p0)]) hx hb dX0_matesSum_5 hl (by decide) rfl (fun ls hl => ?_)
  refine L7 p0 _ (fun y6 y7 y8 H locs ls hP hS hl hf => ?_) fu p0 p0 1 _ _ _ hP hS (lv_sub hl [3, 4, 2, 1, 0] rfl) hf
  try dsimp only at hf
  refine lv_iload_n hx hb dX0_matesSum_35 rfl (lv_at hl 2 rfl) ?_
  obtain rfl := Option.some.inj hf
  exact W.iret (v := y6) hx hb hr (fun t ht hW => ⟨rfl, by rw [ht]; exact hP, hS.F ht⟩) hS.2.2 dX0_matesSum_36
def f_X0_differentMates (E : Nat → Int32) (p0 : Int32) : Option (Int32) :=
  (f_X0_mate E p0).bind (fun u1 =>
  if u1 = p0 then
    some 1
  else
    some (E 0))
set_option maxHeartbeats 4000000 in
set_option maxRecDepth 100000 in
theorem C_X0_differentMates (l : Launch) (D : va_G) (tys : List (ClassId × FieldType)) (nw : List Cond) (hn : nw.all nw_kind = true) (hnw : ∀ w ∈ nw0, w ∈ nw) {ad : Nat → Nat} (hj : ww_inj 46 ad) {cI : ClassId} {cR : ClassId} (htI : tys[0]? = some (cI, .int)) (htR : tys[1]? = some (cR, .object RX2)) {M : Fin 20 → Nat → Int32} {E : Nat → Int32} {P : Nat → Fin 20} {C : Nat → Int32} {N : Nat → Int32} {p0 : Int32} {res : Int32} (hf : f_X0_differentMates E p0 = some res) :
    Met l yX0_differentMates wsX0_differentMates ({ frames := 2, cells := 0, slots := 0, locals := 57 }) (va_Pc [.ref (ad 40), .int p0] (ws_B D tys nw (ww 46 ad (cellC cI cR ad M E P C N)))) (ct_Q D (ww 46 ad (cellC cI cR ad M E P C N)) (ww_A 46 ad) (some (.int res))) 0 0 (ww_A 46 ad) := by
  refine Met.ofW (cc := cX0_differentMates) (maxL := 2) (ret := (some .int)) (by decide) rfl ?_
  intro p e s m args below meth c s₁ B hml hv
  obtain ⟨rfl, hP, hK, hN⟩ := hv
  have hx := B.exec
  have hb := B.bytes
  have hr := B.returns
  have hts := atoms_spec (ws := wsX0_differentMates) B.pre
  have hown : s.vm.findClass RX0 = some m.cls := findClass_of_methodNamed B.named
  have hlocks := B.notSynchronized
  have hS : va_S (ww_A 46 ad) s.heap s.heap [] := va_S.rf
  have hl := lv_entry ([.ref (ad 40), .int p0]) (n := 2) (Nat.le_of_ble_eq_true rfl)
  rw [lg_entry_eq]
  generalize (lg_sl ([.ref (ad 40), .int p0]) ++ List.replicate (2 - (lg_sl ([.ref (ad 40), .int p0])).length) Slot.unset).toArray = ls at hl ⊢
  have hl : lv_has ls 2 [(0, .ref (ad 40)), (1, .int p0)] := hl
  unfold f_X0_differentMates at hf
  refine lv_aload_n hx hb dX0_differentMates_0 rfl (lv_at hl 0 rfl) ?_
  refine lv_iload_n hx hb dX0_differentMates_1 rfl (lv_at hl 1 rfl) ?_
  obtain ⟨u1, g2, hf⟩ := Option.bind_eq_some_iff.mp hf
  try dsimp only at hf
  refine ct_call (va_runV (As := [.int p0]) (rest := []) ⟨hx, hb, hml, hown, hts⟩ (C_X0_mate l D tys nw hn hnw hj htI htR (res := u1) g2) (cwV 1 hts gX0_differentMates_X0_mate rfl rfl rfl (by decide +kernel) ⟨Nat.le_of_ble_eq_true rfl, Nat.le_of_ble_eq_true rfl⟩) (ct_preV hn hP hK hN (ci := 0) (k := 40) rfl (by decide) rfl) rfl rfl hl.1 rfl (lv_room (Nat.le_of_ble_eq_true rfl)) dX0_differentMates_2 ⟨Nat.zero_le _, Nat.zero_le _⟩) hS (fun H locs hP hS => ?_)
  refine lv_iload_n hx hb dX0_differentMates_5 rfl (lv_at hl 1 rfl) ?_
  refine lv_icmp_ne (tgt := 13) hx hb dX0_differentMates_6 (by decide) (fun c3 => ?_) (fun c3 => ?_)
  · rw [if_neg c3] at hf
    refine lv_aload_n hx hb dX0_differentMates_13 rfl (lv_at hl 0 rfl) ?_
    refine va_get (ci := 0) (v := .int (E 0)) (C := RX0) (T := TX0) (N := 8) hx hb hts (by decide +kernel) hown hK hP 40 cc_ext rfl 0 (by decide) (hts (.fieldLink RX0 9 "NumberFieldFactors$Extension" "degree" "I") (by decide +kernel)) (fun _ h9 => h9) rfl dX0_differentMates_14 ?_
    obtain rfl := Option.some.inj hf
    exact W.iret (v := E 0) hx hb hr (fun t ht hW => ⟨rfl, by rw [ht]; exact hP, hS.F ht⟩) hS.2.2 dX0_differentMates_17
  · rw [if_pos c3] at hf
    refine lv_iconst (v := 1) hx hb dX0_differentMates_9 (by decide) ?_
    refine lv_goto (tgt := 17) hx hb dX0_differentMates_10 (by decide) ?_
    obtain rfl := Option.some.inj hf
    exact W.iret (v := 1) hx hb hr (fun t ht hW => ⟨rfl, by rw [ht]; exact hP, hS.F ht⟩) hS.2.2 dX0_differentMates_17
def f_X0_become (fu : Nat) (E : Nat → Int32) (p0 : Int32) (p1 : Int32) (p2 : Int32) (p3 : Int32) : Option (Int32 × (Nat → Int32)) :=
  if p0 ≤ 1 then
    if p0 ≤ 2 then
      if p0 ≤ 1 then
        if p0 = 1 then
          if p0 = 1 then
            (f_X0_power fu (va_up (va_up (va_up (va_up (va_up (va_up E 0 p0) 1 101) 2 p1) 3 0) 4 0) 5 (jrem (101 - p1) 101)) ((va_up (va_up (va_up (va_up (va_up (va_up E 0 p0) 1 101) 2 p1) 3 0) 4 0) 5 (jrem (101 - p1) 101)) 5) 101).bind (fun u29 =>
            (f_X0_times (va_up (va_up (va_up (va_up (va_up (va_up (va_up E 0 p0) 1 101) 2 p1) 3 0) 4 0) 5 (jrem (101 - p1) 101)) 6 u29) ((va_up (va_up (va_up (va_up (va_up (va_up (va_up E 0 p0) 1 101) 2 p1) 3 0) 4 0) 5 (jrem (101 - p1) 101)) 6 u29) 6) ((va_up (va_up (va_up (va_up (va_up (va_up (va_up E 0 p0) 1 101) 2 p1) 3 0) 4 0) 5 (jrem (101 - p1) 101)) 6 u29) 6)).bind (fun u31 =>
            some (1, va_up (va_up (va_up (va_up (va_up (va_up (va_up (va_up E 0 p0) 1 101) 2 p1) 3 0) 4 0) 5 (jrem (101 - p1) 101)) 6 u29) 7 u31)))
          else
            (f_X0_power fu (va_up (va_up (va_up (va_up (va_up (va_up E 0 p0) 1 101) 2 p1) 3 0) 4 0) 5 101) ((va_up (va_up (va_up (va_up (va_up (va_up E 0 p0) 1 101) 2 p1) 3 0) 4 0) 5 101) 5) 101).bind (fun u25 =>
            (f_X0_times (va_up (va_up (va_up (va_up (va_up (va_up (va_up E 0 p0) 1 101) 2 p1) 3 0) 4 0) 5 101) 6 u25) ((va_up (va_up (va_up (va_up (va_up (va_up (va_up E 0 p0) 1 101) 2 p1) 3 0) 4 0) 5 101) 6 u25) 6) ((va_up (va_up (va_up (va_up (va_up (va_up (va_up E 0 p0) 1 101) 2 p1) 3 0) 4 0) 5 101) 6 u25) 6)).bind (fun u27 =>
            some (1, va_up (va_up (va_up (va_up (va_up (va_up (va_up (va_up E 0 p0) 1 101) 2 p1) 3 0) 4 0) 5 101) 6 u25) 7 u27)))
        else
          if p0 = 2 then
            if p0 = 1 then
              (f_X0_power fu (va_up (va_up (va_up (va_up (va_up (va_up E 0 p0) 1 10201) 2 p1) 3 0) 4 0) 5 (jrem (101 - p1) 101)) ((va_up (va_up (va_up (va_up (va_up (va_up E 0 p0) 1 10201) 2 p1) 3 0) 4 0) 5 (jrem (101 - p1) 101)) 5) 101).bind (fun u20 =>
              (f_X0_times (va_up (va_up (va_up (va_up (va_up (va_up (va_up E 0 p0) 1 10201) 2 p1) 3 0) 4 0) 5 (jrem (101 - p1) 101)) 6 u20) ((va_up (va_up (va_up (va_up (va_up (va_up (va_up E 0 p0) 1 10201) 2 p1) 3 0) 4 0) 5 (jrem (101 - p1) 101)) 6 u20) 6) ((va_up (va_up (va_up (va_up (va_up (va_up (va_up E 0 p0) 1 10201) 2 p1) 3 0) 4 0) 5 (jrem (101 - p1) 101)) 6 u20) 6)).bind (fun u22 =>
              some (1, va_up (va_up (va_up (va_up (va_up (va_up (va_up (va_up E 0 p0) 1 10201) 2 p1) 3 0) 4 0) 5 (jrem (101 - p1) 101)) 6 u20) 7 u22)))
            else
              (f_X0_power fu (va_up (va_up (va_up (va_up (va_up (va_up E 0 p0) 1 10201) 2 p1) 3 0) 4 0) 5 101) ((va_up (va_up (va_up (va_up (va_up (va_up E 0 p0) 1 10201) 2 p1) 3 0) 4 0) 5 101) 5) 101).bind (fun u16 =>
              (f_X0_times (va_up (va_up (va_up (va_up (va_up (va_up (va_up E 0 p0) 1 10201) 2 p1) 3 0) 4 0) 5 101) 6 u16) ((va_up (va_up (va_up (va_up (va_up (va_up (va_up E 0 p0) 1 10201) 2 p1) 3 0) 4 0) 5 101) 6 u16) 6) ((va_up (va_up (va_up (va_up (va_up (va_up (va_up E 0 p0) 1 10201) 2 p1) 3 0) 4 0) 5 101) 6 u16) 6)).bind (fun u18 =>
              some (1, va_up (va_up (va_up (va_up (va_up (va_up (va_up (va_up E 0 p0) 1 10201) 2 p1) 3 0) 4 0) 5 101) 6 u16) 7 u18)))
          else
            if p0 = 1 then
              (f_X0_power fu (va_up (va_up (va_up (va_up (va_up (va_up E 0 p0) 1 1030301) 2 p1) 3 0) 4 0) 5 (jrem (101 - p1) 101)) ((va_up (va_up (va_up (va_up (va_up (va_up E 0 p0) 1 1030301) 2 p1) 3 0) 4 0) 5 (jrem (101 - p1) 101)) 5) 101).bind (fun u11 =>
              (f_X0_times (va_up (va_up (va_up (va_up (va_up (va_up (va_up E 0 p0) 1 1030301) 2 p1) 3 0) 4 0) 5 (jrem (101 - p1) 101)) 6 u11) ((va_up (va_up (va_up (va_up (va_up (va_up (va_up E 0 p0) 1 1030301) 2 p1) 3 0) 4 0) 5 (jrem (101 - p1) 101)) 6 u11) 6) ((va_up (va_up (va_up (va_up (va_up (va_up (va_up E 0 p0) 1 1030301) 2 p1) 3 0) 4 0) 5 (jrem (101 - p1) 101)) 6 u11) 6)).bind (fun u13 =>
              some (1, va_up (va_up (va_up (va_up (va_up (va_up (va_up (va_up E 0 p0) 1 1030301) 2 p1) 3 0) 4 0) 5 (jrem (101 - p1) 101)) 6 u11) 7 u13)))
            else
              (f_X0_power fu (va_up (va_up (va_up (va_up (va_up (va_up E 0 p0) 1 1030301) 2 p1) 3 0) 4 0) 5 101) ((va_up (va_up (va_up (va_up (va_up (va_up E 0 p0) 1 1030301) 2 p1) 3 0) 4 0) 5 101) 5) 101).bind (fun u7 =>
              (f_X0_times (va_up (va_up (va_up (va_up (va_up (va_up (va_up E 0 p0) 1 1030301) 2 p1) 3 0) 4 0) 5 101) 6 u7) ((va_up (va_up (va_up (va_up (va_up (va_up (va_up E 0 p0) 1 1030301) 2 p1) 3 0) 4 0) 5 101) 6 u7) 6) ((va_up (va_up (va_up (va_up (va_up (va_up (va_up E 0 p0) 1 1030301) 2 p1) 3 0) 4 0) 5 101) 6 u7) 6)).bind (fun u9 =>
              some (1, va_up (va_up (va_up (va_up (va_up (va_up (va_up (va_up E 0 p0) 1 1030301) 2 p1) 3 0) 4 0) 5 101) 6 u7) 7 u9)))
      else
        (f_X0_hasRoot fu p0 p1 0 0).bind (fun u33 =>
        if u33 = 0 then
          if p0 = 1 then
            if p0 = 1 then
              (f_X0_power fu (va_up (va_up (va_up (va_up (va_up (va_up E 0 p0) 1 101) 2 p1) 3 0) 4 0) 5 (jrem (101 - p1) 101)) ((va_up (va_up (va_up (va_up (va_up (va_up E 0 p0) 1 101) 2 p1) 3 0) 4 0) 5 (jrem (101 - p1) 101)) 5) 101).bind (fun u61 =>
              (f_X0_times (va_up (va_up (va_up (va_up (va_up (va_up (va_up E 0 p0) 1 101) 2 p1) 3 0) 4 0) 5 (jrem (101 - p1) 101)) 6 u61) ((va_up (va_up (va_up (va_up (va_up (va_up (va_up E 0 p0) 1 101) 2 p1) 3 0) 4 0) 5 (jrem (101 - p1) 101)) 6 u61) 6) ((va_up (va_up (va_up (va_up (va_up (va_up (va_up E 0 p0) 1 101) 2 p1) 3 0) 4 0) 5 (jrem (101 - p1) 101)) 6 u61) 6)).bind (fun u63 =>
              some (1, va_up (va_up (va_up (va_up (va_up (va_up (va_up (va_up E 0 p0) 1 101) 2 p1) 3 0) 4 0) 5 (jrem (101 - p1) 101)) 6 u61) 7 u63)))
            else
              (f_X0_power fu (va_up (va_up (va_up (va_up (va_up (va_up E 0 p0) 1 101) 2 p1) 3 0) 4 0) 5 101) ((va_up (va_up (va_up (va_up (va_up (va_up E 0 p0) 1 101) 2 p1) 3 0) 4 0) 5 101) 5) 101).bind (fun u57 =>
              (f_X0_times (va_up (va_up (va_up (va_up (va_up (va_up (va_up E 0 p0) 1 101) 2 p1) 3 0) 4 0) 5 101) 6 u57) ((va_up (va_up (va_up (va_up (va_up (va_up (va_up E 0 p0) 1 101) 2 p1) 3 0) 4 0) 5 101) 6 u57) 6) ((va_up (va_up (va_up (va_up (va_up (va_up (va_up E 0 p0) 1 101) 2 p1) 3 0) 4 0) 5 101) 6 u57) 6)).bind (fun u59 =>
              some (1, va_up (va_up (va_up (va_up (va_up (va_up (va_up (va_up E 0 p0) 1 101) 2 p1) 3 0) 4 0) 5 101) 6 u57) 7 u59)))
          else
            if p0 = 2 then
              if p0 = 1 then
                (f_X0_power fu (va_up (va_up (va_up (va_up (va_up (va_up E 0 p0) 1 10201) 2 p1) 3 0) 4 0) 5 (jrem (101 - p1) 101)) ((va_up (va_up (va_up (va_up (va_up (va_up E 0 p0) 1 10201) 2 p1) 3 0) 4 0) 5 (jrem (101 - p1) 101)) 5) 101).bind (fun u52 =>
                (f_X0_times (va_up (va_up (va_up (va_up (va_up (va_up (va_up E 0 p0) 1 10201) 2 p1) 3 0) 4 0) 5 (jrem (101 - p1) 101)) 6 u52) ((va_up (va_up (va_up (va_up (va_up (va_up (va_up E 0 p0) 1 10201) 2 p1) 3 0) 4 0) 5 (jrem (101 - p1) 101)) 6 u52) 6) ((va_up (va_up (va_up (va_up (va_up (va_up (va_up E 0 p0) 1 10201) 2 p1) 3 0) 4 0) 5 (jrem (101 - p1) 101)) 6 u52) 6)).bind (fun u54 =>
                some (1, va_up (va_up (va_up (va_up (va_up (va_up (va_up (va_up E 0 p0) 1 10201) 2 p1) 3 0) 4 0) 5 (jrem (101 - p1) 101)) 6 u52) 7 u54)))
              else
                (f_X0_power fu (va_up (va_up (va_up (va_up (va_up (va_up E 0 p0) 1 10201) 2 p1) 3 0) 4 0) 5 101) ((va_up (va_up (va_up (va_up (va_up (va_up E 0 p0) 1 10201) 2 p1) 3 0) 4 0) 5 101) 5) 101).bind (fun u48 =>
                (f_X0_times (va_up (va_up (va_up (va_up (va_up (va_up (va_up E 0 p0) 1 10201) 2 p1) 3 0) 4 0) 5 101) 6 u48) ((va_up (va_up (va_up (va_up (va_up (va_up (va_up E 0 p0) 1 10201) 2 p1) 3 0) 4 0) 5 101) 6 u48) 6) ((va_up (va_up (va_up (va_up (va_up (va_up (va_up E 0 p0) 1 10201) 2 p1) 3 0) 4 0) 5 101) 6 u48) 6)).bind (fun u50 =>
                some (1, va_up (va_up (va_up (va_up (va_up (va_up (va_up (va_up E 0 p0) 1 10201) 2 p1) 3 0) 4 0) 5 101) 6 u48) 7 u50)))
            else
              if p0 = 1 then
                (f_X0_power fu (va_up (va_up (va_up (va_up (va_up (va_up E 0 p0) 1 1030301) 2 p1) 3 0) 4 0) 5 (jrem (101 - p1) 101)) ((va_up (va_up (va_up (va_up (va_up (va_up E 0 p0) 1 1030301) 2 p1) 3 0) 4 0) 5 (jrem (101 - p1) 101)) 5) 101).bind (fun u43 =>
                (f_X0_times (va_up (va_up (va_up (va_up (va_up (va_up (va_up E 0 p0) 1 1030301) 2 p1) 3 0) 4 0) 5 (jrem (101 - p1) 101)) 6 u43) ((va_up (va_up (va_up (va_up (va_up (va_up (va_up E 0 p0) 1 1030301) 2 p1) 3 0) 4 0) 5 (jrem (101 - p1) 101)) 6 u43) 6) ((va_up (va_up (va_up (va_up (va_up (va_up (va_up E 0 p0) 1 1030301) 2 p1) 3 0) 4 0) 5 (jrem (101 - p1) 101)) 6 u43) 6)).bind (fun u45 =>
                some (1, va_up (va_up (va_up (va_up (va_up (va_up (va_up (va_up E 0 p0) 1 1030301) 2 p1) 3 0) 4 0) 5 (jrem (101 - p1) 101)) 6 u43) 7 u45)))
              else
                (f_X0_power fu (va_up (va_up (va_up (va_up (va_up (va_up E 0 p0) 1 1030301) 2 p1) 3 0) 4 0) 5 101) ((va_up (va_up (va_up (va_up (va_up (va_up E 0 p0) 1 1030301) 2 p1) 3 0) 4 0) 5 101) 5) 101).bind (fun u39 =>
                (f_X0_times (va_up (va_up (va_up (va_up (va_up (va_up (va_up E 0 p0) 1 1030301) 2 p1) 3 0) 4 0) 5 101) 6 u39) ((va_up (va_up (va_up (va_up (va_up (va_up (va_up E 0 p0) 1 1030301) 2 p1) 3 0) 4 0) 5 101) 6 u39) 6) ((va_up (va_up (va_up (va_up (va_up (va_up (va_up E 0 p0) 1 1030301) 2 p1) 3 0) 4 0) 5 101) 6 u39) 6)).bind (fun u41 =>
                some (1, va_up (va_up (va_up (va_up (va_up (va_up (va_up (va_up E 0 p0) 1 1030301) 2 p1) 3 0) 4 0) 5 101) 6 u39) 7 u41)))
        else
          some (0, E))
    else
      if p0 ≤ 1 then
        if p0 = 1 then
          if p0 = 1 then
            (f_X0_power fu (va_up (va_up (va_up (va_up (va_up (va_up E 0 p0) 1 101) 2 p1) 3 0) 4 p3) 5 (jrem (101 - p1) 101)) ((va_up (va_up (va_up (va_up (va_up (va_up E 0 p0) 1 101) 2 p1) 3 0) 4 p3) 5 (jrem (101 - p1) 101)) 5) 101).bind (fun u91 =>
            (f_X0_times (va_up (va_up (va_up (va_up (va_up (va_up (va_up E 0 p0) 1 101) 2 p1) 3 0) 4 p3) 5 (jrem (101 - p1) 101)) 6 u91) ((va_up (va_up (va_up (va_up (va_up (va_up (va_up E 0 p0) 1 101) 2 p1) 3 0) 4 p3) 5 (jrem (101 - p1) 101)) 6 u91) 6) ((va_up (va_up (va_up (va_up (va_up (va_up (va_up E 0 p0) 1 101) 2 p1) 3 0) 4 p3) 5 (jrem (101 - p1) 101)) 6 u91) 6)).bind (fun u93 =>
            some (1, va_up (va_up (va_up (va_up (va_up (va_up (va_up (va_up E 0 p0) 1 101) 2 p1) 3 0) 4 p3) 5 (jrem (101 - p1) 101)) 6 u91) 7 u93)))
          else
            (f_X0_power fu (va_up (va_up (va_up (va_up (va_up (va_up E 0 p0) 1 101) 2 p1) 3 0) 4 p3) 5 101) ((va_up (va_up (va_up (va_up (va_up (va_up E 0 p0) 1 101) 2 p1) 3 0) 4 p3) 5 101) 5) 101).bind (fun u87 =>
            (f_X0_times (va_up (va_up (va_up (va_up (va_up (va_up (va_up E 0 p0) 1 101) 2 p1) 3 0) 4 p3) 5 101) 6 u87) ((va_up (va_up (va_up (va_up (va_up (va_up (va_up E 0 p0) 1 101) 2 p1) 3 0) 4 p3) 5 101) 6 u87) 6) ((va_up (va_up (va_up (va_up (va_up (va_up (va_up E 0 p0) 1 101) 2 p1) 3 0) 4 p3) 5 101) 6 u87) 6)).bind (fun u89 =>
            some (1, va_up (va_up (va_up (va_up (va_up (va_up (va_up (va_up E 0 p0) 1 101) 2 p1) 3 0) 4 p3) 5 101) 6 u87) 7 u89)))
        else
          if p0 = 2 then
            if p0 = 1 then
              (f_X0_power fu (va_up (va_up (va_up (va_up (va_up (va_up E 0 p0) 1 10201) 2 p1) 3 0) 4 p3) 5 (jrem (101 - p1) 101)) ((va_up (va_up (va_up (va_up (va_up (va_up E 0 p0) 1 10201) 2 p1) 3 0) 4 p3) 5 (jrem (101 - p1) 101)) 5) 101).bind (fun u82 =>
              (f_X0_times (va_up (va_up (va_up (va_up (va_up (va_up (va_up E 0 p0) 1 10201) 2 p1) 3 0) 4 p3) 5 (jrem (101 - p1) 101)) 6 u82) ((va_up (va_up (va_up (va_up (va_up (va_up (va_up E 0 p0) 1 10201) 2 p1) 3 0) 4 p3) 5 (jrem (101 - p1) 101)) 6 u82) 6) ((va_up (va_up (va_up (va_up (va_up (va_up (va_up E 0 p0) 1 10201) 2 p1) 3 0) 4 p3) 5 (jrem (101 - p1) 101)) 6 u82) 6)).bind (fun u84 =>
              some (1, va_up (va_up (va_up (va_up (va_up (va_up (va_up (va_up E 0 p0) 1 10201) 2 p1) 3 0) 4 p3) 5 (jrem (101 - p1) 101)) 6 u82) 7 u84)))
            else
              (f_X0_power fu (va_up (va_up (va_up (va_up (va_up (va_up E 0 p0) 1 10201) 2 p1) 3 0) 4 p3) 5 101) ((va_up (va_up (va_up (va_up (va_up (va_up E 0 p0) 1 10201) 2 p1) 3 0) 4 p3) 5 101) 5) 101).bind (fun u78 =>
              (f_X0_times (va_up (va_up (va_up (va_up (va_up (va_up (va_up E 0 p0) 1 10201) 2 p1) 3 0) 4 p3) 5 101) 6 u78) ((va_up (va_up (va_up (va_up (va_up (va_up (va_up E 0 p0) 1 10201) 2 p1) 3 0) 4 p3) 5 101) 6 u78) 6) ((va_up (va_up (va_up (va_up (va_up (va_up (va_up E 0 p0) 1 10201) 2 p1) 3 0) 4 p3) 5 101) 6 u78) 6)).bind (fun u80 =>
              some (1, va_up (va_up (va_up (va_up (va_up (va_up (va_up (va_up E 0 p0) 1 10201) 2 p1) 3 0) 4 p3) 5 101) 6 u78) 7 u80)))
          else
            if p0 = 1 then
              (f_X0_power fu (va_up (va_up (va_up (va_up (va_up (va_up E 0 p0) 1 1030301) 2 p1) 3 0) 4 p3) 5 (jrem (101 - p1) 101)) ((va_up (va_up (va_up (va_up (va_up (va_up E 0 p0) 1 1030301) 2 p1) 3 0) 4 p3) 5 (jrem (101 - p1) 101)) 5) 101).bind (fun u73 =>
              (f_X0_times (va_up (va_up (va_up (va_up (va_up (va_up (va_up E 0 p0) 1 1030301) 2 p1) 3 0) 4 p3) 5 (jrem (101 - p1) 101)) 6 u73) ((va_up (va_up (va_up (va_up (va_up (va_up (va_up E 0 p0) 1 1030301) 2 p1) 3 0) 4 p3) 5 (jrem (101 - p1) 101)) 6 u73) 6) ((va_up (va_up (va_up (va_up (va_up (va_up (va_up E 0 p0) 1 1030301) 2 p1) 3 0) 4 p3) 5 (jrem (101 - p1) 101)) 6 u73) 6)).bind (fun u75 =>
              some (1, va_up (va_up (va_up (va_up (va_up (va_up (va_up (va_up E 0 p0) 1 1030301) 2 p1) 3 0) 4 p3) 5 (jrem (101 - p1) 101)) 6 u73) 7 u75)))
            else
              (f_X0_power fu (va_up (va_up (va_up (va_up (va_up (va_up E 0 p0) 1 1030301) 2 p1) 3 0) 4 p3) 5 101) ((va_up (va_up (va_up (va_up (va_up (va_up E 0 p0) 1 1030301) 2 p1) 3 0) 4 p3) 5 101) 5) 101).bind (fun u69 =>
              (f_X0_times (va_up (va_up (va_up (va_up (va_up (va_up (va_up E 0 p0) 1 1030301) 2 p1) 3 0) 4 p3) 5 101) 6 u69) ((va_up (va_up (va_up (va_up (va_up (va_up (va_up E 0 p0) 1 1030301) 2 p1) 3 0) 4 p3) 5 101) 6 u69) 6) ((va_up (va_up (va_up (va_up (va_up (va_up (va_up E 0 p0) 1 1030301) 2 p1) 3 0) 4 p3) 5 101) 6 u69) 6)).bind (fun u71 =>
              some (1, va_up (va_up (va_up (va_up (va_up (va_up (va_up (va_up E 0 p0) 1 1030301) 2 p1) 3 0) 4 p3) 5 101) 6 u69) 7 u71)))
      else
        (f_X0_hasRoot fu p0 p1 0 p3).bind (fun u95 =>
        if u95 = 0 then
          if p0 = 1 then
            if p0 = 1 then
              (f_X0_power fu (va_up (va_up (va_up (va_up (va_up (va_up E 0 p0) 1 101) 2 p1) 3 0) 4 p3) 5 (jrem (101 - p1) 101)) ((va_up (va_up (va_up (va_up (va_up (va_up E 0 p0) 1 101) 2 p1) 3 0) 4 p3) 5 (jrem (101 - p1) 101)) 5) 101).bind (fun u123 =>
              (f_X0_times (va_up (va_up (va_up (va_up (va_up (va_up (va_up E 0 p0) 1 101) 2 p1) 3 0) 4 p3) 5 (jrem (101 - p1) 101)) 6 u123) ((va_up (va_up (va_up (va_up (va_up (va_up (va_up E 0 p0) 1 101) 2 p1) 3 0) 4 p3) 5 (jrem (101 - p1) 101)) 6 u123) 6) ((va_up (va_up (va_up (va_up (va_up (va_up (va_up E 0 p0) 1 101) 2 p1) 3 0) 4 p3) 5 (jrem (101 - p1) 101)) 6 u123) 6)).bind (fun u125 =>
              some (1, va_up (va_up (va_up (va_up (va_up (va_up (va_up (va_up E 0 p0) 1 101) 2 p1) 3 0) 4 p3) 5 (jrem (101 - p1) 101)) 6 u123) 7 u125)))
            else
              (f_X0_power fu (va_up (va_up (va_up (va_up (va_up (va_up E 0 p0) 1 101) 2 p1) 3 0) 4 p3) 5 101) ((va_up (va_up (va_up (va_up (va_up (va_up E 0 p0) 1 101) 2 p1) 3 0) 4 p3) 5 101) 5) 101).bind (fun u119 =>
              (f_X0_times (va_up (va_up (va_up (va_up (va_up (va_up (va_up E 0 p0) 1 101) 2 p1) 3 0) 4 p3) 5 101) 6 u119) ((va_up (va_up (va_up (va_up (va_up (va_up (va_up E 0 p0) 1 101) 2 p1) 3 0) 4 p3) 5 101) 6 u119) 6) ((va_up (va_up (va_up (va_up (va_up (va_up (va_up E 0 p0) 1 101) 2 p1) 3 0) 4 p3) 5 101) 6 u119) 6)).bind (fun u121 =>
              some (1, va_up (va_up (va_up (va_up (va_up (va_up (va_up (va_up E 0 p0) 1 101) 2 p1) 3 0) 4 p3) 5 101) 6 u119) 7 u121)))
          else
            if p0 = 2 then
              if p0 = 1 then
                (f_X0_power fu (va_up (va_up (va_up (va_up (va_up (va_up E 0 p0) 1 10201) 2 p1) 3 0) 4 p3) 5 (jrem (101 - p1) 101)) ((va_up (va_up (va_up (va_up (va_up (va_up E 0 p0) 1 10201) 2 p1) 3 0) 4 p3) 5 (jrem (101 - p1) 101)) 5) 101).bind (fun u114 =>
                (f_X0_times (va_up (va_up (va_up (va_up (va_up (va_up (va_up E 0 p0) 1 10201) 2 p1) 3 0) 4 p3) 5 (jrem (101 - p1) 101)) 6 u114) ((va_up (va_up (va_up (va_up (va_up (va_up (va_up E 0 p0) 1 10201) 2 p1) 3 0) 4 p3) 5 (jrem (101 - p1) 101)) 6 u114) 6) ((va_up (va_up (va_up (va_up (va_up (va_up (va_up E 0 p0) 1 10201) 2 p1) 3 0) 4 p3) 5 (jrem (101 - p1) 101)) 6 u114) 6)).bind (fun u116 =>
                some (1, va_up (va_up (va_up (va_up (va_up (va_up (va_up (va_up E 0 p0) 1 10201) 2 p1) 3 0) 4 p3) 5 (jrem (101 - p1) 101)) 6 u114) 7 u116)))
              else
                (f_X0_power fu (va_up (va_up (va_up (va_up (va_up (va_up E 0 p0) 1 10201) 2 p1) 3 0) 4 p3) 5 101) ((va_up (va_up (va_up (va_up (va_up (va_up E 0 p0) 1 10201) 2 p1) 3 0) 4 p3) 5 101) 5) 101).bind (fun u110 =>
                (f_X0_times (va_up (va_up (va_up (va_up (va_up (va_up (va_up E 0 p0) 1 10201) 2 p1) 3 0) 4 p3) 5 101) 6 u110) ((va_up (va_up (va_up (va_up (va_up (va_up (va_up E 0 p0) 1 10201) 2 p1) 3 0) 4 p3) 5 101) 6 u110) 6) ((va_up (va_up (va_up (va_up (va_up (va_up (va_up E 0 p0) 1 10201) 2 p1) 3 0) 4 p3) 5 101) 6 u110) 6)).bind (fun u112 =>
                some (1, va_up (va_up (va_up (va_up (va_up (va_up (va_up (va_up E 0 p0) 1 10201) 2 p1) 3 0) 4 p3) 5 101) 6 u110) 7 u112)))
            else
              if p0 = 1 then
                (f_X0_power fu (va_up (va_up (va_up (va_up (va_up (va_up E 0 p0) 1 1030301) 2 p1) 3 0) 4 p3) 5 (jrem (101 - p1) 101)) ((va_up (va_up (va_up (va_up (va_up (va_up E 0 p0) 1 1030301) 2 p1) 3 0) 4 p3) 5 (jrem (101 - p1) 101)) 5) 101).bind (fun u105 =>
                (f_X0_times (va_up (va_up (va_up (va_up (va_up (va_up (va_up E 0 p0) 1 1030301) 2 p1) 3 0) 4 p3) 5 (jrem (101 - p1) 101)) 6 u105) ((va_up (va_up (va_up (va_up (va_up (va_up (va_up E 0 p0) 1 1030301) 2 p1) 3 0) 4 p3) 5 (jrem (101 - p1) 101)) 6 u105) 6) ((va_up (va_up (va_up (va_up (va_up (va_up (va_up E 0 p0) 1 1030301) 2 p1) 3 0) 4 p3) 5 (jrem (101 - p1) 101)) 6 u105) 6)).bind (fun u107 =>
                some (1, va_up (va_up (va_up (va_up (va_up (va_up (va_up (va_up E 0 p0) 1 1030301) 2 p1) 3 0) 4 p3) 5 (jrem (101 - p1) 101)) 6 u105) 7 u107)))
              else
                (f_X0_power fu (va_up (va_up (va_up (va_up (va_up (va_up E 0 p0) 1 1030301) 2 p1) 3 0) 4 p3) 5 101) ((va_up (va_up (va_up (va_up (va_up (va_up E 0 p0) 1 1030301) 2 p1) 3 0) 4 p3) 5 101) 5) 101).bind (fun u101 =>
                (f_X0_times (va_up (va_up (va_up (va_up (va_up (va_up (va_up E 0 p0) 1 1030301) 2 p1) 3 0) 4 p3) 5 101) 6 u101) ((va_up (va_up (va_up (va_up (va_up (va_up (va_up E 0 p0) 1 1030301) 2 p1) 3 0) 4 p3) 5 101) 6 u101) 6) ((va_up (va_up (va_up (va_up (va_up (va_up (va_up E 0 p0) 1 1030301) 2 p1) 3 0) 4 p3) 5 101) 6 u101) 6)).bind (fun u103 =>
                some (1, va_up (va_up (va_up (va_up (va_up (va_up (va_up (va_up E 0 p0) 1 1030301) 2 p1) 3 0) 4 p3) 5 101) 6 u101) 7 u103)))
        else
          some (0, E))
  else
    if p0 ≤ 2 then
      if p0 ≤ 1 then
        if p0 = 1 then
          if p0 = 1 then
            (f_X0_power fu (va_up (va_up (va_up (va_up (va_up (va_up E 0 p0) 1 101) 2 p1) 3 p2) 4 0) 5 (jrem (101 - p1) 101)) ((va_up (va_up (va_up (va_up (va_up (va_up E 0 p0) 1 101) 2 p1) 3 p2) 4 0) 5 (jrem (101 - p1) 101)) 5) 101).bind (fun u154 =>
            (f_X0_times (va_up (va_up (va_up (va_up (va_up (va_up (va_up E 0 p0) 1 101) 2 p1) 3 p2) 4 0) 5 (jrem (101 - p1) 101)) 6 u154) ((va_up (va_up (va_up (va_up (va_up (va_up (va_up E 0 p0) 1 101) 2 p1) 3 p2) 4 0) 5 (jrem (101 - p1) 101)) 6 u154) 6) ((va_up (va_up (va_up (va_up (va_up (va_up (va_up E 0 p0) 1 101) 2 p1) 3 p2) 4 0) 5 (jrem (101 - p1) 101)) 6 u154) 6)).bind (fun u156 =>
            some (1, va_up (va_up (va_up (va_up (va_up (va_up (va_up (va_up E 0 p0) 1 101) 2 p1) 3 p2) 4 0) 5 (jrem (101 - p1) 101)) 6 u154) 7 u156)))
          else
            (f_X0_power fu (va_up (va_up (va_up (va_up (va_up (va_up E 0 p0) 1 101) 2 p1) 3 p2) 4 0) 5 101) ((va_up (va_up (va_up (va_up (va_up (va_up E 0 p0) 1 101) 2 p1) 3 p2) 4 0) 5 101) 5) 101).bind (fun u150 =>
            (f_X0_times (va_up (va_up (va_up (va_up (va_up (va_up (va_up E 0 p0) 1 101) 2 p1) 3 p2) 4 0) 5 101) 6 u150) ((va_up (va_up (va_up (va_up (va_up (va_up (va_up E 0 p0) 1 101) 2 p1) 3 p2) 4 0) 5 101) 6 u150) 6) ((va_up (va_up (va_up (va_up (va_up (va_up (va_up E 0 p0) 1 101) 2 p1) 3 p2) 4 0) 5 101) 6 u150) 6)).bind (fun u152 =>
            some (1, va_up (va_up (va_up (va_up (va_up (va_up (va_up (va_up E 0 p0) 1 101) 2 p1) 3 p2) 4 0) 5 101) 6 u150) 7 u152)))
        else
          if p0 = 2 then
            if p0 = 1 then
              (f_X0_power fu (va_up (va_up (va_up (va_up (va_up (va_up E 0 p0) 1 10201) 2 p1) 3 p2) 4 0) 5 (jrem (101 - p1) 101)) ((va_up (va_up (va_up (va_up (va_up (va_up E 0 p0) 1 10201) 2 p1) 3 p2) 4 0) 5 (jrem (101 - p1) 101)) 5) 101).bind (fun u145 =>
              (f_X0_times (va_up (va_up (va_up (va_up (va_up (va_up (va_up E 0 p0) 1 10201) 2 p1) 3 p2) 4 0) 5 (jrem (101 - p1) 101)) 6 u145) ((va_up (va_up (va_up (va_up (va_up (va_up (va_up E 0 p0) 1 10201) 2 p1) 3 p2) 4 0) 5 (jrem (101 - p1) 101)) 6 u145) 6) ((va_up (va_up (va_up (va_up (va_up (va_up (va_up E 0 p0) 1 10201) 2 p1) 3 p2) 4 0) 5 (jrem (101 - p1) 101)) 6 u145) 6)).bind (fun u147 =>
              some (1, va_up (va_up (va_up (va_up (va_up (va_up (va_up (va_up E 0 p0) 1 10201) 2 p1) 3 p2) 4 0) 5 (jrem (101 - p1) 101)) 6 u145) 7 u147)))
            else
              (f_X0_power fu (va_up (va_up (va_up (va_up (va_up (va_up E 0 p0) 1 10201) 2 p1) 3 p2) 4 0) 5 101) ((va_up (va_up (va_up (va_up (va_up (va_up E 0 p0) 1 10201) 2 p1) 3 p2) 4 0) 5 101) 5) 101).bind (fun u141 =>
              (f_X0_times (va_up (va_up (va_up (va_up (va_up (va_up (va_up E 0 p0) 1 10201) 2 p1) 3 p2) 4 0) 5 101) 6 u141) ((va_up (va_up (va_up (va_up (va_up (va_up (va_up E 0 p0) 1 10201) 2 p1) 3 p2) 4 0) 5 101) 6 u141) 6) ((va_up (va_up (va_up (va_up (va_up (va_up (va_up E 0 p0) 1 10201) 2 p1) 3 p2) 4 0) 5 101) 6 u141) 6)).bind (fun u143 =>
              some (1, va_up (va_up (va_up (va_up (va_up (va_up (va_up (va_up E 0 p0) 1 10201) 2 p1) 3 p2) 4 0) 5 101) 6 u141) 7 u143)))
          else
            if p0 = 1 then
              (f_X0_power fu (va_up (va_up (va_up (va_up (va_up (va_up E 0 p0) 1 1030301) 2 p1) 3 p2) 4 0) 5 (jrem (101 - p1) 101)) ((va_up (va_up (va_up (va_up (va_up (va_up E 0 p0) 1 1030301) 2 p1) 3 p2) 4 0) 5 (jrem (101 - p1) 101)) 5) 101).bind (fun u136 =>
              (f_X0_times (va_up (va_up (va_up (va_up (va_up (va_up (va_up E 0 p0) 1 1030301) 2 p1) 3 p2) 4 0) 5 (jrem (101 - p1) 101)) 6 u136) ((va_up (va_up (va_up (va_up (va_up (va_up (va_up E 0 p0) 1 1030301) 2 p1) 3 p2) 4 0) 5 (jrem (101 - p1) 101)) 6 u136) 6) ((va_up (va_up (va_up (va_up (va_up (va_up (va_up E 0 p0) 1 1030301) 2 p1) 3 p2) 4 0) 5 (jrem (101 - p1) 101)) 6 u136) 6)).bind (fun u138 =>
              some (1, va_up (va_up (va_up (va_up (va_up (va_up (va_up (va_up E 0 p0) 1 1030301) 2 p1) 3 p2) 4 0) 5 (jrem (101 - p1) 101)) 6 u136) 7 u138)))
            else
              (f_X0_power fu (va_up (va_up (va_up (va_up (va_up (va_up E 0 p0) 1 1030301) 2 p1) 3 p2) 4 0) 5 101) ((va_up (va_up (va_up (va_up (va_up (va_up E 0 p0) 1 1030301) 2 p1) 3 p2) 4 0) 5 101) 5) 101).bind (fun u132 =>
              (f_X0_times (va_up (va_up (va_up (va_up (va_up (va_up (va_up E 0 p0) 1 1030301) 2 p1) 3 p2) 4 0) 5 101) 6 u132) ((va_up (va_up (va_up (va_up (va_up (va_up (va_up E 0 p0) 1 1030301) 2 p1) 3 p2) 4 0) 5 101) 6 u132) 6) ((va_up (va_up (va_up (va_up (va_up (va_up (va_up E 0 p0) 1 1030301) 2 p1) 3 p2) 4 0) 5 101) 6 u132) 6)).bind (fun u134 =>
              some (1, va_up (va_up (va_up (va_up (va_up (va_up (va_up (va_up E 0 p0) 1 1030301) 2 p1) 3 p2) 4 0) 5 101) 6 u132) 7 u134)))
      else
        (f_X0_hasRoot fu p0 p1 p2 0).bind (fun u158 =>
        if u158 = 0 then
          if p0 = 1 then
            if p0 = 1 then
              (f_X0_power fu (va_up (va_up (va_up (va_up (va_up (va_up E 0 p0) 1 101) 2 p1) 3 p2) 4 0) 5 (jrem (101 - p1) 101)) ((va_up (va_up (va_up (va_up (va_up (va_up E 0 p0) 1 101) 2 p1) 3 p2) 4 0) 5 (jrem (101 - p1) 101)) 5) 101).bind (fun u186 =>
              (f_X0_times (va_up (va_up (va_up (va_up (va_up (va_up (va_up E 0 p0) 1 101) 2 p1) 3 p2) 4 0) 5 (jrem (101 - p1) 101)) 6 u186) ((va_up (va_up (va_up (va_up (va_up (va_up (va_up E 0 p0) 1 101) 2 p1) 3 p2) 4 0) 5 (jrem (101 - p1) 101)) 6 u186) 6) ((va_up (va_up (va_up (va_up (va_up (va_up (va_up E 0 p0) 1 101) 2 p1) 3 p2) 4 0) 5 (jrem (101 - p1) 101)) 6 u186) 6)).bind (fun u188 =>
              some (1, va_up (va_up (va_up (va_up (va_up (va_up (va_up (va_up E 0 p0) 1 101) 2 p1) 3 p2) 4 0) 5 (jrem (101 - p1) 101)) 6 u186) 7 u188)))
            else
              (f_X0_power fu (va_up (va_up (va_up (va_up (va_up (va_up E 0 p0) 1 101) 2 p1) 3 p2) 4 0) 5 101) ((va_up (va_up (va_up (va_up (va_up (va_up E 0 p0) 1 101) 2 p1) 3 p2) 4 0) 5 101) 5) 101).bind (fun u182 =>
              (f_X0_times (va_up (va_up (va_up (va_up (va_up (va_up (va_up E 0 p0) 1 101) 2 p1) 3 p2) 4 0) 5 101) 6 u182) ((va_up (va_up (va_up (va_up (va_up (va_up (va_up E 0 p0) 1 101) 2 p1) 3 p2) 4 0) 5 101) 6 u182) 6) ((va_up (va_up (va_up (va_up (va_up (va_up (va_up E 0 p0) 1 101) 2 p1) 3 p2) 4 0) 5 101) 6 u182) 6)).bind (fun u184 =>
              some (1, va_up (va_up (va_up (va_up (va_up (va_up (va_up (va_up E 0 p0) 1 101) 2 p1) 3 p2) 4 0) 5 101) 6 u182) 7 u184)))
          else
            if p0 = 2 then
              if p0 = 1 then
                (f_X0_power fu (va_up (va_up (va_up (va_up (va_up (va_up E 0 p0) 1 10201) 2 p1) 3 p2) 4 0) 5 (jrem (101 - p1) 101)) ((va_up (va_up (va_up (va_up (va_up (va_up E 0 p0) 1 10201) 2 p1) 3 p2) 4 0) 5 (jrem (101 - p1) 101)) 5) 101).bind (fun u177 =>
                (f_X0_times (va_up (va_up (va_up (va_up (va_up (va_up (va_up E 0 p0) 1 10201) 2 p1) 3 p2) 4 0) 5 (jrem (101 - p1) 101)) 6 u177) ((va_up (va_up (va_up (va_up (va_up (va_up (va_up E 0 p0) 1 10201) 2 p1) 3 p2) 4 0) 5 (jrem (101 - p1) 101)) 6 u177) 6) ((va_up (va_up (va_up (va_up (va_up (va_up (va_up E 0 p0) 1 10201) 2 p1) 3 p2) 4 0) 5 (jrem (101 - p1) 101)) 6 u177) 6)).bind (fun u179 =>
                some (1, va_up (va_up (va_up (va_up (va_up (va_up (va_up (va_up E 0 p0) 1 10201) 2 p1) 3 p2) 4 0) 5 (jrem (101 - p1) 101)) 6 u177) 7 u179)))
              else
                (f_X0_power fu (va_up (va_up (va_up (va_up (va_up (va_up E 0 p0) 1 10201) 2 p1) 3 p2) 4 0) 5 101) ((va_up (va_up (va_up (va_up (va_up (va_up E 0 p0) 1 10201) 2 p1) 3 p2) 4 0) 5 101) 5) 101).bind (fun u173 =>
                (f_X0_times (va_up (va_up (va_up (va_up (va_up (va_up (va_up E 0 p0) 1 10201) 2 p1) 3 p2) 4 0) 5 101) 6 u173) ((va_up (va_up (va_up (va_up (va_up (va_up (va_up E 0 p0) 1 10201) 2 p1) 3 p2) 4 0) 5 101) 6 u173) 6) ((va_up (va_up (va_up (va_up (va_up (va_up (va_up E 0 p0) 1 10201) 2 p1) 3 p2) 4 0) 5 101) 6 u173) 6)).bind (fun u175 =>
                some (1, va_up (va_up (va_up (va_up (va_up (va_up (va_up (va_up E 0 p0) 1 10201) 2 p1) 3 p2) 4 0) 5 101) 6 u173) 7 u175)))
            else
              if p0 = 1 then
                (f_X0_power fu (va_up (va_up (va_up (va_up (va_up (va_up E 0 p0) 1 1030301) 2 p1) 3 p2) 4 0) 5 (jrem (101 - p1) 101)) ((va_up (va_up (va_up (va_up (va_up (va_up E 0 p0) 1 1030301) 2 p1) 3 p2) 4 0) 5 (jrem (101 - p1) 101)) 5) 101).bind (fun u168 =>
                (f_X0_times (va_up (va_up (va_up (va_up (va_up (va_up (va_up E 0 p0) 1 1030301) 2 p1) 3 p2) 4 0) 5 (jrem (101 - p1) 101)) 6 u168) ((va_up (va_up (va_up (va_up (va_up (va_up (va_up E 0 p0) 1 1030301) 2 p1) 3 p2) 4 0) 5 (jrem (101 - p1) 101)) 6 u168) 6) ((va_up (va_up (va_up (va_up (va_up (va_up (va_up E 0 p0) 1 1030301) 2 p1) 3 p2) 4 0) 5 (jrem (101 - p1) 101)) 6 u168) 6)).bind (fun u170 =>
                some (1, va_up (va_up (va_up (va_up (va_up (va_up (va_up (va_up E 0 p0) 1 1030301) 2 p1) 3 p2) 4 0) 5 (jrem (101 - p1) 101)) 6 u168) 7 u170)))
              else
                (f_X0_power fu (va_up (va_up (va_up (va_up (va_up (va_up E 0 p0) 1 1030301) 2 p1) 3 p2) 4 0) 5 101) ((va_up (va_up (va_up (va_up (va_up (va_up E 0 p0) 1 1030301) 2 p1) 3 p2) 4 0) 5 101) 5) 101).bind (fun u164 =>
                (f_X0_times (va_up (va_up (va_up (va_up (va_up (va_up (va_up E 0 p0) 1 1030301) 2 p1) 3 p2) 4 0) 5 101) 6 u164) ((va_up (va_up (va_up (va_up (va_up (va_up (va_up E 0 p0) 1 1030301) 2 p1) 3 p2) 4 0) 5 101) 6 u164) 6) ((va_up (va_up (va_up (va_up (va_up (va_up (va_up E 0 p0) 1 1030301) 2 p1) 3 p2) 4 0) 5 101) 6 u164) 6)).bind (fun u166 =>
                some (1, va_up (va_up (va_up (va_up (va_up (va_up (va_up (va_up E 0 p0) 1 1030301) 2 p1) 3 p2) 4 0) 5 101) 6 u164) 7 u166)))
        else
          some (0, E))
    else
      if p0 ≤ 1 then
        if p0 = 1 then
          if p0 = 1 then
            (f_X0_power fu (va_up (va_up (va_up (va_up (va_up (va_up E 0 p0) 1 101) 2 p1) 3 p2) 4 p3) 5 (jrem (101 - p1) 101)) ((va_up (va_up (va_up (va_up (va_up (va_up E 0 p0) 1 101) 2 p1) 3 p2) 4 p3) 5 (jrem (101 - p1) 101)) 5) 101).bind (fun u216 =>
            (f_X0_times (va_up (va_up (va_up (va_up (va_up (va_up (va_up E 0 p0) 1 101) 2 p1) 3 p2) 4 p3) 5 (jrem (101 - p1) 101)) 6 u216) ((va_up (va_up (va_up (va_up (va_up (va_up (va_up E 0 p0) 1 101) 2 p1) 3 p2) 4 p3) 5 (jrem (101 - p1) 101)) 6 u216) 6) ((va_up (va_up (va_up (va_up (va_up (va_up (va_up E 0 p0) 1 101) 2 p1) 3 p2) 4 p3) 5 (jrem (101 - p1) 101)) 6 u216) 6)).bind (fun u218 =>
            some (1, va_up (va_up (va_up (va_up (va_up (va_up (va_up (va_up E 0 p0) 1 101) 2 p1) 3 p2) 4 p3) 5 (jrem (101 - p1) 101)) 6 u216) 7 u218)))
          else
            (f_X0_power fu (va_up (va_up (va_up (va_up (va_up (va_up E 0 p0) 1 101) 2 p1) 3 p2) 4 p3) 5 101) ((va_up (va_up (va_up (va_up (va_up (va_up E 0 p0) 1 101) 2 p1) 3 p2) 4 p3) 5 101) 5) 101).bind (fun u212 =>
            (f_X0_times (va_up (va_up (va_up (va_up (va_up (va_up (va_up E 0 p0) 1 101) 2 p1) 3 p2) 4 p3) 5 101) 6 u212) ((va_up (va_up (va_up (va_up (va_up (va_up (va_up E 0 p0) 1 101) 2 p1) 3 p2) 4 p3) 5 101) 6 u212) 6) ((va_up (va_up (va_up (va_up (va_up (va_up (va_up E 0 p0) 1 101) 2 p1) 3 p2) 4 p3) 5 101) 6 u212) 6)).bind (fun u214 =>
            some (1, va_up (va_up (va_up (va_up (va_up (va_up (va_up (va_up E 0 p0) 1 101) 2 p1) 3 p2) 4 p3) 5 101) 6 u212) 7 u214)))
        else
          if p0 = 2 then
            if p0 = 1 then
              (f_X0_power fu (va_up (va_up (va_up (va_up (va_up (va_up E 0 p0) 1 10201) 2 p1) 3 p2) 4 p3) 5 (jrem (101 - p1) 101)) ((va_up (va_up (va_up (va_up (va_up (va_up E 0 p0) 1 10201) 2 p1) 3 p2) 4 p3) 5 (jrem (101 - p1) 101)) 5) 101).bind (fun u207 =>
              (f_X0_times (va_up (va_up (va_up (va_up (va_up (va_up (va_up E 0 p0) 1 10201) 2 p1) 3 p2) 4 p3) 5 (jrem (101 - p1) 101)) 6 u207) ((va_up (va_up (va_up (va_up (va_up (va_up (va_up E 0 p0) 1 10201) 2 p1) 3 p2) 4 p3) 5 (jrem (101 - p1) 101)) 6 u207) 6) ((va_up (va_up (va_up (va_up (va_up (va_up (va_up E 0 p0) 1 10201) 2 p1) 3 p2) 4 p3) 5 (jrem (101 - p1) 101)) 6 u207) 6)).bind (fun u209 =>
              some (1, va_up (va_up (va_up (va_up (va_up (va_up (va_up (va_up E 0 p0) 1 10201) 2 p1) 3 p2) 4 p3) 5 (jrem (101 - p1) 101)) 6 u207) 7 u209)))
            else
              (f_X0_power fu (va_up (va_up (va_up (va_up (va_up (va_up E 0 p0) 1 10201) 2 p1) 3 p2) 4 p3) 5 101) ((va_up (va_up (va_up (va_up (va_up (va_up E 0 p0) 1 10201) 2 p1) 3 p2) 4 p3) 5 101) 5) 101).bind (fun u203 =>
              (f_X0_times (va_up (va_up (va_up (va_up (va_up (va_up (va_up E 0 p0) 1 10201) 2 p1) 3 p2) 4 p3) 5 101) 6 u203) ((va_up (va_up (va_up (va_up (va_up (va_up (va_up E 0 p0) 1 10201) 2 p1) 3 p2) 4 p3) 5 101) 6 u203) 6) ((va_up (va_up (va_up (va_up (va_up (va_up (va_up E 0 p0) 1 10201) 2 p1) 3 p2) 4 p3) 5 101) 6 u203) 6)).bind (fun u205 =>
              some (1, va_up (va_up (va_up (va_up (va_up (va_up (va_up (va_up E 0 p0) 1 10201) 2 p1) 3 p2) 4 p3) 5 101) 6 u203) 7 u205)))
          else
            if p0 = 1 then
              (f_X0_power fu (va_up (va_up (va_up (va_up (va_up (va_up E 0 p0) 1 1030301) 2 p1) 3 p2) 4 p3) 5 (jrem (101 - p1) 101)) ((va_up (va_up (va_up (va_up (va_up (va_up E 0 p0) 1 1030301) 2 p1) 3 p2) 4 p3) 5 (jrem (101 - p1) 101)) 5) 101).bind (fun u198 =>
              (f_X0_times (va_up (va_up (va_up (va_up (va_up (va_up (va_up E 0 p0) 1 1030301) 2 p1) 3 p2) 4 p3) 5 (jrem (101 - p1) 101)) 6 u198) ((va_up (va_up (va_up (va_up (va_up (va_up (va_up E 0 p0) 1 1030301) 2 p1) 3 p2) 4 p3) 5 (jrem (101 - p1) 101)) 6 u198) 6) ((va_up (va_up (va_up (va_up (va_up (va_up (va_up E 0 p0) 1 1030301) 2 p1) 3 p2) 4 p3) 5 (jrem (101 - p1) 101)) 6 u198) 6)).bind (fun u200 =>
              some (1, va_up (va_up (va_up (va_up (va_up (va_up (va_up (va_up E 0 p0) 1 1030301) 2 p1) 3 p2) 4 p3) 5 (jrem (101 - p1) 101)) 6 u198) 7 u200)))
            else
              (f_X0_power fu (va_up (va_up (va_up (va_up (va_up (va_up E 0 p0) 1 1030301) 2 p1) 3 p2) 4 p3) 5 101) ((va_up (va_up (va_up (va_up (va_up (va_up E 0 p0) 1 1030301) 2 p1) 3 p2) 4 p3) 5 101) 5) 101).bind (fun u194 =>
              (f_X0_times (va_up (va_up (va_up (va_up (va_up (va_up (va_up E 0 p0) 1 1030301) 2 p1) 3 p2) 4 p3) 5 101) 6 u194) ((va_up (va_up (va_up (va_up (va_up (va_up (va_up E 0 p0) 1 1030301) 2 p1) 3 p2) 4 p3) 5 101) 6 u194) 6) ((va_up (va_up (va_up (va_up (va_up (va_up (va_up E 0 p0) 1 1030301) 2 p1) 3 p2) 4 p3) 5 101) 6 u194) 6)).bind (fun u196 =>
              some (1, va_up (va_up (va_up (va_up (va_up (va_up (va_up (va_up E 0 p0) 1 1030301) 2 p1) 3 p2) 4 p3) 5 101) 6 u194) 7 u196)))
      else
        (f_X0_hasRoot fu p0 p1 p2 p3).bind (fun u220 =>
        if u220 = 0 then
          if p0 = 1 then
            if p0 = 1 then
              (f_X0_power fu (va_up (va_up (va_up (va_up (va_up (va_up E 0 p0) 1 101) 2 p1) 3 p2) 4 p3) 5 (jrem (101 - p1) 101)) ((va_up (va_up (va_up (va_up (va_up (va_up E 0 p0) 1 101) 2 p1) 3 p2) 4 p3) 5 (jrem (101 - p1) 101)) 5) 101).bind (fun u248 =>
              (f_X0_times (va_up (va_up (va_up (va_up (va_up (va_up (va_up E 0 p0) 1 101) 2 p1) 3 p2) 4 p3) 5 (jrem (101 - p1) 101)) 6 u248) ((va_up (va_up (va_up (va_up (va_up (va_up (va_up E 0 p0) 1 101) 2 p1) 3 p2) 4 p3) 5 (jrem (101 - p1) 101)) 6 u248) 6) ((va_up (va_up (va_up (va_up (va_up (va_up (va_up E 0 p0) 1 101) 2 p1) 3 p2) 4 p3) 5 (jrem (101 - p1) 101)) 6 u248) 6)).bind (fun u250 =>
              some (1, va_up (va_up (va_up (va_up (va_up (va_up (va_up (va_up E 0 p0) 1 101) 2 p1) 3 p2) 4 p3) 5 (jrem (101 - p1) 101)) 6 u248) 7 u250)))
            else
              (f_X0_power fu (va_up (va_up (va_up (va_up (va_up (va_up E 0 p0) 1 101) 2 p1) 3 p2) 4 p3) 5 101) ((va_up (va_up (va_up (va_up (va_up (va_up E 0 p0) 1 101) 2 p1) 3 p2) 4 p3) 5 101) 5) 101).bind (fun u244 =>
              (f_X0_times (va_up (va_up (va_up (va_up (va_up (va_up (va_up E 0 p0) 1 101) 2 p1) 3 p2) 4 p3) 5 101) 6 u244) ((va_up (va_up (va_up (va_up (va_up (va_up (va_up E 0 p0) 1 101) 2 p1) 3 p2) 4 p3) 5 101) 6 u244) 6) ((va_up (va_up (va_up (va_up (va_up (va_up (va_up E 0 p0) 1 101) 2 p1) 3 p2) 4 p3) 5 101) 6 u244) 6)).bind (fun u246 =>
              some (1, va_up (va_up (va_up (va_up (va_up (va_up (va_up (va_up E 0 p0) 1 101) 2 p1) 3 p2) 4 p3) 5 101) 6 u244) 7 u246)))
          else
            if p0 = 2 then
              if p0 = 1 then
                (f_X0_power fu (va_up (va_up (va_up (va_up (va_up (va_up E 0 p0) 1 10201) 2 p1) 3 p2) 4 p3) 5 (jrem (101 - p1) 101)) ((va_up (va_up (va_up (va_up (va_up (va_up E 0 p0) 1 10201) 2 p1) 3 p2) 4 p3) 5 (jrem (101 - p1) 101)) 5) 101).bind (fun u239 =>
                (f_X0_times (va_up (va_up (va_up (va_up (va_up (va_up (va_up E 0 p0) 1 10201) 2 p1) 3 p2) 4 p3) 5 (jrem (101 - p1) 101)) 6 u239) ((va_up (va_up (va_up (va_up (va_up (va_up (va_up E 0 p0) 1 10201) 2 p1) 3 p2) 4 p3) 5 (jrem (101 - p1) 101)) 6 u239) 6) ((va_up (va_up (va_up (va_up (va_up (va_up (va_up E 0 p0) 1 10201) 2 p1) 3 p2) 4 p3) 5 (jrem (101 - p1) 101)) 6 u239) 6)).bind (fun u241 =>
                some (1, va_up (va_up (va_up (va_up (va_up (va_up (va_up (va_up E 0 p0) 1 10201) 2 p1) 3 p2) 4 p3) 5 (jrem (101 - p1) 101)) 6 u239) 7 u241)))
              else
                (f_X0_power fu (va_up (va_up (va_up (va_up (va_up (va_up E 0 p0) 1 10201) 2 p1) 3 p2) 4 p3) 5 101) ((va_up (va_up (va_up (va_up (va_up (va_up E 0 p0) 1 10201) 2 p1) 3 p2) 4 p3) 5 101) 5) 101).bind (fun u235 =>
                (f_X0_times (va_up (va_up (va_up (va_up (va_up (va_up (va_up E 0 p0) 1 10201) 2 p1) 3 p2) 4 p3) 5 101) 6 u235) ((va_up (va_up (va_up (va_up (va_up (va_up (va_up E 0 p0) 1 10201) 2 p1) 3 p2) 4 p3) 5 101) 6 u235) 6) ((va_up (va_up (va_up (va_up (va_up (va_up (va_up E 0 p0) 1 10201) 2 p1) 3 p2) 4 p3) 5 101) 6 u235) 6)).bind (fun u237 =>
                some (1, va_up (va_up (va_up (va_up (va_up (va_up (va_up (va_up E 0 p0) 1 10201) 2 p1) 3 p2) 4 p3) 5 101) 6 u235) 7 u237)))
            else
              if p0 = 1 then
                (f_X0_power fu (va_up (va_up (va_up (va_up (va_up (va_up E 0 p0) 1 1030301) 2 p1) 3 p2) 4 p3) 5 (jrem (101 - p1) 101)) ((va_up (va_up (va_up (va_up (va_up (va_up E 0 p0) 1 1030301) 2 p1) 3 p2) 4 p3) 5 (jrem (101 - p1) 101)) 5) 101).bind (fun u230 =>
                (f_X0_times (va_up (va_up (va_up (va_up (va_up (va_up (va_up E 0 p0) 1 1030301) 2 p1) 3 p2) 4 p3) 5 (jrem (101 - p1) 101)) 6 u230) ((va_up (va_up (va_up (va_up (va_up (va_up (va_up E 0 p0) 1 1030301) 2 p1) 3 p2) 4 p3) 5 (jrem (101 - p1) 101)) 6 u230) 6) ((va_up (va_up (va_up (va_up (va_up (va_up (va_up E 0 p0) 1 1030301) 2 p1) 3 p2) 4 p3) 5 (jrem (101 - p1) 101)) 6 u230) 6)).bind (fun u232 =>
                some (1, va_up (va_up (va_up (va_up (va_up (va_up (va_up (va_up E 0 p0) 1 1030301) 2 p1) 3 p2) 4 p3) 5 (jrem (101 - p1) 101)) 6 u230) 7 u232)))
              else
                (f_X0_power fu (va_up (va_up (va_up (va_up (va_up (va_up E 0 p0) 1 1030301) 2 p1) 3 p2) 4 p3) 5 101) ((va_up (va_up (va_up (va_up (va_up (va_up E 0 p0) 1 1030301) 2 p1) 3 p2) 4 p3) 5 101) 5) 101).bind (fun u226 =>
                (f_X0_times (va_up (va_up (va_up (va_up (va_up (va_up (va_up E 0 p0) 1 1030301) 2 p1) 3 p2) 4 p3) 5 101) 6 u226) ((va_up (va_up (va_up (va_up (va_up (va_up (va_up E 0 p0) 1 1030301) 2 p1) 3 p2) 4 p3) 5 101) 6 u226) 6) ((va_up (va_up (va_up (va_up (va_up (va_up (va_up E 0 p0) 1 1030301) 2 p1) 3 p2) 4 p3) 5 101) 6 u226) 6)).bind (fun u228 =>
                some (1, va_up (va_up (va_up (va_up (va_up (va_up (va_up (va_up E 0 p0) 1 1030301) 2 p1) 3 p2) 4 p3) 5 101) 6 u226) 7 u228)))
        else
          some (0, E))
set_option maxHeartbeats 4000000 in
set_option maxRecDepth 100000 in
theorem C_X0_become (l : Launch) (D : va_G) (tys : List (ClassId × FieldType)) (nw : List Cond) (hn : nw.all nw_kind = true) (hnw : ∀ w ∈ nw0, w ∈ nw) {ad : Nat → Nat} (hj : ww_inj 46 ad) {cI : ClassId} {cR : ClassId} (htI : tys[0]? = some (cI, .int)) (htR : tys[1]? = some (cR, .object RX2)) {fu : Nat} {M : Fin 20 → Nat → Int32} {E : Nat → Int32} {P : Nat → Fin 20} {C : Nat → Int32} {N : Nat → Int32} {p0 : Int32} {p1 : Int32} {p2 : Int32} {p3 : Int32} {res : Int32 × (Nat → Int32)} (hf : f_X0_become fu E p0 p1 p2 p3 = some res) :
    Met l yX0_become wsX0_become ({ frames := 2, cells := 0, slots := 0, locals := 59 }) (va_Pc [.ref (ad 40), .int p0, .int p1, .int p2, .int p3] (ws_B D tys nw (ww 46 ad (cellC cI cR ad M E P C N)))) (ct_Q D (ww 46 ad (cellC cI cR ad M res.2 P C N)) (ww_A 46 ad) (some (.int res.1))) 0 0 (ww_A 46 ad) := by
  refine Met.ofW (cc := cX0_become) (maxL := 7) (ret := (some .boolean)) (by decide) rfl ?_
  intro p e s m args below meth c s₁ B hml hv
  obtain ⟨rfl, hP, hK, hN⟩ := hv
  have hx := B.exec
  have hb := B.bytes
  have hr := B.returns
  have hts := atoms_spec (ws := wsX0_become) B.pre
  have hown : s.vm.findClass RX0 = some m.cls := findClass_of_methodNamed B.named
  have hlocks := B.notSynchronized
  have hS : va_S (ww_A 46 ad) s.heap s.heap [] := va_S.rf
  have hl := lv_entry ([.ref (ad 40), .int p0, .int p1, .int p2, .int p3]) (n := 7) (Nat.le_of_ble_eq_true rfl)
  rw [lg_entry_eq]
  generalize (lg_sl ([.ref (ad 40), .int p0, .int p1, .int p2, .int p3]) ++ List.replicate (7 - (lg_sl ([.ref (ad 40), .int p0, .int p1, .int p2, .int p3])).length) Slot.unset).toArray = ls at hl ⊢
  have hl : lv_has ls 7 [(0, .ref (ad 40)), (1, .int p0), (2, .int p1), (3, .int p2), (4, .int p3)] := hl
  unfold f_X0_become at hf
  refine lv_iload_n hx hb dX0_become_0 rfl (lv_at hl 1 rfl) ?_
  refine lv_iconst (v := 1) hx hb dX0_become_1 (by decide) ?_
  refine lv_icmp_le (tgt := 9) hx hb dX0_become_2 (by decide) (fun c1 => ?_) (fun c1 => ?_)
  · rw [if_pos c1] at hf
    refine lv_iconst (v := 0) hx hb dX0_become_9 (by decide) ?_
    refine lv_istore (lv' := [(5, .int 0), (0, .ref (ad 40)), (1, .int p0), (2, .int p1), (3, .int p2), (4, .int p3)]) hx hb dX0_become_10 hl (by decide) rfl (fun ls hl => ?_)
    refine lv_iload_n hx hb dX0_become_12 rfl (lv_at hl 2 rfl) ?_
    refine lv_iconst (v := 2) hx hb dX0_become_13 (by decide) ?_
    refine lv_icmp_le (tgt := 22) hx hb dX0_become_14 (by decide) (fun c2 => ?_) (fun c2 => ?_)
    · rw [if_pos c2] at hf
      refine lv_iconst (v := 0) hx hb dX0_become_22 (by decide) ?_
      refine lv_istore (lv' := [(6, .int 0), (5, .int 0), (0, .ref (ad 40)), (1, .int p0), (2, .int p1), (3, .int p2), (4, .int p3)]) hx hb dX0_become_23 hl (by decide) rfl (fun ls hl => ?_)
      refine lv_iload_n hx hb dX0_become_25 rfl (lv_at hl 3 rfl) ?_
      refine lv_iconst (v := 1) hx hb dX0_become_26 (by decide) ?_
      refine lv_icmp_le (tgt := 44) hx hb dX0_become_27 (by decide) (fun c3 => ?_) (fun c3 => ?_)
      · rw [if_pos c3] at hf
        refine lv_aload_n hx hb dX0_become_44 rfl (lv_at hl 2 rfl) ?_
        refine lv_iload_n hx hb dX0_become_45 rfl (lv_at hl 3 rfl) ?_
        refine va_put (ci := 0) (v := .int p0) (ty := .int) (C := RX0) (T := TX0) (N := 8) hx hb hts (by decide +kernel) tyX0 tyX0_ok nmX0 hown hK hP (ww_D hj) hS 40 cc_ext rfl 0 (by decide) (hts (.fieldLink RX0 9 "NumberFieldFactors$Extension" "degree" "I") (by decide +kernel)) (fun _ h9 => h9) rfl (by decide +kernel) rfl rfl (Nat.le_of_ble_eq_true rfl) dX0_become_46 (fun H locs hP hD hS => ?_)
        have hP := cs_E0 hP
        refine lv_aload_n hx hb dX0_become_49 rfl (lv_at hl 2 rfl) ?_
        refine lv_iload_n hx hb dX0_become_50 rfl (lv_at hl 3 rfl) ?_
        refine lv_iconst (v := 1) hx hb dX0_become_51 (by decide) ?_
        refine lv_icmp_ne (tgt := 60) hx hb dX0_become_52 (by decide) (fun c4 => ?_) (fun c4 => ?_)
        · rw [if_neg c4] at hf
          refine lv_iload_n hx hb dX0_become_60 rfl (lv_at hl 3 rfl) ?_
          refine lv_iconst (v := 2) hx hb dX0_become_61 (by decide) ?_
          refine lv_icmp_ne (tgt := 71) hx hb dX0_become_62 (by decide) (fun c5 => ?_) (fun c5 => ?_)
          · rw [if_neg c5] at hf
            refine lv_ldc (v := 1030301) hx hb hown (hts (.constant RX0 40 (1030301)) (by decide +kernel)) dX0_become_71 ?_
            refine va_put (ci := 0) (v := .int 1030301) (ty := .int) (C := RX0) (T := TX0) (N := 8) hx hb hts (by decide +kernel) tyX0 tyX0_ok nmX0 hown hK hP (ww_D hj) hS 40 cc_ext rfl 1 (by decide) (hts (.fieldLink RX0 15 "NumberFieldFactors$Extension" "size" "I") (by decide +kernel)) (fun _ h9 => h9) rfl (by decide +kernel) rfl rfl (Nat.le_of_ble_eq_true rfl) dX0_become_73 (fun H locs hP hD hS => ?_)
            have hP := cs_E1 hP
            refine lv_aload_n hx hb dX0_become_76 rfl (lv_at hl 2 rfl) ?_
            refine lv_iload_n hx hb dX0_become_77 rfl (lv_at hl 4 rfl) ?_
            refine va_put (ci := 0) (v := .int p1) (ty := .int) (C := RX0) (T := TX0) (N := 8) hx hb hts (by decide +kernel) tyX0 tyX0_ok nmX0 hown hK hP (ww_D hj) hS 40 cc_ext rfl 2 (by decide) (hts (.fieldLink RX0 18 "NumberFieldFactors$Extension" "low0" "I") (by decide +kernel)) (fun _ h9 => h9) rfl (by decide +kernel) rfl rfl (Nat.le_of_ble_eq_true rfl) dX0_become_78 (fun H locs hP hD hS => ?_)
            have hP := cs_E2 hP
            refine lv_aload_n hx hb dX0_become_81 rfl (lv_at hl 2 rfl) ?_
            refine lv_iload hx hb dX0_become_82 (lv_at hl 1 rfl) ?_
            refine va_put (ci := 0) (v := .int 0) (ty := .int) (C := RX0) (T := TX0) (N := 8) hx hb hts (by decide +kernel) tyX0 tyX0_ok nmX0 hown hK hP (ww_D hj) hS 40 cc_ext rfl 3 (by decide) (hts (.fieldLink RX0 21 "NumberFieldFactors$Extension" "low1" "I") (by decide +kernel)) (fun _ h9 => h9) rfl (by decide +kernel) rfl rfl (Nat.le_of_ble_eq_true rfl) dX0_become_84 (fun H locs hP hD hS => ?_)
            have hP := cs_E3 hP
            refine lv_aload_n hx hb dX0_become_87 rfl (lv_at hl 2 rfl) ?_
            refine lv_iload hx hb dX0_become_88 (lv_at hl 0 rfl) ?_
            refine va_put (ci := 0) (v := .int 0) (ty := .int) (C := RX0) (T := TX0) (N := 8) hx hb hts (by decide +kernel) tyX0 tyX0_ok nmX0 hown hK hP (ww_D hj) hS 40 cc_ext rfl 4 (by decide) (hts (.fieldLink RX0 24 "NumberFieldFactors$Extension" "low2" "I") (by decide +kernel)) (fun _ h9 => h9) rfl (by decide +kernel) rfl rfl (Nat.le_of_ble_eq_true rfl) dX0_become_90 (fun H locs hP hD hS => ?_)
            have hP := cs_E4 hP
            refine lv_aload_n hx hb dX0_become_93 rfl (lv_at hl 2 rfl) ?_
            refine lv_iload_n hx hb dX0_become_94 rfl (lv_at hl 3 rfl) ?_
            refine lv_iconst (v := 1) hx hb dX0_become_95 (by decide) ?_
            refine lv_icmp_ne (tgt := 109) hx hb dX0_become_96 (by decide) (fun c6 => ?_) (fun c6 => ?_)
            · rw [if_neg c6] at hf
              refine lv_bipush (v := 101) hx hb dX0_become_109 (by decide) ?_
              refine va_put (ci := 0) (v := .int 101) (ty := .int) (C := RX0) (T := TX0) (N := 8) hx hb hts (by decide +kernel) tyX0 tyX0_ok nmX0 hown hK hP (ww_D hj) hS 40 cc_ext rfl 5 (by decide) (hts (.fieldLink RX0 27 "NumberFieldFactors$Extension" "t" "I") (by decide +kernel)) (fun _ h9 => h9) rfl (by decide +kernel) rfl rfl (Nat.le_of_ble_eq_true rfl) dX0_become_111 (fun H locs hP hD hS => ?_)
              have hP := cs_E5 hP
              refine lv_aload_n hx hb dX0_become_114 rfl (lv_at hl 2 rfl) ?_
              refine lv_aload_n hx hb dX0_become_115 rfl (lv_at hl 2 rfl) ?_
              refine lv_aload_n hx hb dX0_become_116 rfl (lv_at hl 2 rfl) ?_
              refine va_get (ci := 0) (v := .int ((va_up (va_up (va_up (va_up (va_up (va_up E 0 p0) 1 1030301) 2 p1) 3 0) 4 0) 5 101) 5)) (C := RX0) (T := TX0) (N := 8) hx hb hts (by decide +kernel) hown hK hP 40 cc_ext rfl 5 (by decide) (hts (.fieldLink RX0 27 "NumberFieldFactors$Extension" "t" "I") (by decide +kernel)) (fun _ h9 => h9) rfl dX0_become_117 ?_
              refine lv_bipush (v := 101) hx hb dX0_become_120 (by decide) ?_
              obtain ⟨u7, g8, hf⟩ := Option.bind_eq_some_iff.mp hf
              try dsimp only at hf
              refine ct_call (va_runV (As := [.int ((va_up (va_up (va_up (va_up (va_up (va_up E 0 p0) 1 1030301) 2 p1) 3 0) 4 0) 5 101) 5), .int 101]) (rest := [.ref (ad 40)]) ⟨hx, hb, hml, hown, hts⟩ (C_X0_power l D tys nw hn hnw hj htI htR (res := u7) g8) (cwV 2 hts gX0_become_X0_power rfl rfl rfl (by decide +kernel) ⟨Nat.le_of_ble_eq_true rfl, Nat.le_of_ble_eq_true rfl⟩) (ct_preV hn hP hK hN (ci := 0) (k := 40) rfl (by decide) rfl) rfl rfl hl.1 rfl (lv_room (Nat.le_of_ble_eq_true rfl)) dX0_become_122 ⟨Nat.zero_le _, Nat.zero_le _⟩) hS (fun H locs hP hS => ?_)
              refine va_put (ci := 0) (v := .int u7) (ty := .int) (C := RX0) (T := TX0) (N := 8) hx hb hts (by decide +kernel) tyX0 tyX0_ok nmX0 hown hK hP (ww_D hj) hS 40 cc_ext rfl 6 (by decide) (hts (.fieldLink RX0 30 "NumberFieldFactors$Extension" "mateOfT" "I") (by decide +kernel)) (fun _ h9 => h9) rfl (by decide +kernel) rfl rfl (Nat.le_of_ble_eq_true rfl) dX0_become_125 (fun H locs hP hD hS => ?_)
              have hP := cs_E6 hP
              refine lv_aload_n hx hb dX0_become_128 rfl (lv_at hl 2 rfl) ?_
              refine lv_aload_n hx hb dX0_become_129 rfl (lv_at hl 2 rfl) ?_
              refine lv_aload_n hx hb dX0_become_130 rfl (lv_at hl 2 rfl) ?_
              refine va_get (ci := 0) (v := .int ((va_up (va_up (va_up (va_up (va_up (va_up (va_up E 0 p0) 1 1030301) 2 p1) 3 0) 4 0) 5 101) 6 u7) 6)) (C := RX0) (T := TX0) (N := 8) hx hb hts (by decide +kernel) hown hK hP 40 cc_ext rfl 6 (by decide) (hts (.fieldLink RX0 30 "NumberFieldFactors$Extension" "mateOfT" "I") (by decide +kernel)) (fun _ h9 => h9) rfl dX0_become_131 ?_
              refine lv_aload_n hx hb dX0_become_134 rfl (lv_at hl 2 rfl) ?_
              refine va_get (ci := 0) (v := .int ((va_up (va_up (va_up (va_up (va_up (va_up (va_up E 0 p0) 1 1030301) 2 p1) 3 0) 4 0) 5 101) 6 u7) 6)) (C := RX0) (T := TX0) (N := 8) hx hb hts (by decide +kernel) hown hK hP 40 cc_ext rfl 6 (by decide) (hts (.fieldLink RX0 30 "NumberFieldFactors$Extension" "mateOfT" "I") (by decide +kernel)) (fun _ h9 => h9) rfl dX0_become_135 ?_
              obtain ⟨u9, g10, hf⟩ := Option.bind_eq_some_iff.mp hf
              try dsimp only at hf
              refine ct_call (va_runV (As := [.int ((va_up (va_up (va_up (va_up (va_up (va_up (va_up E 0 p0) 1 1030301) 2 p1) 3 0) 4 0) 5 101) 6 u7) 6), .int ((va_up (va_up (va_up (va_up (va_up (va_up (va_up E 0 p0) 1 1030301) 2 p1) 3 0) 4 0) 5 101) 6 u7) 6)]) (rest := [.ref (ad 40)]) ⟨hx, hb, hml, hown, hts⟩ (C_X0_times l D tys nw hn hnw hj htI htR (res := u9) g10) (cwV 2 hts gX0_become_X0_times rfl rfl rfl (by decide +kernel) ⟨Nat.le_of_ble_eq_true rfl, Nat.le_of_ble_eq_true rfl⟩) (ct_preV hn hP hK hN (ci := 0) (k := 40) rfl (by decide) rfl) rfl rfl hl.1 rfl (lv_room (Nat.le_of_ble_eq_true rfl)) dX0_become_138 ⟨Nat.zero_le _, Nat.zero_le _⟩) hS (fun H locs hP hS => ?_)
              refine va_put (ci := 0) (v := .int u9) (ty := .int) (C := RX0) (T := TX0) (N := 8) hx hb hts (by decide +kernel) tyX0 tyX0_ok nmX0 hown hK hP (ww_D hj) hS 40 cc_ext rfl 7 (by decide) (hts (.fieldLink RX0 33 "NumberFieldFactors$Extension" "mateOfTSquared" "I") (by decide +kernel)) (fun _ h9 => h9) rfl (by decide +kernel) rfl rfl (Nat.le_of_ble_eq_true rfl) dX0_become_141 (fun H locs hP hD hS => ?_)
              have hP := cs_E7 hP
              refine lv_iconst (v := 1) hx hb dX0_become_144 (by decide) ?_
              obtain rfl := Option.some.inj hf
              exact W.zret (v := 1) (ty := .boolean) hx hb hr (by decide) (fun t ht hW => ⟨rfl, by rw [ht]; exact hP, hS.F ht⟩) hS.2.2 dX0_become_145
            · rw [if_pos c6] at hf
              refine lv_bipush (v := 101) hx hb dX0_become_99 (by decide) ?_
              refine lv_iload_n hx hb dX0_become_101 rfl (lv_at hl 4 rfl) ?_
              refine lv_isub hx hb dX0_become_102 ?_
              refine lv_bipush (v := 101) hx hb dX0_become_103 (by decide) ?_
              refine jv_irem hx hb dX0_become_105 (by decide) ?_
              refine lv_goto (tgt := 111) hx hb dX0_become_106 (by decide) ?_
              refine va_put (ci := 0) (v := .int (jrem (101 - p1) 101)) (ty := .int) (C := RX0) (T := TX0) (N := 8) hx hb hts (by decide +kernel) tyX0 tyX0_ok nmX0 hown hK hP (ww_D hj) hS 40 cc_ext rfl 5 (by decide) (hts (.fieldLink RX0 27 "NumberFieldFactors$Extension" "t" "I") (by decide +kernel)) (fun _ h9 => h9) rfl (by decide +kernel) rfl rfl (Nat.le_of_ble_eq_true rfl) dX0_become_111 (fun H locs hP hD hS => ?_)
              have hP := cs_E5 hP
              refine lv_aload_n hx hb dX0_become_114 rfl (lv_at hl 2 rfl) ?_
              refine lv_aload_n hx hb dX0_become_115 rfl (lv_at hl 2 rfl) ?_
              refine lv_aload_n hx hb dX0_become_116 rfl (lv_at hl 2 rfl) ?_
              refine va_get (ci := 0) (v := .int ((va_up (va_up (va_up (va_up (va_up (va_up E 0 p0) 1 1030301) 2 p1) 3 0) 4 0) 5 (jrem (101 - p1) 101)) 5)) (C := RX0) (T := TX0) (N := 8) hx hb hts (by decide +kernel) hown hK hP 40 cc_ext rfl 5 (by decide) (hts (.fieldLink RX0 27 "NumberFieldFactors$Extension" "t" "I") (by decide +kernel)) (fun _ h9 => h9) rfl dX0_become_117 ?_
              refine lv_bipush (v := 101) hx hb dX0_become_120 (by decide) ?_
              obtain ⟨u11, g12, hf⟩ := Option.bind_eq_some_iff.mp hf
              try dsimp only at hf
              refine ct_call (va_runV (As := [.int ((va_up (va_up (va_up (va_up (va_up (va_up E 0 p0) 1 1030301) 2 p1) 3 0) 4 0) 5 (jrem (101 - p1) 101)) 5), .int 101]) (rest := [.ref (ad 40)]) ⟨hx, hb, hml, hown, hts⟩ (C_X0_power l D tys nw hn hnw hj htI htR (res := u11) g12) (cwV 2 hts gX0_become_X0_power rfl rfl rfl (by decide +kernel) ⟨Nat.le_of_ble_eq_true rfl, Nat.le_of_ble_eq_true rfl⟩) (ct_preV hn hP hK hN (ci := 0) (k := 40) rfl (by decide) rfl) rfl rfl hl.1 rfl (lv_room (Nat.le_of_ble_eq_true rfl)) dX0_become_122 ⟨Nat.zero_le _, Nat.zero_le _⟩) hS (fun H locs hP hS => ?_)
              refine va_put (ci := 0) (v := .int u11) (ty := .int) (C := RX0) (T := TX0) (N := 8) hx hb hts (by decide +kernel) tyX0 tyX0_ok nmX0 hown hK hP (ww_D hj) hS 40 cc_ext rfl 6 (by decide) (hts (.fieldLink RX0 30 "NumberFieldFactors$Extension" "mateOfT" "I") (by decide +kernel)) (fun _ h9 => h9) rfl (by decide +kernel) rfl rfl (Nat.le_of_ble_eq_true rfl) dX0_become_125 (fun H locs hP hD hS => ?_)
              have hP := cs_E6 hP
              refine lv_aload_n hx hb dX0_become_128 rfl (lv_at hl 2 rfl) ?_
              refine lv_aload_n hx hb dX0_become_129 rfl (lv_at hl 2 rfl) ?_
              refine lv_aload_n hx hb dX0_become_130 rfl (lv_at hl 2 rfl) ?_
              refine va_get (ci := 0) (v := .int ((va_up (va_up (va_up (va_up (va_up (va_up (va_up E 0 p0) 1 1030301) 2 p1) 3 0) 4 0) 5 (jrem (101 - p1) 101)) 6 u11) 6)) (C := RX0) (T := TX0) (N := 8) hx hb hts (by decide +kernel) hown hK hP 40 cc_ext rfl 6 (by decide) (hts (.fieldLink RX0 30 "NumberFieldFactors$Extension" "mateOfT" "I") (by decide +kernel)) (fun _ h9 => h9) rfl dX0_become_131 ?_
              refine lv_aload_n hx hb dX0_become_134 rfl (lv_at hl 2 rfl) ?_
              refine va_get (ci := 0) (v := .int ((va_up (va_up (va_up (va_up (va_up (va_up (va_up E 0 p0) 1 1030301) 2 p1) 3 0) 4 0) 5 (jrem (101 - p1) 101)) 6 u11) 6)) (C := RX0) (T := TX0) (N := 8) hx hb hts (by decide +kernel) hown hK hP 40 cc_ext rfl 6 (by decide) (hts (.fieldLink RX0 30 "NumberFieldFactors$Extension" "mateOfT" "I") (by decide +kernel)) (fun _ h9 => h9) rfl dX0_become_135 ?_
              obtain ⟨u13, g14, hf⟩ := Option.bind_eq_some_iff.mp hf
              try dsimp only at hf
              refine ct_call (va_runV (As := [.int ((va_up (va_up (va_up (va_up (va_up (va_up (va_up E 0 p0) 1 1030301) 2 p1) 3 0) 4 0) 5 (jrem (101 - p1) 101)) 6 u11) 6), .int ((va_up (va_up (va_up (va_up (va_up (va_up (va_up E 0 p0) 1 1030301) 2 p1) 3 0) 4 0) 5 (jrem (101 - p1) 101)) 6 u11) 6)]) (rest := [.ref (ad 40)]) ⟨hx, hb, hml, hown, hts⟩ (C_X0_times l D tys nw hn hnw hj htI htR (res := u13) g14) (cwV 2 hts gX0_become_X0_times rfl rfl rfl (by decide +kernel) ⟨Nat.le_of_ble_eq_true rfl, Nat.le_of_ble_eq_true rfl⟩) (ct_preV hn hP hK hN (ci := 0) (k := 40) rfl (by decide) rfl) rfl rfl hl.1 rfl (lv_room (Nat.le_of_ble_eq_true rfl)) dX0_become_138 ⟨Nat.zero_le _, Nat.zero_le _⟩) hS (fun H locs hP hS => ?_)
              refine va_put (ci := 0) (v := .int u13) (ty := .int) (C := RX0) (T := TX0) (N := 8) hx hb hts (by decide +kernel) tyX0 tyX0_ok nmX0 hown hK hP (ww_D hj) hS 40 cc_ext rfl 7 (by decide) (hts (.fieldLink RX0 33 "NumberFieldFactors$Extension" "mateOfTSquared" "I") (by decide +kernel)) (fun _ h9 => h9) rfl (by decide +kernel) rfl rfl (Nat.le_of_ble_eq_true rfl) dX0_become_141 (fun H locs hP hD hS => ?_)
              have hP := cs_E7 hP
              refine lv_iconst (v := 1) hx hb dX0_become_144 (by decide) ?_
              obtain rfl := Option.some.inj hf
              exact W.zret (v := 1) (ty := .boolean) hx hb hr (by decide) (fun t ht hW => ⟨rfl, by rw [ht]; exact hP, hS.F ht⟩) hS.2.2 dX0_become_145
          · rw [if_pos c5] at hf
            refine lv_sipush (v := 10201) hx hb dX0_become_65 (by decide) ?_
            refine lv_goto (tgt := 73) hx hb dX0_become_68 (by decide) ?_
            refine va_put (ci := 0) (v := .int 10201) (ty := .int) (C := RX0) (T := TX0) (N := 8) hx hb hts (by decide +kernel) tyX0 tyX0_ok nmX0 hown hK hP (ww_D hj) hS 40 cc_ext rfl 1 (by decide) (hts (.fieldLink RX0 15 "NumberFieldFactors$Extension" "size" "I") (by decide +kernel)) (fun _ h9 => h9) rfl (by decide +kernel) rfl rfl (Nat.le_of_ble_eq_true rfl) dX0_become_73 (fun H locs hP hD hS => ?_)
            have hP := cs_E1 hP
            refine lv_aload_n hx hb dX0_become_76 rfl (lv_at hl 2 rfl) ?_
            refine lv_iload_n hx hb dX0_become_77 rfl (lv_at hl 4 rfl) ?_
            refine va_put (ci := 0) (v := .int p1) (ty := .int) (C := RX0) (T := TX0) (N := 8) hx hb hts (by decide +kernel) tyX0 tyX0_ok nmX0 hown hK hP (ww_D hj) hS 40 cc_ext rfl 2 (by decide) (hts (.fieldLink RX0 18 "NumberFieldFactors$Extension" "low0" "I") (by decide +kernel)) (fun _ h9 => h9) rfl (by decide +kernel) rfl rfl (Nat.le_of_ble_eq_true rfl) dX0_become_78 (fun H locs hP hD hS => ?_)
            have hP := cs_E2 hP
            refine lv_aload_n hx hb dX0_become_81 rfl (lv_at hl 2 rfl) ?_
            refine lv_iload hx hb dX0_become_82 (lv_at hl 1 rfl) ?_
            refine va_put (ci := 0) (v := .int 0) (ty := .int) (C := RX0) (T := TX0) (N := 8) hx hb hts (by decide +kernel) tyX0 tyX0_ok nmX0 hown hK hP (ww_D hj) hS 40 cc_ext rfl 3 (by decide) (hts (.fieldLink RX0 21 "NumberFieldFactors$Extension" "low1" "I") (by decide +kernel)) (fun _ h9 => h9) rfl (by decide +kernel) rfl rfl (Nat.le_of_ble_eq_true rfl) dX0_become_84 (fun H locs hP hD hS => ?_)
            have hP := cs_E3 hP
            refine lv_aload_n hx hb dX0_become_87 rfl (lv_at hl 2 rfl) ?_
            refine lv_iload hx hb dX0_become_88 (lv_at hl 0 rfl) ?_
            refine va_put (ci := 0) (v := .int 0) (ty := .int) (C := RX0) (T := TX0) (N := 8) hx hb hts (by decide +kernel) tyX0 tyX0_ok nmX0 hown hK hP (ww_D hj) hS 40 cc_ext rfl 4 (by decide) (hts (.fieldLink RX0 24 "NumberFieldFactors$Extension" "low2" "I") (by decide +kernel)) (fun _ h9 => h9) rfl (by decide +kernel) rfl rfl (Nat.le_of_ble_eq_true rfl) dX0_become_90 (fun H locs hP hD hS => ?_)
            have hP := cs_E4 hP
            refine lv_aload_n hx hb dX0_become_93 rfl (lv_at hl 2 rfl) ?_
            refine lv_iload_n hx hb dX0_become_94 rfl (lv_at hl 3 rfl) ?_
            refine lv_iconst (v := 1) hx hb dX0_become_95 (by decide) ?_
            refine lv_icmp_ne (tgt := 109) hx hb dX0_become_96 (by decide) (fun c15 => ?_) (fun c15 => ?_)
            · rw [if_neg c15] at hf
              refine lv_bipush (v := 101) hx hb dX0_become_109 (by decide) ?_
              refine va_put (ci := 0) (v := .int 101) (ty := .int) (C := RX0) (T := TX0) (N := 8) hx hb hts (by decide +kernel) tyX0 tyX0_ok nmX0 hown hK hP (ww_D hj) hS 40 cc_ext rfl 5 (by decide) (hts (.fieldLink RX0 27 "NumberFieldFactors$Extension" "t" "I") (by decide +kernel)) (fun _ h9 => h9) rfl (by decide +kernel) rfl rfl (Nat.le_of_ble_eq_true rfl) dX0_become_111 (fun H locs hP hD hS => ?_)
              have hP := cs_E5 hP
              refine lv_aload_n hx hb dX0_become_114 rfl (lv_at hl 2 rfl) ?_
              refine lv_aload_n hx hb dX0_become_115 rfl (lv_at hl 2 rfl) ?_
              refine lv_aload_n hx hb dX0_become_116 rfl (lv_at hl 2 rfl) ?_
              refine va_get (ci := 0) (v := .int ((va_up (va_up (va_up (va_up (va_up (va_up E 0 p0) 1 10201) 2 p1) 3 0) 4 0) 5 101) 5)) (C := RX0) (T := TX0) (N := 8) hx hb hts (by decide +kernel) hown hK hP 40 cc_ext rfl 5 (by decide) (hts (.fieldLink RX0 27 "NumberFieldFactors$Extension" "t" "I") (by decide +kernel)) (fun _ h9 => h9) rfl dX0_become_117 ?_
              refine lv_bipush (v := 101) hx hb dX0_become_120 (by decide) ?_
              obtain ⟨u16, g17, hf⟩ := Option.bind_eq_some_iff.mp hf
              try dsimp only at hf
              refine ct_call (va_runV (As := [.int ((va_up (va_up (va_up (va_up (va_up (va_up E 0 p0) 1 10201) 2 p1) 3 0) 4 0) 5 101) 5), .int 101]) (rest := [.ref (ad 40)]) ⟨hx, hb, hml, hown, hts⟩ (C_X0_power l D tys nw hn hnw hj htI htR (res := u16) g17) (cwV 2 hts gX0_become_X0_power rfl rfl rfl (by decide +kernel) ⟨Nat.le_of_ble_eq_true rfl, Nat.le_of_ble_eq_true rfl⟩) (ct_preV hn hP hK hN (ci := 0) (k := 40) rfl (by decide) rfl) rfl rfl hl.1 rfl (lv_room (Nat.le_of_ble_eq_true rfl)) dX0_become_122 ⟨Nat.zero_le _, Nat.zero_le _⟩) hS (fun H locs hP hS => ?_)
              refine va_put (ci := 0) (v := .int u16) (ty := .int) (C := RX0) (T := TX0) (N := 8) hx hb hts (by decide +kernel) tyX0 tyX0_ok nmX0 hown hK hP (ww_D hj) hS 40 cc_ext rfl 6 (by decide) (hts (.fieldLink RX0 30 "NumberFieldFactors$Extension" "mateOfT" "I") (by decide +kernel)) (fun _ h9 => h9) rfl (by decide +kernel) rfl rfl (Nat.le_of_ble_eq_true rfl) dX0_become_125 (fun H locs hP hD hS => ?_)
              have hP := cs_E6 hP
              refine lv_aload_n hx hb dX0_become_128 rfl (lv_at hl 2 rfl) ?_
              refine lv_aload_n hx hb dX0_become_129 rfl (lv_at hl 2 rfl) ?_
              refine lv_aload_n hx hb dX0_become_130 rfl (lv_at hl 2 rfl) ?_
              refine va_get (ci := 0) (v := .int ((va_up (va_up (va_up (va_up (va_up (va_up (va_up E 0 p0) 1 10201) 2 p1) 3 0) 4 0) 5 101) 6 u16) 6)) (C := RX0) (T := TX0) (N := 8) hx hb hts (by decide +kernel) hown hK hP 40 cc_ext rfl 6 (by decide) (hts (.fieldLink RX0 30 "NumberFieldFactors$Extension" "mateOfT" "I") (by decide +kernel)) (fun _ h9 => h9) rfl dX0_become_131 ?_
              refine lv_aload_n hx hb dX0_become_134 rfl (lv_at hl 2 rfl) ?_
              refine va_get (ci := 0) (v := .int ((va_up (va_up (va_up (va_up (va_up (va_up (va_up E 0 p0) 1 10201) 2 p1) 3 0) 4 0) 5 101) 6 u16) 6)) (C := RX0) (T := TX0) (N := 8) hx hb hts (by decide +kernel) hown hK hP 40 cc_ext rfl 6 (by decide) (hts (.fieldLink RX0 30 "NumberFieldFactors$Extension" "mateOfT" "I") (by decide +kernel)) (fun _ h9 => h9) rfl dX0_become_135 ?_
              obtain ⟨u18, g19, hf⟩ := Option.bind_eq_some_iff.mp hf
              try dsimp only at hf
              refine ct_call (va_runV (As := [.int ((va_up (va_up (va_up (va_up (va_up (va_up (va_up E 0 p0) 1 10201) 2 p1) 3 0) 4 0) 5 101) 6 u16) 6), .int ((va_up (va_up (va_up (va_up (va_up (va_up (va_up E 0 p0) 1 10201) 2 p1) 3 0) 4 0) 5 101) 6 u16) 6)]) (rest := [.ref (ad 40)]) ⟨hx, hb, hml, hown, hts⟩ (C_X0_times l D tys nw hn hnw hj htI htR (res := u18) g19) (cwV 2 hts gX0_become_X0_times rfl rfl rfl (by decide +kernel) ⟨Nat.le_of_ble_eq_true rfl, Nat.le_of_ble_eq_true rfl⟩) (ct_preV hn hP hK hN (ci := 0) (k := 40) rfl (by decide) rfl) rfl rfl hl.1 rfl (lv_room (Nat.le_of_ble_eq_true rfl)) dX0_become_138 ⟨Nat.zero_le _, Nat.zero_le _⟩) hS (fun H locs hP hS => ?_)
              refine va_put (ci := 0) (v := .int u18) (ty := .int) (C := RX0) (T := TX0) (N := 8) hx hb hts (by decide +kernel) tyX0 tyX0_ok nmX0 hown hK hP (ww_D hj) hS 40 cc_ext rfl 7 (by decide) (hts (.fieldLink RX0 33 "NumberFieldFactors$Extension" "mateOfTSquared" "I") (by decide +kernel)) (fun _ h9 => h9) rfl (by decide +kernel) rfl rfl (Nat.le_of_ble_eq_true rfl) dX0_become_141 (fun H locs hP hD hS => ?_)
              have hP := cs_E7 hP
              refine lv_iconst (v := 1) hx hb dX0_become_144 (by decide) ?_
              obtain rfl := Option.some.inj hf
              exact W.zret (v := 1) (ty := .boolean) hx hb hr (by decide) (fun t ht hW => ⟨rfl, by rw [ht]; exact hP, hS.F ht⟩) hS.2.2 dX0_become_145
            · rw [if_pos c15] at hf
              refine lv_bipush (v := 101) hx hb dX0_become_99 (by decide) ?_
              refine lv_iload_n hx hb dX0_become_101 rfl (lv_at hl 4 rfl) ?_
              refine lv_isub hx hb dX0_become_102 ?_
              refine lv_bipush (v := 101) hx hb dX0_become_103 (by decide) ?_
              refine jv_irem hx hb dX0_become_105 (by decide) ?_
              refine lv_goto (tgt := 111) hx hb dX0_become_106 (by decide) ?_
              refine va_put (ci := 0) (v := .int (jrem (101 - p1) 101)) (ty := .int) (C := RX0) (T := TX0) (N := 8) hx hb hts (by decide +kernel) tyX0 tyX0_ok nmX0 hown hK hP (ww_D hj) hS 40 cc_ext rfl 5 (by decide) (hts (.fieldLink RX0 27 "NumberFieldFactors$Extension" "t" "I") (by decide +kernel)) (fun _ h9 => h9) rfl (by decide +kernel) rfl rfl (Nat.le_of_ble_eq_true rfl) dX0_become_111 (fun H locs hP hD hS => ?_)
              have hP := cs_E5 hP
              refine lv_aload_n hx hb dX0_become_114 rfl (lv_at hl 2 rfl) ?_
              refine lv_aload_n hx hb dX0_become_115 rfl (lv_at hl 2 rfl) ?_
              refine lv_aload_n hx hb dX0_become_116 rfl (lv_at hl 2 rfl) ?_
              refine va_get (ci := 0) (v := .int ((va_up (va_up (va_up (va_up (va_up (va_up E 0 p0) 1 10201) 2 p1) 3 0) 4 0) 5 (jrem (101 - p1) 101)) 5)) (C := RX0) (T := TX0) (N := 8) hx hb hts (by decide +kernel) hown hK hP 40 cc_ext rfl 5 (by decide) (hts (.fieldLink RX0 27 "NumberFieldFactors$Extension" "t" "I") (by decide +kernel)) (fun _ h9 => h9) rfl dX0_become_117 ?_
              refine lv_bipush (v := 101) hx hb dX0_become_120 (by decide) ?_
              obtain ⟨u20, g21, hf⟩ := Option.bind_eq_some_iff.mp hf
              try dsimp only at hf
              refine ct_call (va_runV (As := [.int ((va_up (va_up (va_up (va_up (va_up (va_up E 0 p0) 1 10201) 2 p1) 3 0) 4 0) 5 (jrem (101 - p1) 101)) 5), .int 101]) (rest := [.ref (ad 40)]) ⟨hx, hb, hml, hown, hts⟩ (C_X0_power l D tys nw hn hnw hj htI htR (res := u20) g21) (cwV 2 hts gX0_become_X0_power rfl rfl rfl (by decide +kernel) ⟨Nat.le_of_ble_eq_true rfl, Nat.le_of_ble_eq_true rfl⟩) (ct_preV hn hP hK hN (ci := 0) (k := 40) rfl (by decide) rfl) rfl rfl hl.1 rfl (lv_room (Nat.le_of_ble_eq_true rfl)) dX0_become_122 ⟨Nat.zero_le _, Nat.zero_le _⟩) hS (fun H locs hP hS => ?_)
              refine va_put (ci := 0) (v := .int u20) (ty := .int) (C := RX0) (T := TX0) (N := 8) hx hb hts (by decide +kernel) tyX0 tyX0_ok nmX0 hown hK hP (ww_D hj) hS 40 cc_ext rfl 6 (by decide) (hts (.fieldLink RX0 30 "NumberFieldFactors$Extension" "mateOfT" "I") (by decide +kernel)) (fun _ h9 => h9) rfl (by decide +kernel) rfl rfl (Nat.le_of_ble_eq_true rfl) dX0_become_125 (fun H locs hP hD hS => ?_)
              have hP := cs_E6 hP
              refine lv_aload_n hx hb dX0_become_128 rfl (lv_at hl 2 rfl) ?_
              refine lv_aload_n hx hb dX0_become_129 rfl (lv_at hl 2 rfl) ?_
              refine lv_aload_n hx hb dX0_become_130 rfl (lv_at hl 2 rfl) ?_
              refine va_get (ci := 0) (v := .int ((va_up (va_up (va_up (va_up (va_up (va_up (va_up E 0 p0) 1 10201) 2 p1) 3 0) 4 0) 5 (jrem (101 - p1) 101)) 6 u20) 6)) (C := RX0) (T := TX0) (N := 8) hx hb hts (by decide +kernel) hown hK hP 40 cc_ext rfl 6 (by decide) (hts (.fieldLink RX0 30 "NumberFieldFactors$Extension" "mateOfT" "I") (by decide +kernel)) (fun _ h9 => h9) rfl dX0_become_131 ?_
              refine lv_aload_n hx hb dX0_become_134 rfl (lv_at hl 2 rfl) ?_
              refine va_get (ci := 0) (v := .int ((va_up (va_up (va_up (va_up (va_up (va_up (va_up E 0 p0) 1 10201) 2 p1) 3 0) 4 0) 5 (jrem (101 - p1) 101)) 6 u20) 6)) (C := RX0) (T := TX0) (N := 8) hx hb hts (by decide +kernel) hown hK hP 40 cc_ext rfl 6 (by decide) (hts (.fieldLink RX0 30 "NumberFieldFactors$Extension" "mateOfT" "I") (by decide +kernel)) (fun _ h9 => h9) rfl dX0_become_135 ?_
              obtain ⟨u22, g23, hf⟩ := Option.bind_eq_some_iff.mp hf
              try dsimp only at hf
              refine ct_call (va_runV (As := [.int ((va_up (va_up (va_up (va_up (va_up (va_up (va_up E 0 p0) 1 10201) 2 p1) 3 0) 4 0) 5 (jrem (101 - p1) 101)) 6 u20) 6), .int ((va_up (va_up (va_up (va_up (va_up (va_up (va_up E 0 p0) 1 10201) 2 p1) 3 0) 4 0) 5 (jrem (101 - p1) 101)) 6 u20) 6)]) (rest := [.ref (ad 40)]) ⟨hx, hb, hml, hown, hts⟩ (C_X0_times l D tys nw hn hnw hj htI htR (res := u22) g23) (cwV 2 hts gX0_become_X0_times rfl rfl rfl (by decide +kernel) ⟨Nat.le_of_ble_eq_true rfl, Nat.le_of_ble_eq_true rfl⟩) (ct_preV hn hP hK hN (ci := 0) (k := 40) rfl (by decide) rfl) rfl rfl hl.1 rfl (lv_room (Nat.le_of_ble_eq_true rfl)) dX0_become_138 ⟨Nat.zero_le _, Nat.zero_le _⟩) hS (fun H locs hP hS => ?_)
              refine va_put (ci := 0) (v := .int u22) (ty := .int) (C := RX0) (T := TX0) (N := 8) hx hb hts (by decide +kernel) tyX0 tyX0_ok nmX0 hown hK hP (ww_D hj) hS 40 cc_ext rfl 7 (by decide) (hts (.fieldLink RX0 33 "NumberFieldFactors$Extension" "mateOfTSquared" "I") (by decide +kernel)) (fun _ h9 => h9) rfl (by decide +kernel) rfl rfl (Nat.le_of_ble_eq_true rfl) dX0_become_141 (fun H locs hP hD hS => ?_)
              have hP := cs_E7 hP
              refine lv_iconst (v := 1) hx hb dX0_become_144 (by decide) ?_
              obtain rfl := Option.some.inj hf
              exact W.zret (v := 1) (ty := .boolean) hx hb hr (by decide) (fun t ht hW => ⟨rfl, by rw [ht]; exact hP, hS.F ht⟩) hS.2.2 dX0_become_145
        · rw [if_pos c4] at hf
          refine lv_bipush (v := 101) hx hb dX0_become_55 (by decide) ?_
          refine lv_goto (tgt := 73) hx hb dX0_become_57 (by decide) ?_
          refine va_put (ci := 0) (v := .int 101) (ty := .int) (C := RX0) (T := TX0) (N := 8) hx hb hts (by decide +kernel) tyX0 tyX0_ok nmX0 hown hK hP (ww_D hj) hS 40 cc_ext rfl 1 (by decide) (hts (.fieldLink RX0 15 "NumberFieldFactors$Extension" "size" "I") (by decide +kernel)) (fun _ h9 => h9) rfl (by decide +kernel) rfl rfl (Nat.le_of_ble_eq_true rfl) dX0_become_73 (fun H locs hP hD hS => ?_)
          have hP := cs_E1 hP
          refine lv_aload_n hx hb dX0_become_76 rfl (lv_at hl 2 rfl) ?_
          refine lv_iload_n hx hb dX0_become_77 rfl (lv_at hl 4 rfl) ?_
          refine va_put (ci := 0) (v := .int p1) (ty := .int) (C := RX0) (T := TX0) (N := 8) hx hb hts (by decide +kernel) tyX0 tyX0_ok nmX0 hown hK hP (ww_D hj) hS 40 cc_ext rfl 2 (by decide) (hts (.fieldLink RX0 18 "NumberFieldFactors$Extension" "low0" "I") (by decide +kernel)) (fun _ h9 => h9) rfl (by decide +kernel) rfl rfl (Nat.le_of_ble_eq_true rfl) dX0_become_78 (fun H locs hP hD hS => ?_)
          have hP := cs_E2 hP
          refine lv_aload_n hx hb dX0_become_81 rfl (lv_at hl 2 rfl) ?_
          refine lv_iload hx hb dX0_become_82 (lv_at hl 1 rfl) ?_
          refine va_put (ci := 0) (v := .int 0) (ty := .int) (C := RX0) (T := TX0) (N := 8) hx hb hts (by decide +kernel) tyX0 tyX0_ok nmX0 hown hK hP (ww_D hj) hS 40 cc_ext rfl 3 (by decide) (hts (.fieldLink RX0 21 "NumberFieldFactors$Extension" "low1" "I") (by decide +kernel)) (fun _ h9 => h9) rfl (by decide +kernel) rfl rfl (Nat.le_of_ble_eq_true rfl) dX0_become_84 (fun H locs hP hD hS => ?_)
          have hP := cs_E3 hP
          refine lv_aload_n hx hb dX0_become_87 rfl (lv_at hl 2 rfl) ?_
          refine lv_iload hx hb dX0_become_88 (lv_at hl 0 rfl) ?_
          refine va_put (ci := 0) (v := .int 0) (ty := .int) (C := RX0) (T := TX0) (N := 8) hx hb hts (by decide +kernel) tyX0 tyX0_ok nmX0 hown hK hP (ww_D hj) hS 40 cc_ext rfl 4 (by decide) (hts (.fieldLink RX0 24 "NumberFieldFactors$Extension" "low2" "I") (by decide +kernel)) (fun _ h9 => h9) rfl (by decide +kernel) rfl rfl (Nat.le_of_ble_eq_true rfl) dX0_become_90 (fun H locs hP hD hS => ?_)
          have hP := cs_E4 hP
          refine lv_aload_n hx hb dX0_become_93 rfl (lv_at hl 2 rfl) ?_
          refine lv_iload_n hx hb dX0_become_94 rfl (lv_at hl 3 rfl) ?_
          refine lv_iconst (v := 1) hx hb dX0_become_95 (by decide) ?_
          refine lv_icmp_ne (tgt := 109) hx hb dX0_become_96 (by decide) (fun c24 => ?_) (fun c24 => ?_)
          · rw [if_neg c24] at hf
            refine lv_bipush (v := 101) hx hb dX0_become_109 (by decide) ?_
            refine va_put (ci := 0) (v := .int 101) (ty := .int) (C := RX0) (T := TX0) (N := 8) hx hb hts (by decide +kernel) tyX0 tyX0_ok nmX0 hown hK hP (ww_D hj) hS 40 cc_ext rfl 5 (by decide) (hts (.fieldLink RX0 27 "NumberFieldFactors$Extension" "t" "I") (by decide +kernel)) (fun _ h9 => h9) rfl (by decide +kernel) rfl rfl (Nat.le_of_ble_eq_true rfl) dX0_become_111 (fun H locs hP hD hS => ?_)
            have hP := cs_E5 hP
            refine lv_aload_n hx hb dX0_become_114 rfl (lv_at hl 2 rfl) ?_
            refine lv_aload_n hx hb dX0_become_115 rfl (lv_at hl 2 rfl) ?_
            refine lv_aload_n hx hb dX0_become_116 rfl (lv_at hl 2 rfl) ?_
            refine va_get (ci := 0) (v := .int ((va_up (va_up (va_up (va_up (va_up (va_up E 0 p0) 1 101) 2 p1) 3 0) 4 0) 5 101) 5)) (C := RX0) (T := TX0) (N := 8) hx hb hts (by decide +kernel) hown hK hP 40 cc_ext rfl 5 (by decide) (hts (.fieldLink RX0 27 "NumberFieldFactors$Extension" "t" "I") (by decide +kernel)) (fun _ h9 => h9) rfl dX0_become_117 ?_
            refine lv_bipush (v := 101) hx hb dX0_become_120 (by decide) ?_
            obtain ⟨u25, g26, hf⟩ := Option.bind_eq_some_iff.mp hf
            try dsimp only at hf
            refine ct_call (va_runV (As := [.int ((va_up (va_up (va_up (va_up (va_up (va_up E 0 p0) 1 101) 2 p1) 3 0) 4 0) 5 101) 5), .int 101]) (rest := [.ref (ad 40)]) ⟨hx, hb, hml, hown, hts⟩ (C_X0_power l D tys nw hn hnw hj htI htR (res := u25) g26) (cwV 2 hts gX0_become_X0_power rfl rfl rfl (by decide +kernel) ⟨Nat.le_of_ble_eq_true rfl, Nat.le_of_ble_eq_true rfl⟩) (ct_preV hn hP hK hN (ci := 0) (k := 40) rfl (by decide) rfl) rfl rfl hl.1 rfl (lv_room (Nat.le_of_ble_eq_true rfl)) dX0_become_122 ⟨Nat.zero_le _, Nat.zero_le _⟩) hS (fun H locs hP hS => ?_)
            refine va_put (ci := 0) (v := .int u25) (ty := .int) (C := RX0) (T := TX0) (N := 8) hx hb hts (by decide +kernel) tyX0 tyX0_ok nmX0 hown hK hP (ww_D hj) hS 40 cc_ext rfl 6 (by decide) (hts (.fieldLink RX0 30 "NumberFieldFactors$Extension" "mateOfT" "I") (by decide +kernel)) (fun _ h9 => h9) rfl (by decide +kernel) rfl rfl (Nat.le_of_ble_eq_true rfl) dX0_become_125 (fun H locs hP hD hS => ?_)
            have hP := cs_E6 hP
            refine lv_aload_n hx hb dX0_become_128 rfl (lv_at hl 2 rfl) ?_
            refine lv_aload_n hx hb dX0_become_129 rfl (lv_at hl 2 rfl) ?_
            refine lv_aload_n hx hb dX0_become_130 rfl (lv_at hl 2 rfl) ?_
            refine va_get (ci := 0) (v := .int ((va_up (va_up (va_up (va_up (va_up (va_up (va_up E 0 p0) 1 101) 2 p1) 3 0) 4 0) 5 101) 6 u25) 6)) (C := RX0) (T := TX0) (N := 8) hx hb hts (by decide +kernel) hown hK hP 40 cc_ext rfl 6 (by decide) (hts (.fieldLink RX0 30 "NumberFieldFactors$Extension" "mateOfT" "I") (by decide +kernel)) (fun _ h9 => h9) rfl dX0_become_131 ?_
            refine lv_aload_n hx hb dX0_become_134 rfl (lv_at hl 2 rfl) ?_
            refine va_get (ci := 0) (v := .int ((va_up (va_up (va_up (va_up (va_up (va_up (va_up E 0 p0) 1 101) 2 p1) 3 0) 4 0) 5 101) 6 u25) 6)) (C := RX0) (T := TX0) (N := 8) hx hb hts (by decide +kernel) hown hK hP 40 cc_ext rfl 6 (by decide) (hts (.fieldLink RX0 30 "NumberFieldFactors$Extension" "mateOfT" "I") (by decide +kernel)) (fun _ h9 => h9) rfl dX0_become_135 ?_
            obtain ⟨u27, g28, hf⟩ := Option.bind_eq_some_iff.mp hf
            try dsimp only at hf
            refine ct_call (va_runV (As := [.int ((va_up (va_up (va_up (va_up (va_up (va_up (va_up E 0 p0) 1 101) 2 p1) 3 0) 4 0) 5 101) 6 u25) 6), .int ((va_up (va_up (va_up (va_up (va_up (va_up (va_up E 0 p0) 1 101) 2 p1) 3 0) 4 0) 5 101) 6 u25) 6)]) (rest := [.ref (ad 40)]) ⟨hx, hb, hml, hown, hts⟩ (C_X0_times l D tys nw hn hnw hj htI htR (res := u27) g28) (cwV 2 hts gX0_become_X0_times rfl rfl rfl (by decide +kernel) ⟨Nat.le_of_ble_eq_true rfl, Nat.le_of_ble_eq_true rfl⟩) (ct_preV hn hP hK hN (ci := 0) (k := 40) rfl (by decide) rfl) rfl rfl hl.1 rfl (lv_room (Nat.le_of_ble_eq_true rfl)) dX0_become_138 ⟨Nat.zero_le _, Nat.zero_le _⟩) hS (fun H locs hP hS => ?_)
            refine va_put (ci := 0) (v := .int u27) (ty := .int) (C := RX0) (T := TX0) (N := 8) hx hb hts (by decide +kernel) tyX0 tyX0_ok nmX0 hown hK hP (ww_D hj) hS 40 cc_ext rfl 7 (by decide) (hts (.fieldLink RX0 33 "NumberFieldFactors$Extension" "mateOfTSquared" "I") (by decide +kernel)) (fun _ h9 => h9) rfl (by decide +kernel) rfl rfl (Nat.le_of_ble_eq_true rfl) dX0_become_141 (fun H locs hP hD hS => ?_)
            have hP := cs_E7 hP
            refine lv_iconst (v := 1) hx hb dX0_become_144 (by decide) ?_
            obtain rfl := Option.some.inj hf
            exact W.zret (v := 1) (ty := .boolean) hx hb hr (by decide) (fun t ht hW => ⟨rfl, by rw [ht]; exact hP, hS.F ht⟩) hS.2.2 dX0_become_145
          · rw [if_pos c24] at hf
            refine lv_bipush (v := 101) hx hb dX0_become_99 (by decide) ?_
            refine lv_iload_n hx hb dX0_become_101 rfl (lv_at hl 4 rfl) ?_
            refine lv_isub hx hb dX0_become_102 ?_
            refine lv_bipush (v := 101) hx hb dX0_become_103 (by decide) ?_
            refine jv_irem hx hb dX0_become_105 (by decide) ?_
            refine lv_goto (tgt := 111) hx hb dX0_become_106 (by decide) ?_
            refine va_put (ci := 0) (v := .int (jrem (101 - p1) 101)) (ty := .int) (C := RX0) (T := TX0) (N := 8) hx hb hts (by decide +kernel) tyX0 tyX0_ok nmX0 hown hK hP (ww_D hj) hS 40 cc_ext rfl 5 (by decide) (hts (.fieldLink RX0 27 "NumberFieldFactors$Extension" "t" "I") (by decide +kernel)) (fun _ h9 => h9) rfl (by decide +kernel) rfl rfl (Nat.le_of_ble_eq_true rfl) dX0_become_111 (fun H locs hP hD hS => ?_)
            have hP := cs_E5 hP
            refine lv_aload_n hx hb dX0_become_114 rfl (lv_at hl 2 rfl) ?_
            refine lv_aload_n hx hb dX0_become_115 rfl (lv_at hl 2 rfl) ?_
            refine lv_aload_n hx hb dX0_become_116 rfl (lv_at hl 2 rfl) ?_
            refine va_get (ci := 0) (v := .int ((va_up (va_up (va_up (va_up (va_up (va_up E 0 p0) 1 101) 2 p1) 3 0) 4 0) 5 (jrem (101 - p1) 101)) 5)) (C := RX0) (T := TX0) (N := 8) hx hb hts (by decide +kernel) hown hK hP 40 cc_ext rfl 5 (by decide) (hts (.fieldLink RX0 27 "NumberFieldFactors$Extension" "t" "I") (by decide +kernel)) (fun _ h9 => h9) rfl dX0_become_117 ?_
            refine lv_bipush (v := 101) hx hb dX0_become_120 (by decide) ?_
            obtain ⟨u29, g30, hf⟩ := Option.bind_eq_some_iff.mp hf
            try dsimp only at hf
            refine ct_call (va_runV (As := [.int ((va_up (va_up (va_up (va_up (va_up (va_up E 0 p0) 1 101) 2 p1) 3 0) 4 0) 5 (jrem (101 - p1) 101)) 5), .int 101]) (rest := [.ref (ad 40)]) ⟨hx, hb, hml, hown, hts⟩ (C_X0_power l D tys nw hn hnw hj htI htR (res := u29) g30) (cwV 2 hts gX0_become_X0_power rfl rfl rfl (by decide +kernel) ⟨Nat.le_of_ble_eq_true rfl, Nat.le_of_ble_eq_true rfl⟩) (ct_preV hn hP hK hN (ci := 0) (k := 40) rfl (by decide) rfl) rfl rfl hl.1 rfl (lv_room (Nat.le_of_ble_eq_true rfl)) dX0_become_122 ⟨Nat.zero_le _, Nat.zero_le _⟩) hS (fun H locs hP hS => ?_)
            refine va_put (ci := 0) (v := .int u29) (ty := .int) (C := RX0) (T := TX0) (N := 8) hx hb hts (by decide +kernel) tyX0 tyX0_ok nmX0 hown hK hP (ww_D hj) hS 40 cc_ext rfl 6 (by decide) (hts (.fieldLink RX0 30 "NumberFieldFactors$Extension" "mateOfT" "I") (by decide +kernel)) (fun _ h9 => h9) rfl (by decide +kernel) rfl rfl (Nat.le_of_ble_eq_true rfl) dX0_become_125 (fun H locs hP hD hS => ?_)
            have hP := cs_E6 hP
            refine lv_aload_n hx hb dX0_become_128 rfl (lv_at hl 2 rfl) ?_
            refine lv_aload_n hx hb dX0_become_129 rfl (lv_at hl 2 rfl) ?_
            refine lv_aload_n hx hb dX0_become_130 rfl (lv_at hl 2 rfl) ?_
            refine va_get (ci := 0) (v := .int ((va_up (va_up (va_up (va_up (va_up (va_up (va_up E 0 p0) 1 101) 2 p1) 3 0) 4 0) 5 (jrem (101 - p1) 101)) 6 u29) 6)) (C := RX0) (T := TX0) (N := 8) hx hb hts (by decide +kernel) hown hK hP 40 cc_ext rfl 6 (by decide) (hts (.fieldLink RX0 30 "NumberFieldFactors$Extension" "mateOfT" "I") (by decide +kernel)) (fun _ h9 => h9) rfl dX0_become_131 ?_
            refine lv_aload_n hx hb dX0_become_134 rfl (lv_at hl 2 rfl) ?_
            refine va_get (ci := 0) (v := .int ((va_up (va_up (va_up (va_up (va_up (va_up (va_up E 0 p0) 1 101) 2 p1) 3 0) 4 0) 5 (jrem (101 - p1) 101)) 6 u29) 6)) (C := RX0) (T := TX0) (N := 8) hx hb hts (by decide +kernel) hown hK hP 40 cc_ext rfl 6 (by decide) (hts (.fieldLink RX0 30 "NumberFieldFactors$Extension" "mateOfT" "I") (by decide +kernel)) (fun _ h9 => h9) rfl dX0_become_135 ?_
            obtain ⟨u31, g32, hf⟩ := Option.bind_eq_some_iff.mp hf
            try dsimp only at hf
            refine ct_call (va_runV (As := [.int ((va_up (va_up (va_up (va_up (va_up (va_up (va_up E 0 p0) 1 101) 2 p1) 3 0) 4 0) 5 (jrem (101 - p1) 101)) 6 u29) 6), .int ((va_up (va_up (va_up (va_up (va_up (va_up (va_up E 0 p0) 1 101) 2 p1) 3 0) 4 0) 5 (jrem (101 - p1) 101)) 6 u29) 6)]) (rest := [.ref (ad 40)]) ⟨hx, hb, hml, hown, hts⟩ (C_X0_times l D tys nw hn hnw hj htI htR (res := u31) g32) (cwV 2 hts gX0_become_X0_times rfl rfl rfl (by decide +kernel) ⟨Nat.le_of_ble_eq_true rfl, Nat.le_of_ble_eq_true rfl⟩) (ct_preV hn hP hK hN (ci := 0) (k := 40) rfl (by decide) rfl) rfl rfl hl.1 rfl (lv_room (Nat.le_of_ble_eq_true rfl)) dX0_become_138 ⟨Nat.zero_le _, Nat.zero_le _⟩) hS (fun H locs hP hS => ?_)
            refine va_put (ci := 0) (v := .int u31) (ty := .int) (C := RX0) (T := TX0) (N := 8) hx hb hts (by decide +kernel) tyX0 tyX0_ok nmX0 hown hK hP (ww_D hj) hS 40 cc_ext rfl 7 (by decide) (hts (.fieldLink RX0 33 "NumberFieldFactors$Extension" "mateOfTSquared" "I") (by decide +kernel)) (fun _ h9 => h9) rfl (by decide +kernel) rfl rfl (Nat.le_of_ble_eq_true rfl) dX0_become_141 (fun H locs hP hD hS => ?_)
            have hP := cs_E7 hP
            refine lv_iconst (v := 1) hx hb dX0_become_144 (by decide) ?_
            obtain rfl := Option.some.inj hf
            exact W.zret (v := 1) (ty := .boolean) hx hb hr (by decide) (fun t ht hW => ⟨rfl, by rw [ht]; exact hP, hS.F ht⟩) hS.2.2 dX0_become_145
      · rw [if_neg c3] at hf
        refine lv_iload_n hx hb dX0_become_30 rfl (lv_at hl 3 rfl) ?_
        refine lv_iload_n hx hb dX0_become_31 rfl (lv_at hl 4 rfl) ?_
        refine lv_iload hx hb dX0_become_32 (lv_at hl 1 rfl) ?_
        refine lv_iload hx hb dX0_become_34 (lv_at hl 0 rfl) ?_
        obtain ⟨u33, g34, hf⟩ := Option.bind_eq_some_iff.mp hf
        try dsimp only at hf
        refine ct_call (va_runS (As := [.int p0, .int p1, .int 0, .int 0]) (rest := []) ⟨hx, hb, hml, hown, hts⟩ (C_X0_hasRoot l D tys nw hn hnw hj htI htR (res := u33) g34) (cwS 4 hts gX0_become_X0_hasRoot rfl rfl rfl (by decide +kernel) ⟨Nat.le_of_ble_eq_true rfl, Nat.le_of_ble_eq_true rfl⟩) (ct_preS hn hP hK hN) rfl rfl hl.1 rfl (lv_room (Nat.le_of_ble_eq_true rfl)) dX0_become_36 ⟨Nat.zero_le _, Nat.zero_le _⟩) hS (fun H locs hP hS => ?_)
        refine lv_if_eq (tgt := 44) hx hb dX0_become_39 (by decide) (fun c35 => ?_) (fun c35 => ?_)
        · rw [if_pos c35] at hf
          refine lv_aload_n hx hb dX0_become_44 rfl (lv_at hl 2 rfl) ?_
          refine lv_iload_n hx hb dX0_become_45 rfl (lv_at hl 3 rfl) ?_
          refine va_put (ci := 0) (v := .int p0) (ty := .int) (C := RX0) (T := TX0) (N := 8) hx hb hts (by decide +kernel) tyX0 tyX0_ok nmX0 hown hK hP (ww_D hj) hS 40 cc_ext rfl 0 (by decide) (hts (.fieldLink RX0 9 "NumberFieldFactors$Extension" "degree" "I") (by decide +kernel)) (fun _ h9 => h9) rfl (by decide +kernel) rfl rfl (Nat.le_of_ble_eq_true rfl) dX0_become_46 (fun H locs hP hD hS => ?_)
          have hP := cs_E0 hP
          refine lv_aload_n hx hb dX0_become_49 rfl (lv_at hl 2 rfl) ?_
          refine lv_iload_n hx hb dX0_become_50 rfl (lv_at hl 3 rfl) ?_
          refine lv_iconst (v := 1) hx hb dX0_become_51 (by decide) ?_
          refine lv_icmp_ne (tgt := 60) hx hb dX0_become_52 (by decide) (fun c36 => ?_) (fun c36 => ?_)
          · rw [if_neg c36] at hf
            refine lv_iload_n hx hb dX0_become_60 rfl (lv_at hl 3 rfl) ?_
            refine lv_iconst (v := 2) hx hb dX0_become_61 (by decide) ?_
            refine lv_icmp_ne (tgt := 71) hx hb dX0_become_62 (by decide) (fun c37 => ?_) (fun c37 => ?_)
            · rw [if_neg c37] at hf
              refine lv_ldc (v := 1030301) hx hb hown (hts (.constant RX0 40 (1030301)) (by decide +kernel)) dX0_become_71 ?_
              refine va_put (ci := 0) (v := .int 1030301) (ty := .int) (C := RX0) (T := TX0) (N := 8) hx hb hts (by decide +kernel) tyX0 tyX0_ok nmX0 hown hK hP (ww_D hj) hS 40 cc_ext rfl 1 (by decide) (hts (.fieldLink RX0 15 "NumberFieldFactors$Extension" "size" "I") (by decide +kernel)) (fun _ h9 => h9) rfl (by decide +kernel) rfl rfl (Nat.le_of_ble_eq_true rfl) dX0_become_73 (fun H locs hP hD hS => ?_)
              have hP := cs_E1 hP
              refine lv_aload_n hx hb dX0_become_76 rfl (lv_at hl 2 rfl) ?_
              refine lv_iload_n hx hb dX0_become_77 rfl (lv_at hl 4 rfl) ?_
              refine va_put (ci := 0) (v := .int p1) (ty := .int) (C := RX0) (T := TX0) (N := 8) hx hb hts (by decide +kernel) tyX0 tyX0_ok nmX0 hown hK hP (ww_D hj) hS 40 cc_ext rfl 2 (by decide) (hts (.fieldLink RX0 18 "NumberFieldFactors$Extension" "low0" "I") (by decide +kernel)) (fun _ h9 => h9) rfl (by decide +kernel) rfl rfl (Nat.le_of_ble_eq_true rfl) dX0_become_78 (fun H locs hP hD hS => ?_)
              have hP := cs_E2 hP
              refine lv_aload_n hx hb dX0_become_81 rfl (lv_at hl 2 rfl) ?_
              refine lv_iload hx hb dX0_become_82 (lv_at hl 1 rfl) ?_
              refine va_put (ci := 0) (v := .int 0) (ty := .int) (C := RX0) (T := TX0) (N := 8) hx hb hts (by decide +kernel) tyX0 tyX0_ok nmX0 hown hK hP (ww_D hj) hS 40 cc_ext rfl 3 (by decide) (hts (.fieldLink RX0 21 "NumberFieldFactors$Extension" "low1" "I") (by decide +kernel)) (fun _ h9 => h9) rfl (by decide +kernel) rfl rfl (Nat.le_of_ble_eq_true rfl) dX0_become_84 (fun H locs hP hD hS => ?_)
              have hP := cs_E3 hP
              refine lv_aload_n hx hb dX0_become_87 rfl (lv_at hl 2 rfl) ?_
              refine lv_iload hx hb dX0_become_88 (lv_at hl 0 rfl) ?_
              refine va_put (ci := 0) (v := .int 0) (ty := .int) (C := RX0) (T := TX0) (N := 8) hx hb hts (by decide +kernel) tyX0 tyX0_ok nmX0 hown hK hP (ww_D hj) hS 40 cc_ext rfl 4 (by decide) (hts (.fieldLink RX0 24 "NumberFieldFactors$Extension" "low2" "I") (by decide +kernel)) (fun _ h9 => h9) rfl (by decide +kernel) rfl rfl (Nat.le_of_ble_eq_true rfl) dX0_become_90 (fun H locs hP hD hS => ?_)
              have hP := cs_E4 hP
              refine lv_aload_n hx hb dX0_become_93 rfl (lv_at hl 2 rfl) ?_
              refine lv_iload_n hx hb dX0_become_94 rfl (lv_at hl 3 rfl) ?_
              refine lv_iconst (v := 1) hx hb dX0_become_95 (by decide) ?_
              refine lv_icmp_ne (tgt := 109) hx hb dX0_become_96 (by decide) (fun c38 => ?_) (fun c38 => ?_)
              · rw [if_neg c38] at hf
                refine lv_bipush (v := 101) hx hb dX0_become_109 (by decide) ?_
                refine va_put (ci := 0) (v := .int 101) (ty := .int) (C := RX0) (T := TX0) (N := 8) hx hb hts (by decide +kernel) tyX0 tyX0_ok nmX0 hown hK hP (ww_D hj) hS 40 cc_ext rfl 5 (by decide) (hts (.fieldLink RX0 27 "NumberFieldFactors$Extension" "t" "I") (by decide +kernel)) (fun _ h9 => h9) rfl (by decide +kernel) rfl rfl (Nat.le_of_ble_eq_true rfl) dX0_become_111 (fun H locs hP hD hS => ?_)
                have hP := cs_E5 hP
                refine lv_aload_n hx hb dX0_become_114 rfl (lv_at hl 2 rfl) ?_
                refine lv_aload_n hx hb dX0_become_115 rfl (lv_at hl 2 rfl) ?_
                refine lv_aload_n hx hb dX0_become_116 rfl (lv_at hl 2 rfl) ?_
                refine va_get (ci := 0) (v := .int ((va_up (va_up (va_up (va_up (va_up (va_up E 0 p0) 1 1030301) 2 p1) 3 0) 4 0) 5 101) 5)) (C := RX0) (T := TX0) (N := 8) hx hb hts (by decide +kernel) hown hK hP 40 cc_ext rfl 5 (by decide) (hts (.fieldLink RX0 27 "NumberFieldFactors$Extension" "t" "I") (by decide +kernel)) (fun _ h9 => h9) rfl dX0_become_117 ?_
                refine lv_bipush (v := 101) hx hb dX0_become_120 (by decide) ?_
                obtain ⟨u39, g40, hf⟩ := Option.bind_eq_some_iff.mp hf
                try dsimp only at hf
                refine ct_call (va_runV (As := [.int ((va_up (va_up (va_up (va_up (va_up (va_up E 0 p0) 1 1030301) 2 p1) 3 0) 4 0) 5 101) 5), .int 101]) (rest := [.ref (ad 40)]) ⟨hx, hb, hml, hown, hts⟩ (C_X0_power l D tys nw hn hnw hj htI htR (res := u39) g40) (cwV 2 hts gX0_become_X0_power rfl rfl rfl (by decide +kernel) ⟨Nat.le_of_ble_eq_true rfl, Nat.le_of_ble_eq_true rfl⟩) (ct_preV hn hP hK hN (ci := 0) (k := 40) rfl (by decide) rfl) rfl rfl hl.1 rfl (lv_room (Nat.le_of_ble_eq_true rfl)) dX0_become_122 ⟨Nat.zero_le _, Nat.zero_le _⟩) hS (fun H locs hP hS => ?_)
                refine va_put (ci := 0) (v := .int u39) (ty := .int) (C := RX0) (T := TX0) (N := 8) hx hb hts (by decide +kernel) tyX0 tyX0_ok nmX0 hown hK hP (ww_D hj) hS 40 cc_ext rfl 6 (by decide) (hts (.fieldLink RX0 30 "NumberFieldFactors$Extension" "mateOfT" "I") (by decide +kernel)) (fun _ h9 => h9) rfl (by decide +kernel) rfl rfl (Nat.le_of_ble_eq_true rfl) dX0_become_125 (fun H locs hP hD hS => ?_)
                have hP := cs_E6 hP
                refine lv_aload_n hx hb dX0_become_128 rfl (lv_at hl 2 rfl) ?_
                refine lv_aload_n hx hb dX0_become_129 rfl (lv_at hl 2 rfl) ?_
                refine lv_aload_n hx hb dX0_become_130 rfl (lv_at hl 2 rfl) ?_
                refine va_get (ci := 0) (v := .int ((va_up (va_up (va_up (va_up (va_up (va_up (va_up E 0 p0) 1 1030301) 2 p1) 3 0) 4 0) 5 101) 6 u39) 6)) (C := RX0) (T := TX0) (N := 8) hx hb hts (by decide +kernel) hown hK hP 40 cc_ext rfl 6 (by decide) (hts (.fieldLink RX0 30 "NumberFieldFactors$Extension" "mateOfT" "I") (by decide +kernel)) (fun _ h9 => h9) rfl dX0_become_131 ?_
                refine lv_aload_n hx hb dX0_become_134 rfl (lv_at hl 2 rfl) ?_
                refine va_get (ci := 0) (v := .int ((va_up (va_up (va_up (va_up (va_up (va_up (va_up E 0 p0) 1 1030301) 2 p1) 3 0) 4 0) 5 101) 6 u39) 6)) (C := RX0) (T := TX0) (N := 8) hx hb hts (by decide +kernel) hown hK hP 40 cc_ext rfl 6 (by decide) (hts (.fieldLink RX0 30 "NumberFieldFactors$Extension" "mateOfT" "I") (by decide +kernel)) (fun _ h9 => h9) rfl dX0_become_135 ?_
                obtain ⟨u41, g42, hf⟩ := Option.bind_eq_some_iff.mp hf
                try dsimp only at hf
                refine ct_call (va_runV (As := [.int ((va_up (va_up (va_up (va_up (va_up (va_up (va_up E 0 p0) 1 1030301) 2 p1) 3 0) 4 0) 5 101) 6 u39) 6), .int ((va_up (va_up (va_up (va_up (va_up (va_up (va_up E 0 p0) 1 1030301) 2 p1) 3 0) 4 0) 5 101) 6 u39) 6)]) (rest := [.ref (ad 40)]) ⟨hx, hb, hml, hown, hts⟩ (C_X0_times l D tys nw hn hnw hj htI htR (res := u41) g42) (cwV 2 hts gX0_become_X0_times rfl rfl rfl (by decide +kernel) ⟨Nat.le_of_ble_eq_true rfl, Nat.le_of_ble_eq_true rfl⟩) (ct_preV hn hP hK hN (ci := 0) (k := 40) rfl (by decide) rfl) rfl rfl hl.1 rfl (lv_room (Nat.le_of_ble_eq_true rfl)) dX0_become_138 ⟨Nat.zero_le _, Nat.zero_le _⟩) hS (fun H locs hP hS => ?_)
                refine va_put (ci := 0) (v := .int u41) (ty := .int) (C := RX0) (T := TX0) (N := 8) hx hb hts (by decide +kernel) tyX0 tyX0_ok nmX0 hown hK hP (ww_D hj) hS 40 cc_ext rfl 7 (by decide) (hts (.fieldLink RX0 33 "NumberFieldFactors$Extension" "mateOfTSquared" "I") (by decide +kernel)) (fun _ h9 => h9) rfl (by decide +kernel) rfl rfl (Nat.le_of_ble_eq_true rfl) dX0_become_141 (fun H locs hP hD hS => ?_)
                have hP := cs_E7 hP
                refine lv_iconst (v := 1) hx hb dX0_become_144 (by decide) ?_
                obtain rfl := Option.some.inj hf
                exact W.zret (v := 1) (ty := .boolean) hx hb hr (by decide) (fun t ht hW => ⟨rfl, by rw [ht]; exact hP, hS.F ht⟩) hS.2.2 dX0_become_145
              · rw [if_pos c38] at hf
                refine lv_bipush (v := 101) hx hb dX0_become_99 (by decide) ?_
                refine lv_iload_n hx hb dX0_become_101 rfl (lv_at hl 4 rfl) ?_
                refine lv_isub hx hb dX0_become_102 ?_
                refine lv_bipush (v := 101) hx hb dX0_become_103 (by decide) ?_
                refine jv_irem hx hb dX0_become_105 (by decide) ?_
                refine lv_goto (tgt := 111) hx hb dX0_become_106 (by decide) ?_
                refine va_put (ci := 0) (v := .int (jrem (101 - p1) 101)) (ty := .int) (C := RX0) (T := TX0) (N := 8) hx hb hts (by decide +kernel) tyX0 tyX0_ok nmX0 hown hK hP (ww_D hj) hS 40 cc_ext rfl 5 (by decide) (hts (.fieldLink RX0 27 "NumberFieldFactors$Extension" "t" "I") (by decide +kernel)) (fun _ h9 => h9) rfl (by decide +kernel) rfl rfl (Nat.le_of_ble_eq_true rfl) dX0_become_111 (fun H locs hP hD hS => ?_)
                have hP := cs_E5 hP
                refine lv_aload_n hx hb dX0_become_114 rfl (lv_at hl 2 rfl) ?_
                refine lv_aload_n hx hb dX0_become_115 rfl (lv_at hl 2 rfl) ?_
                refine lv_aload_n hx hb dX0_become_116 rfl (lv_at hl 2 rfl) ?_
                refine va_get (ci := 0) (v := .int ((va_up (va_up (va_up (va_up (va_up (va_up E 0 p0) 1 1030301) 2 p1) 3 0) 4 0) 5 (jrem (101 - p1) 101)) 5)) (C := RX0) (T := TX0) (N := 8) hx hb hts (by decide +kernel) hown hK hP 40 cc_ext rfl 5 (by decide) (hts (.fieldLink RX0 27 "NumberFieldFactors$Extension" "t" "I") (by decide +kernel)) (fun _ h9 => h9) rfl dX0_become_117 ?_
                refine lv_bipush (v := 101) hx hb dX0_become_120 (by decide) ?_
                obtain ⟨u43, g44, hf⟩ := Option.bind_eq_some_iff.mp hf
                try dsimp only at hf
                refine ct_call (va_runV (As := [.int ((va_up (va_up (va_up (va_up (va_up (va_up E 0 p0) 1 1030301) 2 p1) 3 0) 4 0) 5 (jrem (101 - p1) 101)) 5), .int 101]) (rest := [.ref (ad 40)]) ⟨hx, hb, hml, hown, hts⟩ (C_X0_power l D tys nw hn hnw hj htI htR (res := u43) g44) (cwV 2 hts gX0_become_X0_power rfl rfl rfl (by decide +kernel) ⟨Nat.le_of_ble_eq_true rfl, Nat.le_of_ble_eq_true rfl⟩) (ct_preV hn hP hK hN (ci := 0) (k := 40) rfl (by decide) rfl) rfl rfl hl.1 rfl (lv_room (Nat.le_of_ble_eq_true rfl)) dX0_become_122 ⟨Nat.zero_le _, Nat.zero_le _⟩) hS (fun H locs hP hS => ?_)
                refine va_put (ci := 0) (v := .int u43) (ty := .int) (C := RX0) (T := TX0) (N := 8) hx hb hts (by decide +kernel) tyX0 tyX0_ok nmX0 hown hK hP (ww_D hj) hS 40 cc_ext rfl 6 (by decide) (hts (.fieldLink RX0 30 "NumberFieldFactors$Extension" "mateOfT" "I") (by decide +kernel)) (fun _ h9 => h9) rfl (by decide +kernel) rfl rfl (Nat.le_of_ble_eq_true rfl) dX0_become_125 (fun H locs hP hD hS => ?_)
                have hP := cs_E6 hP
                refine lv_aload_n hx hb dX0_become_128 rfl (lv_at hl 2 rfl) ?_
                refine lv_aload_n hx hb dX0_become_129 rfl (lv_at hl 2 rfl) ?_
                refine lv_aload_n hx hb dX0_become_130 rfl (lv_at hl 2 rfl) ?_
                refine va_get (ci := 0) (v := .int ((va_up (va_up (va_up (va_up (va_up (va_up (va_up E 0 p0) 1 1030301) 2 p1) 3 0) 4 0) 5 (jrem (101 - p1) 101)) 6 u43) 6)) (C := RX0) (T := TX0) (N := 8) hx hb hts (by decide +kernel) hown hK hP 40 cc_ext rfl 6 (by decide) (hts (.fieldLink RX0 30 "NumberFieldFactors$Extension" "mateOfT" "I") (by decide +kernel)) (fun _ h9 => h9) rfl dX0_become_131 ?_
                refine lv_aload_n hx hb dX0_become_134 rfl (lv_at hl 2 rfl) ?_
                refine va_get (ci := 0) (v := .int ((va_up (va_up (va_up (va_up (va_up (va_up (va_up E 0 p0) 1 1030301) 2 p1) 3 0) 4 0) 5 (jrem (101 - p1) 101)) 6 u43) 6)) (C := RX0) (T := TX0) (N := 8) hx hb hts (by decide +kernel) hown hK hP 40 cc_ext rfl 6 (by decide) (hts (.fieldLink RX0 30 "NumberFieldFactors$Extension" "mateOfT" "I") (by decide +kernel)) (fun _ h9 => h9) rfl dX0_become_135 ?_
                obtain ⟨u45, g46, hf⟩ := Option.bind_eq_some_iff.mp hf
                try dsimp only at hf
                refine ct_call (va_runV (As := [.int ((va_up (va_up (va_up (va_up (va_up (va_up (va_up E 0 p0) 1 1030301) 2 p1) 3 0) 4 0) 5 (jrem (101 - p1) 101)) 6 u43) 6), .int ((va_up (va_up (va_up (va_up (va_up (va_up (va_up E 0 p0) 1 1030301) 2 p1) 3 0) 4 0) 5 (jrem (101 - p1) 101)) 6 u43) 6)]) (rest := [.ref (ad 40)]) ⟨hx, hb, hml, hown, hts⟩ (C_X0_times l D tys nw hn hnw hj htI htR (res := u45) g46) (cwV 2 hts gX0_become_X0_times rfl rfl rfl (by decide +kernel) ⟨Nat.le_of_ble_eq_true rfl, Nat.le_of_ble_eq_true rfl⟩) (ct_preV hn hP hK hN (ci := 0) (k := 40) rfl (by decide) rfl) rfl rfl hl.1 rfl (lv_room (Nat.le_of_ble_eq_true rfl)) dX0_become_138 ⟨Nat.zero_le _, Nat.zero_le _⟩) hS (fun H locs hP hS => ?_)
                refine va_put (ci := 0) (v := .int u45) (ty := .int) (C := RX0) (T := TX0) (N := 8) hx hb hts (by decide +kernel) tyX0 tyX0_ok nmX0 hown hK hP (ww_D hj) hS 40 cc_ext rfl 7 (by decide) (hts (.fieldLink RX0 33 "NumberFieldFactors$Extension" "mateOfTSquared" "I") (by decide +kernel)) (fun _ h9 => h9) rfl (by decide +kernel) rfl rfl (Nat.le_of_ble_eq_true rfl) dX0_become_141 (fun H locs hP hD hS => ?_)
                have hP := cs_E7 hP
                refine lv_iconst (v := 1) hx hb dX0_become_144 (by decide) ?_
                obtain rfl := Option.some.inj hf
                exact W.zret (v := 1) (ty := .boolean) hx hb hr (by decide) (fun t ht hW => ⟨rfl, by rw [ht]; exact hP, hS.F ht⟩) hS.2.2 dX0_become_145
            · rw [if_pos c37] at hf
              refine lv_sipush (v := 10201) hx hb dX0_become_65 (by decide) ?_
              refine lv_goto (tgt := 73) hx hb dX0_become_68 (by decide) ?_
              refine va_put (ci := 0) (v := .int 10201) (ty := .int) (C := RX0) (T := TX0) (N := 8) hx hb hts (by decide +kernel) tyX0 tyX0_ok nmX0 hown hK hP (ww_D hj) hS 40 cc_ext rfl 1 (by decide) (hts (.fieldLink RX0 15 "NumberFieldFactors$Extension" "size" "I") (by decide +kernel)) (fun _ h9 => h9) rfl (by decide +kernel) rfl rfl (Nat.le_of_ble_eq_true rfl) dX0_become_73 (fun H locs hP hD hS => ?_)
              have hP := cs_E1 hP
              refine lv_aload_n hx hb dX0_become_76 rfl (lv_at hl 2 rfl) ?_
              refine lv_iload_n hx hb dX0_become_77 rfl (lv_at hl 4 rfl) ?_
              refine va_put (ci := 0) (v := .int p1) (ty := .int) (C := RX0) (T := TX0) (N := 8) hx hb hts (by decide +kernel) tyX0 tyX0_ok nmX0 hown hK hP (ww_D hj) hS 40 cc_ext rfl 2 (by decide) (hts (.fieldLink RX0 18 "NumberFieldFactors$Extension" "low0" "I") (by decide +kernel)) (fun _ h9 => h9) rfl (by decide +kernel) rfl rfl (Nat.le_of_ble_eq_true rfl) dX0_become_78 (fun H locs hP hD hS => ?_)
              have hP := cs_E2 hP
              refine lv_aload_n hx hb dX0_become_81 rfl (lv_at hl 2 rfl) ?_
              refine lv_iload hx hb dX0_become_82 (lv_at hl 1 rfl) ?_
              refine va_put (ci := 0) (v := .int 0) (ty := .int) (C := RX0) (T := TX0) (N := 8) hx hb hts (by decide +kernel) tyX0 tyX0_ok nmX0 hown hK hP (ww_D hj) hS 40 cc_ext rfl 3 (by decide) (hts (.fieldLink RX0 21 "NumberFieldFactors$Extension" "low1" "I") (by decide +kernel)) (fun _ h9 => h9) rfl (by decide +kernel) rfl rfl (Nat.le_of_ble_eq_true rfl) dX0_become_84 (fun H locs hP hD hS => ?_)
              have hP := cs_E3 hP
              refine lv_aload_n hx hb dX0_become_87 rfl (lv_at hl 2 rfl) ?_
              refine lv_iload hx hb dX0_become_88 (lv_at hl 0 rfl) ?_
              refine va_put (ci := 0) (v := .int 0) (ty := .int) (C := RX0) (T := TX0) (N := 8) hx hb hts (by decide +kernel) tyX0 tyX0_ok nmX0 hown hK hP (ww_D hj) hS 40 cc_ext rfl 4 (by decide) (hts (.fieldLink RX0 24 "NumberFieldFactors$Extension" "low2" "I") (by decide +kernel)) (fun _ h9 => h9) rfl (by decide +kernel) rfl rfl (Nat.le_of_ble_eq_true rfl) dX0_become_90 (fun H locs hP hD hS => ?_)
              have hP := cs_E4 hP
              refine lv_aload_n hx hb dX0_become_93 rfl (lv_at hl 2 rfl) ?_
              refine lv_iload_n hx hb dX0_become_94 rfl (lv_at hl 3 rfl) ?_
              refine lv_iconst (v := 1) hx hb dX0_become_95 (by decide) ?_
              refine lv_icmp_ne (tgt := 109) hx hb dX0_become_96 (by decide) (fun c47 => ?_) (fun c47 => ?_)
              · rw [if_neg c47] at hf
                refine lv_bipush (v := 101) hx hb dX0_become_109 (by decide) ?_
                refine va_put (ci := 0) (v := .int 101) (ty := .int) (C := RX0) (T := TX0) (N := 8) hx hb hts (by decide +kernel) tyX0 tyX0_ok nmX0 hown hK hP (ww_D hj) hS 40 cc_ext rfl 5 (by decide) (hts (.fieldLink RX0 27 "NumberFieldFactors$Extension" "t" "I") (by decide +kernel)) (fun _ h9 => h9) rfl (by decide +kernel) rfl rfl (Nat.le_of_ble_eq_true rfl) dX0_become_111 (fun H locs hP hD hS => ?_)
                have hP := cs_E5 hP
                refine lv_aload_n hx hb dX0_become_114 rfl (lv_at hl 2 rfl) ?_
                refine lv_aload_n hx hb dX0_become_115 rfl (lv_at hl 2 rfl) ?_
                refine lv_aload_n hx hb dX0_become_116 rfl (lv_at hl 2 rfl) ?_
                refine va_get (ci := 0) (v := .int ((va_up (va_up (va_up (va_up (va_up (va_up E 0 p0) 1 10201) 2 p1) 3 0) 4 0) 5 101) 5)) (C := RX0) (T := TX0) (N := 8) hx hb hts (by decide +kernel) hown hK hP 40 cc_ext rfl 5 (by decide) (hts (.fieldLink RX0 27 "NumberFieldFactors$Extension" "t" "I") (by decide +kernel)) (fun _ h9 => h9) rfl dX0_become_117 ?_
                refine lv_bipush (v := 101) hx hb dX0_become_120 (by decide) ?_
                obtain ⟨u48, g49, hf⟩ := Option.bind_eq_some_iff.mp hf
                try dsimp only at hf
                refine ct_call (va_runV (As := [.int ((va_up (va_up (va_up (va_up (va_up (va_up E 0 p0) 1 10201) 2 p1) 3 0) 4 0) 5 101) 5), .int 101]) (rest := [.ref (ad 40)]) ⟨hx, hb, hml, hown, hts⟩ (C_X0_power l D tys nw hn hnw hj htI htR (res := u48) g49) (cwV 2 hts gX0_become_X0_power rfl rfl rfl (by decide +kernel) ⟨Nat.le_of_ble_eq_true rfl, Nat.le_of_ble_eq_true rfl⟩) (ct_preV hn hP hK hN (ci := 0) (k := 40) rfl (by decide) rfl) rfl rfl hl.1 rfl (lv_room (Nat.le_of_ble_eq_true rfl)) dX0_become_122 ⟨Nat.zero_le _, Nat.zero_le _⟩) hS (fun H locs hP hS => ?_)
                refine va_put (ci := 0) (v := .int u48) (ty := .int) (C := RX0) (T := TX0) (N := 8) hx hb hts (by decide +kernel) tyX0 tyX0_ok nmX0 hown hK hP (ww_D hj) hS 40 cc_ext rfl 6 (by decide) (hts (.fieldLink RX0 30 "NumberFieldFactors$Extension" "mateOfT" "I") (by decide +kernel)) (fun _ h9 => h9) rfl (by decide +kernel) rfl rfl (Nat.le_of_ble_eq_true rfl) dX0_become_125 (fun H locs hP hD hS => ?_)
                have hP := cs_E6 hP
                refine lv_aload_n hx hb dX0_become_128 rfl (lv_at hl 2 rfl) ?_
                refine lv_aload_n hx hb dX0_become_129 rfl (lv_at hl 2 rfl) ?_
                refine lv_aload_n hx hb dX0_become_130 rfl (lv_at hl 2 rfl) ?_
                refine va_get (ci := 0) (v := .int ((va_up (va_up (va_up (va_up (va_up (va_up (va_up E 0 p0) 1 10201) 2 p1) 3 0) 4 0) 5 101) 6 u48) 6)) (C := RX0) (T := TX0) (N := 8) hx hb hts (by decide +kernel) hown hK hP 40 cc_ext rfl 6 (by decide) (hts (.fieldLink RX0 30 "NumberFieldFactors$Extension" "mateOfT" "I") (by decide +kernel)) (fun _ h9 => h9) rfl dX0_become_131 ?_
                refine lv_aload_n hx hb dX0_become_134 rfl (lv_at hl 2 rfl) ?_
                refine va_get (ci := 0) (v := .int ((va_up (va_up (va_up (va_up (va_up (va_up (va_up E 0 p0) 1 10201) 2 p1) 3 0) 4 0) 5 101) 6 u48) 6)) (C := RX0) (T := TX0) (N := 8) hx hb hts (by decide +kernel) hown hK hP 40 cc_ext rfl 6 (by decide) (hts (.fieldLink RX0 30 "NumberFieldFactors$Extension" "mateOfT" "I") (by decide +kernel)) (fun _ h9 => h9) rfl dX0_become_135 ?_
                obtain ⟨u50, g51, hf⟩ := Option.bind_eq_some_iff.mp hf
                try dsimp only at hf
                refine ct_call (va_runV (As := [.int ((va_up (va_up (va_up (va_up (va_up (va_up (va_up E 0 p0) 1 10201) 2 p1) 3 0) 4 0) 5 101) 6 u48) 6), .int ((va_up (va_up (va_up (va_up (va_up (va_up (va_up E 0 p0) 1 10201) 2 p1) 3 0) 4 0) 5 101) 6 u48) 6)]) (rest := [.ref (ad 40)]) ⟨hx, hb, hml, hown, hts⟩ (C_X0_times l D tys nw hn hnw hj htI htR (res := u50) g51) (cwV 2 hts gX0_become_X0_times rfl rfl rfl (by decide +kernel) ⟨Nat.le_of_ble_eq_true rfl, Nat.le_of_ble_eq_true rfl⟩) (ct_preV hn hP hK hN (ci := 0) (k := 40) rfl (by decide) rfl) rfl rfl hl.1 rfl (lv_room (Nat.le_of_ble_eq_true rfl)) dX0_become_138 ⟨Nat.zero_le _, Nat.zero_le _⟩) hS (fun H locs hP hS => ?_)
                refine va_put (ci := 0) (v := .int u50) (ty := .int) (C := RX0) (T := TX0) (N := 8) hx hb hts (by decide +kernel) tyX0 tyX0_ok nmX0 hown hK hP (ww_D hj) hS 40 cc_ext rfl 7 (by decide) (hts (.fieldLink RX0 33 "NumberFieldFactors$Extension" "mateOfTSquared" "I") (by decide +kernel)) (fun _ h9 => h9) rfl (by decide +kernel) rfl rfl (Nat.le_of_ble_eq_true rfl) dX0_become_141 (fun H locs hP hD hS => ?_)
                have hP := cs_E7 hP
                refine lv_iconst (v := 1) hx hb dX0_become_144 (by decide) ?_
                obtain rfl := Option.some.inj hf
                exact W.zret (v := 1) (ty := .boolean) hx hb hr (by decide) (fun t ht hW => ⟨rfl, by rw [ht]; exact hP, hS.F ht⟩) hS.2.2 dX0_become_145
              · rw [if_pos c47] at hf
                refine lv_bipush (v := 101) hx hb dX0_become_99 (by decide) ?_
                refine lv_iload_n hx hb dX0_become_101 rfl (lv_at hl 4 rfl) ?_
                refine lv_isub hx hb dX0_become_102 ?_
                refine lv_bipush (v := 101) hx hb dX0_become_103 (by decide) ?_
                refine jv_irem hx hb dX0_become_105 (by decide) ?_
                refine lv_goto (tgt := 111) hx hb dX0_become_106 (by decide) ?_
                refine va_put (ci := 0) (v := .int (jrem (101 - p1) 101)) (ty := .int) (C := RX0) (T := TX0) (N := 8) hx hb hts (by decide +kernel) tyX0 tyX0_ok nmX0 hown hK hP (ww_D hj) hS 40 cc_ext rfl 5 (by decide) (hts (.fieldLink RX0 27 "NumberFieldFactors$Extension" "t" "I") (by decide +kernel)) (fun _ h9 => h9) rfl (by decide +kernel) rfl rfl (Nat.le_of_ble_eq_true rfl) dX0_become_111 (fun H locs hP hD hS => ?_)
                have hP := cs_E5 hP
                refine lv_aload_n hx hb dX0_become_114 rfl (lv_at hl 2 rfl) ?_
                refine lv_aload_n hx hb dX0_become_115 rfl (lv_at hl 2 rfl) ?_
                refine lv_aload_n hx hb dX0_become_116 rfl (lv_at hl 2 rfl) ?_
                refine va_get (ci := 0) (v := .int ((va_up (va_up (va_up (va_up (va_up (va_up E 0 p0) 1 10201) 2 p1) 3 0) 4 0) 5 (jrem (101 - p1) 101)) 5)) (C := RX0) (T := TX0) (N := 8) hx hb hts (by decide +kernel) hown hK hP 40 cc_ext rfl 5 (by decide) (hts (.fieldLink RX0 27 "NumberFieldFactors$Extension" "t" "I") (by decide +kernel)) (fun _ h9 => h9) rfl dX0_become_117 ?_
                refine lv_bipush (v := 101) hx hb dX0_become_120 (by decide) ?_
                obtain ⟨u52, g53, hf⟩ := Option.bind_eq_some_iff.mp hf
                try dsimp only at hf
                refine ct_call (va_runV (As := [.int ((va_up (va_up (va_up (va_up (va_up (va_up E 0 p0) 1 10201) 2 p1) 3 0) 4 0) 5 (jrem (101 - p1) 101)) 5), .int 101]) (rest := [.ref (ad 40)]) ⟨hx, hb, hml, hown, hts⟩ (C_X0_power l D tys nw hn hnw hj htI htR (res := u52) g53) (cwV 2 hts gX0_become_X0_power rfl rfl rfl (by decide +kernel) ⟨Nat.le_of_ble_eq_true rfl, Nat.le_of_ble_eq_true rfl⟩) (ct_preV hn hP hK hN (ci := 0) (k := 40) rfl (by decide) rfl) rfl rfl hl.1 rfl (lv_room (Nat.le_of_ble_eq_true rfl)) dX0_become_122 ⟨Nat.zero_le _, Nat.zero_le _⟩) hS (fun H locs hP hS => ?_)
                refine va_put (ci := 0) (v := .int u52) (ty := .int) (C := RX0) (T := TX0) (N := 8) hx hb hts (by decide +kernel) tyX0 tyX0_ok nmX0 hown hK hP (ww_D hj) hS 40 cc_ext rfl 6 (by decide) (hts (.fieldLink RX0 30 "NumberFieldFactors$Extension" "mateOfT" "I") (by decide +kernel)) (fun _ h9 => h9) rfl (by decide +kernel) rfl rfl (Nat.le_of_ble_eq_true rfl) dX0_become_125 (fun H locs hP hD hS => ?_)
                have hP := cs_E6 hP
                refine lv_aload_n hx hb dX0_become_128 rfl (lv_at hl 2 rfl) ?_
                refine lv_aload_n hx hb dX0_become_129 rfl (lv_at hl 2 rfl) ?_
                refine lv_aload_n hx hb dX0_become_130 rfl (lv_at hl 2 rfl) ?_
                refine va_get (ci := 0) (v := .int ((va_up (va_up (va_up (va_up (va_up (va_up (va_up E 0 p0) 1 10201) 2 p1) 3 0) 4 0) 5 (jrem (101 - p1) 101)) 6 u52) 6)) (C := RX0) (T := TX0) (N := 8) hx hb hts (by decide +kernel) hown hK hP 40 cc_ext rfl 6 (by decide) (hts (.fieldLink RX0 30 "NumberFieldFactors$Extension" "mateOfT" "I") (by decide +kernel)) (fun _ h9 => h9) rfl dX0_become_131 ?_
                refine lv_aload_n hx hb dX0_become_134 rfl (lv_at hl 2 rfl) ?_
                refine va_get (ci := 0) (v := .int ((va_up (va_up (va_up (va_up (va_up (va_up (va_up E 0 p0) 1 10201) 2 p1) 3 0) 4 0) 5 (jrem (101 - p1) 101)) 6 u52) 6)) (C := RX0) (T := TX0) (N := 8) hx hb hts (by decide +kernel) hown hK hP 40 cc_ext rfl 6 (by decide) (hts (.fieldLink RX0 30 "NumberFieldFactors$Extension" "mateOfT" "I") (by decide +kernel)) (fun _ h9 => h9) rfl dX0_become_135 ?_
                obtain ⟨u54, g55, hf⟩ := Option.bind_eq_some_iff.mp hf
                try dsimp only at hf
                refine ct_call (va_runV (As := [.int ((va_up (va_up (va_up (va_up (va_up (va_up (va_up E 0 p0) 1 10201) 2 p1) 3 0) 4 0) 5 (jrem (101 - p1) 101)) 6 u52) 6), .int ((va_up (va_up (va_up (va_up (va_up (va_up (va_up E 0 p0) 1 10201) 2 p1) 3 0) 4 0) 5 (jrem (101 - p1) 101)) 6 u52) 6)]) (rest := [.ref (ad 40)]) ⟨hx, hb, hml, hown, hts⟩ (C_X0_times l D tys nw hn hnw hj htI htR (res := u54) g55) (cwV 2 hts gX0_become_X0_times rfl rfl rfl (by decide +kernel) ⟨Nat.le_of_ble_eq_true rfl, Nat.le_of_ble_eq_true rfl⟩) (ct_preV hn hP hK hN (ci := 0) (k := 40) rfl (by decide) rfl) rfl rfl hl.1 rfl (lv_room (Nat.le_of_ble_eq_true rfl)) dX0_become_138 ⟨Nat.zero_le _, Nat.zero_le _⟩) hS (fun H locs hP hS => ?_)
                refine va_put (ci := 0) (v := .int u54) (ty := .int) (C := RX0) (T := TX0) (N := 8) hx hb hts (by decide +kernel) tyX0 tyX0_ok nmX0 hown hK hP (ww_D hj) hS 40 cc_ext rfl 7 (by decide) (hts (.fieldLink RX0 33 "NumberFieldFactors$Extension" "mateOfTSquared" "I") (by decide +kernel)) (fun _ h9 => h9) rfl (by decide +kernel) rfl rfl (Nat.le_of_ble_eq_true rfl) dX0_become_141 (fun H locs hP hD hS => ?_)
                have hP := cs_E7 hP
                refine lv_iconst (v := 1) hx hb dX0_become_144 (by decide) ?_
                obtain rfl := Option.some.inj hf
                exact W.zret (v := 1) (ty := .boolean) hx hb hr (by decide) (fun t ht hW => ⟨rfl, by rw [ht]; exact hP, hS.F ht⟩) hS.2.2 dX0_become_145
          · rw [if_pos c36] at hf
            refine lv_bipush (v := 101) hx hb dX0_become_55 (by decide) ?_
            refine lv_goto (tgt := 73) hx hb dX0_become_57 (by decide) ?_
            refine va_put (ci := 0) (v := .int 101) (ty := .int) (C := RX0) (T := TX0) (N := 8) hx hb hts (by decide +kernel) tyX0 tyX0_ok nmX0 hown hK hP (ww_D hj) hS 40 cc_ext rfl 1 (by decide) (hts (.fieldLink RX0 15 "NumberFieldFactors$Extension" "size" "I") (by decide +kernel)) (fun _ h9 => h9) rfl (by decide +kernel) rfl rfl (Nat.le_of_ble_eq_true rfl) dX0_become_73 (fun H locs hP hD hS => ?_)
            have hP := cs_E1 hP
            refine lv_aload_n hx hb dX0_become_76 rfl (lv_at hl 2 rfl) ?_
            refine lv_iload_n hx hb dX0_become_77 rfl (lv_at hl 4 rfl) ?_
            refine va_put (ci := 0) (v := .int p1) (ty := .int) (C := RX0) (T := TX0) (N := 8) hx hb hts (by decide +kernel) tyX0 tyX0_ok nmX0 hown hK hP (ww_D hj) hS 40 cc_ext rfl 2 (by decide) (hts (.fieldLink RX0 18 "NumberFieldFactors$Extension" "low0" "I") (by decide +kernel)) (fun _ h9 => h9) rfl (by decide +kernel) rfl rfl (Nat.le_of_ble_eq_true rfl) dX0_become_78 (fun H locs hP hD hS => ?_)
            have hP := cs_E2 hP
            refine lv_aload_n hx hb dX0_become_81 rfl (lv_at hl 2 rfl) ?_
            refine lv_iload hx hb dX0_become_82 (lv_at hl 1 rfl) ?_
            refine va_put (ci := 0) (v := .int 0) (ty := .int) (C := RX0) (T := TX0) (N := 8) hx hb hts (by decide +kernel) tyX0 tyX0_ok nmX0 hown hK hP (ww_D hj) hS 40 cc_ext rfl 3 (by decide) (hts (.fieldLink RX0 21 "NumberFieldFactors$Extension" "low1" "I") (by decide +kernel)) (fun _ h9 => h9) rfl (by decide +kernel) rfl rfl (Nat.le_of_ble_eq_true rfl) dX0_become_84 (fun H locs hP hD hS => ?_)
            have hP := cs_E3 hP
            refine lv_aload_n hx hb dX0_become_87 rfl (lv_at hl 2 rfl) ?_
            refine lv_iload hx hb dX0_become_88 (lv_at hl 0 rfl) ?_
            refine va_put (ci := 0) (v := .int 0) (ty := .int) (C := RX0) (T := TX0) (N := 8) hx hb hts (by decide +kernel) tyX0 tyX0_ok nmX0 hown hK hP (ww_D hj) hS 40 cc_ext rfl 4 (by decide) (hts (.fieldLink RX0 24 "NumberFieldFactors$Extension" "low2" "I") (by decide +kernel)) (fun _ h9 => h9) rfl (by decide +kernel) rfl rfl (Nat.le_of_ble_eq_true rfl) dX0_become_90 (fun H locs hP hD hS => ?_)
            have hP := cs_E4 hP
            refine lv_aload_n hx hb dX0_become_93 rfl (lv_at hl 2 rfl) ?_
            refine lv_iload_n hx hb dX0_become_94 rfl (lv_at hl 3 rfl) ?_
            refine lv_iconst (v := 1) hx hb dX0_become_95 (by decide) ?_
            refine lv_icmp_ne (tgt := 109) hx hb dX0_become_96 (by decide) (fun c56 => ?_) (fun c56 => ?_)
            · rw [if_neg c56] at hf
              refine lv_bipush (v := 101) hx hb dX0_become_109 (by decide) ?_
              refine va_put (ci := 0) (v := .int 101) (ty := .int) (C := RX0) (T := TX0) (N := 8) hx hb hts (by decide +kernel) tyX0 tyX0_ok nmX0 hown hK hP (ww_D hj) hS 40 cc_ext rfl 5 (by decide) (hts (.fieldLink RX0 27 "NumberFieldFactors$Extension" "t" "I") (by decide +kernel)) (fun _ h9 => h9) rfl (by decide +kernel) rfl rfl (Nat.le_of_ble_eq_true rfl) dX0_become_111 (fun H locs hP hD hS => ?_)
              have hP := cs_E5 hP
              refine lv_aload_n hx hb dX0_become_114 rfl (lv_at hl 2 rfl) ?_
              refine lv_aload_n hx hb dX0_become_115 rfl (lv_at hl 2 rfl) ?_
              refine lv_aload_n hx hb dX0_become_116 rfl (lv_at hl 2 rfl) ?_
              refine va_get (ci := 0) (v := .int ((va_up (va_up (va_up (va_up (va_up (va_up E 0 p0) 1 101) 2 p1) 3 0) 4 0) 5 101) 5)) (C := RX0) (T := TX0) (N := 8) hx hb hts (by decide +kernel) hown hK hP 40 cc_ext rfl 5 (by decide) (hts (.fieldLink RX0 27 "NumberFieldFactors$Extension" "t" "I") (by decide +kernel)) (fun _ h9 => h9) rfl dX0_become_117 ?_
              refine lv_bipush (v := 101) hx hb dX0_become_120 (by decide) ?_
              obtain ⟨u57, g58, hf⟩ := Option.bind_eq_some_iff.mp hf
              try dsimp only at hf
              refine ct_call (va_runV (As := [.int ((va_up (va_up (va_up (va_up (va_up (va_up E 0 p0) 1 101) 2 p1) 3 0) 4 0) 5 101) 5), .int 101]) (rest := [.ref (ad 40)]) ⟨hx, hb, hml, hown, hts⟩ (C_X0_power l D tys nw hn hnw hj htI htR (res := u57) g58) (cwV 2 hts gX0_become_X0_power rfl rfl rfl (by decide +kernel) ⟨Nat.le_of_ble_eq_true rfl, Nat.le_of_ble_eq_true rfl⟩) (ct_preV hn hP hK hN (ci := 0) (k := 40) rfl (by decide) rfl) rfl rfl hl.1 rfl (lv_room (Nat.le_of_ble_eq_true rfl)) dX0_become_122 ⟨Nat.zero_le _, Nat.zero_le _⟩) hS (fun H locs hP hS => ?_)
              refine va_put (ci := 0) (v := .int u57) (ty := .int) (C := RX0) (T := TX0) (N := 8) hx hb hts (by decide +kernel) tyX0 tyX0_ok nmX0 hown hK hP (ww_D hj) hS 40 cc_ext rfl 6 (by decide) (hts (.fieldLink RX0 30 "NumberFieldFactors$Extension" "mateOfT" "I") (by decide +kernel)) (fun _ h9 => h9) rfl (by decide +kernel) rfl rfl (Nat.le_of_ble_eq_true rfl) dX0_become_125 (fun H locs hP hD hS => ?_)
              have hP := cs_E6 hP
              refine lv_aload_n hx hb dX0_become_128 rfl (lv_at hl 2 rfl) ?_
              refine lv_aload_n hx hb dX0_become_129 rfl (lv_at hl 2 rfl) ?_
              refine lv_aload_n hx hb dX0_become_130 rfl (lv_at hl 2 rfl) ?_
              refine va_get (ci := 0) (v := .int ((va_up (va_up (va_up (va_up (va_up (va_up (va_up E 0 p0) 1 101) 2 p1) 3 0) 4 0) 5 101) 6 u57) 6)) (C := RX0) (T := TX0) (N := 8) hx hb hts (by decide +kernel) hown hK hP 40 cc_ext rfl 6 (by decide) (hts (.fieldLink RX0 30 "NumberFieldFactors$Extension" "mateOfT" "I") (by decide +kernel)) (fun _ h9 => h9) rfl dX0_become_131 ?_
              refine lv_aload_n hx hb dX0_become_134 rfl (lv_at hl 2 rfl) ?_
              refine va_get (ci := 0) (v := .int ((va_up (va_up (va_up (va_up (va_up (va_up (va_up E 0 p0) 1 101) 2 p1) 3 0) 4 0) 5 101) 6 u57) 6)) (C := RX0) (T := TX0) (N := 8) hx hb hts (by decide +kernel) hown hK hP 40 cc_ext rfl 6 (by decide) (hts (.fieldLink RX0 30 "NumberFieldFactors$Extension" "mateOfT" "I") (by decide +kernel)) (fun _ h9 => h9) rfl dX0_become_135 ?_
              obtain ⟨u59, g60, hf⟩ := Option.bind_eq_some_iff.mp hf
              try dsimp only at hf
              refine ct_call (va_runV (As := [.int ((va_up (va_up (va_up (va_up (va_up (va_up (va_up E 0 p0) 1 101) 2 p1) 3 0) 4 0) 5 101) 6 u57) 6), .int ((va_up (va_up (va_up (va_up (va_up (va_up (va_up E 0 p0) 1 101) 2 p1) 3 0) 4 0) 5 101) 6 u57) 6)]) (rest := [.ref (ad 40)]) ⟨hx, hb, hml, hown, hts⟩ (C_X0_times l D tys nw hn hnw hj htI htR (res := u59) g60) (cwV 2 hts gX0_become_X0_times rfl rfl rfl (by decide +kernel) ⟨Nat.le_of_ble_eq_true rfl, Nat.le_of_ble_eq_true rfl⟩) (ct_preV hn hP hK hN (ci := 0) (k := 40) rfl (by decide) rfl) rfl rfl hl.1 rfl (lv_room (Nat.le_of_ble_eq_true rfl)) dX0_become_138 ⟨Nat.zero_le _, Nat.zero_le _⟩) hS (fun H locs hP hS => ?_)
              refine va_put (ci := 0) (v := .int u59) (ty := .int) (C := RX0) (T := TX0) (N := 8) hx hb hts (by decide +kernel) tyX0 tyX0_ok nmX0 hown hK hP (ww_D hj) hS 40 cc_ext rfl 7 (by decide) (hts (.fieldLink RX0 33 "NumberFieldFactors$Extension" "mateOfTSquared" "I") (by decide +kernel)) (fun _ h9 => h9) rfl (by decide +kernel) rfl rfl (Nat.le_of_ble_eq_true rfl) dX0_become_141 (fun H locs hP hD hS => ?_)
              have hP := cs_E7 hP
              refine lv_iconst (v := 1) hx hb dX0_become_144 (by decide) ?_
              obtain rfl := Option.some.inj hf
              exact W.zret (v := 1) (ty := .boolean) hx hb hr (by decide) (fun t ht hW => ⟨rfl, by rw [ht]; exact hP, hS.F ht⟩) hS.2.2 dX0_become_145
            · rw [if_pos c56] at hf
              refine lv_bipush (v := 101) hx hb dX0_become_99 (by decide) ?_
              refine lv_iload_n hx hb dX0_become_101 rfl (lv_at hl 4 rfl) ?_
              refine lv_isub hx hb dX0_become_102 ?_
              refine lv_bipush (v := 101) hx hb dX0_become_103 (by decide) ?_
              refine jv_irem hx hb dX0_become_105 (by decide) ?_
              refine lv_goto (tgt := 111) hx hb dX0_become_106 (by decide) ?_
              refine va_put (ci := 0) (v := .int (jrem (101 - p1) 101)) (ty := .int) (C := RX0) (T := TX0) (N := 8) hx hb hts (by decide +kernel) tyX0 tyX0_ok nmX0 hown hK hP (ww_D hj) hS 40 cc_ext rfl 5 (by decide) (hts (.fieldLink RX0 27 "NumberFieldFactors$Extension" "t" "I") (by decide +kernel)) (fun _ h9 => h9) rfl (by decide +kernel) rfl rfl (Nat.le_of_ble_eq_true rfl) dX0_become_111 (fun H locs hP hD hS => ?_)
              have hP := cs_E5 hP
              refine lv_aload_n hx hb dX0_become_114 rfl (lv_at hl 2 rfl) ?_
              refine lv_aload_n hx hb dX0_become_115 rfl (lv_at hl 2 rfl) ?_
              refine lv_aload_n hx hb dX0_become_116 rfl (lv_at hl 2 rfl) ?_
              refine va_get (ci := 0) (v := .int ((va_up (va_up (va_up (va_up (va_up (va_up E 0 p0) 1 101) 2 p1) 3 0) 4 0) 5 (jrem (101 - p1) 101)) 5)) (C := RX0) (T := TX0) (N := 8) hx hb hts (by decide +kernel) hown hK hP 40 cc_ext rfl 5 (by decide) (hts (.fieldLink RX0 27 "NumberFieldFactors$Extension" "t" "I") (by decide +kernel)) (fun _ h9 => h9) rfl dX0_become_117 ?_
              refine lv_bipush (v := 101) hx hb dX0_become_120 (by decide) ?_
              obtain ⟨u61, g62, hf⟩ := Option.bind_eq_some_iff.mp hf
              try dsimp only at hf
              refine ct_call (va_runV (As := [.int ((va_up (va_up (va_up (va_up (va_up (va_up E 0 p0) 1 101) 2 p1) 3 0) 4 0) 5 (jrem (101 - p1) 101)) 5), .int 101]) (rest := [.ref (ad 40)]) ⟨hx, hb, hml, hown, hts⟩ (C_X0_power l D tys nw hn hnw hj htI htR (res := u61) g62) (cwV 2 hts gX0_become_X0_power rfl rfl rfl (by decide +kernel) ⟨Nat.le_of_ble_eq_true rfl, Nat.le_of_ble_eq_true rfl⟩) (ct_preV hn hP hK hN (ci := 0) (k := 40) rfl (by decide) rfl) rfl rfl hl.1 rfl (lv_room (Nat.le_of_ble_eq_true rfl)) dX0_become_122 ⟨Nat.zero_le _, Nat.zero_le _⟩) hS (fun H locs hP hS => ?_)
              refine va_put (ci := 0) (v := .int u61) (ty := .int) (C := RX0) (T := TX0) (N := 8) hx hb hts (by decide +kernel) tyX0 tyX0_ok nmX0 hown hK hP (ww_D hj) hS 40 cc_ext rfl 6 (by decide) (hts (.fieldLink RX0 30 "NumberFieldFactors$Extension" "mateOfT" "I") (by decide +kernel)) (fun _ h9 => h9) rfl (by decide +kernel) rfl rfl (Nat.le_of_ble_eq_true rfl) dX0_become_125 (fun H locs hP hD hS => ?_)
              have hP := cs_E6 hP
              refine lv_aload_n hx hb dX0_become_128 rfl (lv_at hl 2 rfl) ?_
              refine lv_aload_n hx hb dX0_become_129 rfl (lv_at hl 2 rfl) ?_
              refine lv_aload_n hx hb dX0_become_130 rfl (lv_at hl 2 rfl) ?_
              refine va_get (ci := 0) (v := .int ((va_up (va_up (va_up (va_up (va_up (va_up (va_up E 0 p0) 1 101) 2 p1) 3 0) 4 0) 5 (jrem (101 - p1) 101)) 6 u61) 6)) (C := RX0) (T := TX0) (N := 8) hx hb hts (by decide +kernel) hown hK hP 40 cc_ext rfl 6 (by decide) (hts (.fieldLink RX0 30 "NumberFieldFactors$Extension" "mateOfT" "I") (by decide +kernel)) (fun _ h9 => h9) rfl dX0_become_131 ?_
              refine lv_aload_n hx hb dX0_become_134 rfl (lv_at hl 2 rfl) ?_
              refine va_get (ci := 0) (v := .int ((va_up (va_up (va_up (va_up (va_up (va_up (va_up E 0 p0) 1 101) 2 p1) 3 0) 4 0) 5 (jrem (101 - p1) 101)) 6 u61) 6)) (C := RX0) (T := TX0) (N := 8) hx hb hts (by decide +kernel) hown hK hP 40 cc_ext rfl 6 (by decide) (hts (.fieldLink RX0 30 "NumberFieldFactors$Extension" "mateOfT" "I") (by decide +kernel)) (fun _ h9 => h9) rfl dX0_become_135 ?_
              obtain ⟨u63, g64, hf⟩ := Option.bind_eq_some_iff.mp hf
              try dsimp only at hf
              refine ct_call (va_runV (As := [.int ((va_up (va_up (va_up (va_up (va_up (va_up (va_up E 0 p0) 1 101) 2 p1) 3 0) 4 0) 5 (jrem (101 - p1) 101)) 6 u61) 6), .int ((va_up (va_up (va_up (va_up (va_up (va_up (va_up E 0 p0) 1 101) 2 p1) 3 0) 4 0) 5 (jrem (101 - p1) 101)) 6 u61) 6)]) (rest := [.ref (ad 40)]) ⟨hx, hb, hml, hown, hts⟩ (C_X0_times l D tys nw hn hnw hj htI htR (res := u63) g64) (cwV 2 hts gX0_become_X0_times rfl rfl rfl (by decide +kernel) ⟨Nat.le_of_ble_eq_true rfl, Nat.le_of_ble_eq_true rfl⟩) (ct_preV hn hP hK hN (ci := 0) (k := 40) rfl (by decide) rfl) rfl rfl hl.1 rfl (lv_room (Nat.le_of_ble_eq_true rfl)) dX0_become_138 ⟨Nat.zero_le _, Nat.zero_le _⟩) hS (fun H locs hP hS => ?_)
              refine va_put (ci := 0) (v := .int u63) (ty := .int) (C := RX0) (T := TX0) (N := 8) hx hb hts (by decide +kernel) tyX0 tyX0_ok nmX0 hown hK hP (ww_D hj) hS 40 cc_ext rfl 7 (by decide) (hts (.fieldLink RX0 33 "NumberFieldFactors$Extension" "mateOfTSquared" "I") (by decide +kernel)) (fun _ h9 => h9) rfl (by decide +kernel) rfl rfl (Nat.le_of_ble_eq_true rfl) dX0_become_141 (fun H locs hP hD hS => ?_)
              have hP := cs_E7 hP
              refine lv_iconst (v := 1) hx hb dX0_become_144 (by decide) ?_
              obtain rfl := Option.some.inj hf
              exact W.zret (v := 1) (ty := .boolean) hx hb hr (by decide) (fun t ht hW => ⟨rfl, by rw [ht]; exact hP, hS.F ht⟩) hS.2.2 dX0_become_145
        · rw [if_neg c35] at hf
          refine lv_iconst (v := 0) hx hb dX0_become_42 (by decide) ?_
          obtain rfl := Option.some.inj hf
          exact W.zret (v := 0) (ty := .boolean) hx hb hr (by decide) (fun t ht hW => ⟨rfl, by rw [ht]; exact hP, hS.F ht⟩) hS.2.2 dX0_become_43
    · rw [if_neg c2] at hf
      refine lv_iload hx hb dX0_become_17 (lv_at hl 5 rfl) ?_
      refine lv_goto (tgt := 23) hx hb dX0_become_19 (by decide) ?_
      refine lv_istore (lv' := [(6, .int p3), (5, .int 0), (0, .ref (ad 40)), (1, .int p0), (2, .int p1), (3, .int p2), (4, .int p3)]) hx hb dX0_become_23 hl (by decide) rfl (fun ls hl => ?_)
      refine lv_iload_n hx hb dX0_become_25 rfl (lv_at hl 3 rfl) ?_
      refine lv_iconst (v := 1) hx hb dX0_become_26 (by decide) ?_
      refine lv_icmp_le (tgt := 44) hx hb dX0_become_27 (by decide) (fun c65 => ?_) (fun c65 => ?_)
      · rw [if_pos c65] at hf
        refine lv_aload_n hx hb dX0_become_44 rfl (lv_at hl 2 rfl) ?_
        refine lv_iload_n hx hb dX0_become_45 rfl (lv_at hl 3 rfl) ?_
        refine va_put (ci := 0) (v := .int p0) (ty := .int) (C := RX0) (T := TX0) (N := 8) hx hb hts (by decide +kernel) tyX0 tyX0_ok nmX0 hown hK hP (ww_D hj) hS 40 cc_ext rfl 0 (by decide) (hts (.fieldLink RX0 9 "NumberFieldFactors$Extension" "degree" "I") (by decide +kernel)) (fun _ h9 => h9) rfl (by decide +kernel) rfl rfl (Nat.le_of_ble_eq_true rfl) dX0_become_46 (fun H locs hP hD hS => ?_)
        have hP := cs_E0 hP
        refine lv_aload_n hx hb dX0_become_49 rfl (lv_at hl 2 rfl) ?_
        refine lv_iload_n hx hb dX0_become_50 rfl (lv_at hl 3 rfl) ?_
        refine lv_iconst (v := 1) hx hb dX0_become_51 (by decide) ?_
        refine lv_icmp_ne (tgt := 60) hx hb dX0_become_52 (by decide) (fun c66 => ?_) (fun c66 => ?_)
        · rw [if_neg c66] at hf
          refine lv_iload_n hx hb dX0_become_60 rfl (lv_at hl 3 rfl) ?_
          refine lv_iconst (v := 2) hx hb dX0_become_61 (by decide) ?_
          refine lv_icmp_ne (tgt := 71) hx hb dX0_become_62 (by decide) (fun c67 => ?_) (fun c67 => ?_)
          · rw [if_neg c67] at hf
            refine lv_ldc (v := 1030301) hx hb hown (hts (.constant RX0 40 (1030301)) (by decide +kernel)) dX0_become_71 ?_
            refine va_put (ci := 0) (v := .int 1030301) (ty := .int) (C := RX0) (T := TX0) (N := 8) hx hb hts (by decide +kernel) tyX0 tyX0_ok nmX0 hown hK hP (ww_D hj) hS 40 cc_ext rfl 1 (by decide) (hts (.fieldLink RX0 15 "NumberFieldFactors$Extension" "size" "I") (by decide +kernel)) (fun _ h9 => h9) rfl (by decide +kernel) rfl rfl (Nat.le_of_ble_eq_true rfl) dX0_become_73 (fun H locs hP hD hS => ?_)
            have hP := cs_E1 hP
            refine lv_aload_n hx hb dX0_become_76 rfl (lv_at hl 2 rfl) ?_
            refine lv_iload_n hx hb dX0_become_77 rfl (lv_at hl 4 rfl) ?_
            refine va_put (ci := 0) (v := .int p1) (ty := .int) (C := RX0) (T := TX0) (N := 8) hx hb hts (by decide +kernel) tyX0 tyX0_ok nmX0 hown hK hP (ww_D hj) hS 40 cc_ext rfl 2 (by decide) (hts (.fieldLink RX0 18 "NumberFieldFactors$Extension" "low0" "I") (by decide +kernel)) (fun _ h9 => h9) rfl (by decide +kernel) rfl rfl (Nat.le_of_ble_eq_true rfl) dX0_become_78 (fun H locs hP hD hS => ?_)
            have hP := cs_E2 hP
            refine lv_aload_n hx hb dX0_become_81 rfl (lv_at hl 2 rfl) ?_
            refine lv_iload hx hb dX0_become_82 (lv_at hl 1 rfl) ?_
            refine va_put (ci := 0) (v := .int 0) (ty := .int) (C := RX0) (T := TX0) (N := 8) hx hb hts (by decide +kernel) tyX0 tyX0_ok nmX0 hown hK hP (ww_D hj) hS 40 cc_ext rfl 3 (by decide) (hts (.fieldLink RX0 21 "NumberFieldFactors$Extension" "low1" "I") (by decide +kernel)) (fun _ h9 => h9) rfl (by decide +kernel) rfl rfl (Nat.le_of_ble_eq_true rfl) dX0_become_84 (fun H locs hP hD hS => ?_)
            have hP := cs_E3 hP
            refine lv_aload_n hx hb dX0_become_87 rfl (lv_at hl 2 rfl) ?_
            refine lv_iload hx hb dX0_become_88 (lv_at hl 0 rfl) ?_
            refine va_put (ci := 0) (v := .int p3) (ty := .int) (C := RX0) (T := TX0) (N := 8) hx hb hts (by decide +kernel) tyX0 tyX0_ok nmX0 hown hK hP (ww_D hj) hS 40 cc_ext rfl 4 (by decide) (hts (.fieldLink RX0 24 "NumberFieldFactors$Extension" "low2" "I") (by decide +kernel)) (fun _ h9 => h9) rfl (by decide +kernel) rfl rfl (Nat.le_of_ble_eq_true rfl) dX0_become_90 (fun H locs hP hD hS => ?_)
            have hP := cs_E4 hP
            refine lv_aload_n hx hb dX0_become_93 rfl (lv_at hl 2 rfl) ?_
            refine lv_iload_n hx hb dX0_become_94 rfl (lv_at hl 3 rfl) ?_
            refine lv_iconst (v := 1) hx hb dX0_become_95 (by decide) ?_
            refine lv_icmp_ne (tgt := 109) hx hb dX0_become_96 (by decide) (fun c68 => ?_) (fun c68 => ?_)
            · rw [if_neg c68] at hf
              refine lv_bipush (v := 101) hx hb dX0_become_109 (by decide) ?_
              refine va_put (ci := 0) (v := .int 101) (ty := .int) (C := RX0) (T := TX0) (N := 8) hx hb hts (by decide +kernel) tyX0 tyX0_ok nmX0 hown hK hP (ww_D hj) hS 40 cc_ext rfl 5 (by decide) (hts (.fieldLink RX0 27 "NumberFieldFactors$Extension" "t" "I") (by decide +kernel)) (fun _ h9 => h9) rfl (by decide +kernel) rfl rfl (Nat.le_of_ble_eq_true rfl) dX0_become_111 (fun H locs hP hD hS => ?_)
              have hP := cs_E5 hP
              refine lv_aload_n hx hb dX0_become_114 rfl (lv_at hl 2 rfl) ?_
              refine lv_aload_n hx hb dX0_become_115 rfl (lv_at hl 2 rfl) ?_
              refine lv_aload_n hx hb dX0_become_116 rfl (lv_at hl 2 rfl) ?_
              refine va_get (ci := 0) (v := .int ((va_up (va_up (va_up (va_up (va_up (va_up E 0 p0) 1 1030301) 2 p1) 3 0) 4 p3) 5 101) 5)) (C := RX0) (T := TX0) (N := 8) hx hb hts (by decide +kernel) hown hK hP 40 cc_ext rfl 5 (by decide) (hts (.fieldLink RX0 27 "NumberFieldFactors$Extension" "t" "I") (by decide +kernel)) (fun _ h9 => h9) rfl dX0_become_117 ?_
              refine lv_bipush (v := 101) hx hb dX0_become_120 (by decide) ?_
              obtain ⟨u69, g70, hf⟩ := Option.bind_eq_some_iff.mp hf
              try dsimp only at hf
              refine ct_call (va_runV (As := [.int ((va_up (va_up (va_up (va_up (va_up (va_up E 0 p0) 1 1030301) 2 p1) 3 0) 4 p3) 5 101) 5), .int 101]) (rest := [.ref (ad 40)]) ⟨hx, hb, hml, hown, hts⟩ (C_X0_power l D tys nw hn hnw hj htI htR (res := u69) g70) (cwV 2 hts gX0_become_X0_power rfl rfl rfl (by decide +kernel) ⟨Nat.le_of_ble_eq_true rfl, Nat.le_of_ble_eq_true rfl⟩) (ct_preV hn hP hK hN (ci := 0) (k := 40) rfl (by decide) rfl) rfl rfl hl.1 rfl (lv_room (Nat.le_of_ble_eq_true rfl)) dX0_become_122 ⟨Nat.zero_le _, Nat.zero_le _⟩) hS (fun H locs hP hS => ?_)
              refine va_put (ci := 0) (v := .int u69) (ty := .int) (C := RX0) (T := TX0) (N := 8) hx hb hts (by decide +kernel) tyX0 tyX0_ok nmX0 hown hK hP (ww_D hj) hS 40 cc_ext rfl 6 (by decide) (hts (.fieldLink RX0 30 "NumberFieldFactors$Extension" "mateOfT" "I") (by decide +kernel)) (fun _ h9 => h9) rfl (by decide +kernel) rfl rfl (Nat.le_of_ble_eq_true rfl) dX0_become_125 (fun H locs hP hD hS => ?_)
              have hP := cs_E6 hP
              refine lv_aload_n hx hb dX0_become_128 rfl (lv_at hl 2 rfl) ?_
              refine lv_aload_n hx hb dX0_become_129 rfl (lv_at hl 2 rfl) ?_
              refine lv_aload_n hx hb dX0_become_130 rfl (lv_at hl 2 rfl) ?_
              refine va_get (ci := 0) (v := .int ((va_up (va_up (va_up (va_up (va_up (va_up (va_up E 0 p0) 1 1030301) 2 p1) 3 0) 4 p3) 5 101) 6 u69) 6)) (C := RX0) (T := TX0) (N := 8) hx hb hts (by decide +kernel) hown hK hP 40 cc_ext rfl 6 (by decide) (hts (.fieldLink RX0 30 "NumberFieldFactors$Extension" "mateOfT" "I") (by decide +kernel)) (fun _ h9 => h9) rfl dX0_become_131 ?_
              refine lv_aload_n hx hb dX0_become_134 rfl (lv_at hl 2 rfl) ?_
              refine va_get (ci := 0) (v := .int ((va_up (va_up (va_up (va_up (va_up (va_up (va_up E 0 p0) 1 1030301) 2 p1) 3 0) 4 p3) 5 101) 6 u69) 6)) (C := RX0) (T := TX0) (N := 8) hx hb hts (by decide +kernel) hown hK hP 40 cc_ext rfl 6 (by decide) (hts (.fieldLink RX0 30 "NumberFieldFactors$Extension" "mateOfT" "I") (by decide +kernel)) (fun _ h9 => h9) rfl dX0_become_135 ?_
              obtain ⟨u71, g72, hf⟩ := Option.bind_eq_some_iff.mp hf
              try dsimp only at hf
              refine ct_call (va_runV (As := [.int ((va_up (va_up (va_up (va_up (va_up (va_up (va_up E 0 p0) 1 1030301) 2 p1) 3 0) 4 p3) 5 101) 6 u69) 6), .int ((va_up (va_up (va_up (va_up (va_up (va_up (va_up E 0 p0) 1 1030301) 2 p1) 3 0) 4 p3) 5 101) 6 u69) 6)]) (rest := [.ref (ad 40)]) ⟨hx, hb, hml, hown, hts⟩ (C_X0_times l D tys nw hn hnw hj htI htR (res := u71) g72) (cwV 2 hts gX0_become_X0_times rfl rfl rfl (by decide +kernel) ⟨Nat.le_of_ble_eq_true rfl, Nat.le_of_ble_eq_true rfl⟩) (ct_preV hn hP hK hN (ci := 0) (k := 40) rfl (by decide) rfl) rfl rfl hl.1 rfl (lv_room (Nat.le_of_ble_eq_true rfl)) dX0_become_138 ⟨Nat.zero_le _, Nat.zero_le _⟩) hS (fun H locs hP hS => ?_)
              refine va_put (ci := 0) (v := .int u71) (ty := .int) (C := RX0) (T := TX0) (N := 8) hx hb hts (by decide +kernel) tyX0 tyX0_ok nmX0 hown hK hP (ww_D hj) hS 40 cc_ext rfl 7 (by decide) (hts (.fieldLink RX0 33 "NumberFieldFactors$Extension" "mateOfTSquared" "I") (by decide +kernel)) (fun _ h9 => h9) rfl (by decide +kernel) rfl rfl (Nat.le_of_ble_eq_true rfl) dX0_become_141 (fun H locs hP hD hS => ?_)
              have hP := cs_E7 hP
              refine lv_iconst (v := 1) hx hb dX0_become_144 (by decide) ?_
              obtain rfl := Option.some.inj hf
              exact W.zret (v := 1) (ty := .boolean) hx hb hr (by decide) (fun t ht hW => ⟨rfl, by rw [ht]; exact hP, hS.F ht⟩) hS.2.2 dX0_become_145
            · rw [if_pos c68] at hf
              refine lv_bipush (v := 101) hx hb dX0_become_99 (by decide) ?_
              refine lv_iload_n hx hb dX0_become_101 rfl (lv_at hl 4 rfl) ?_
              refine lv_isub hx hb dX0_become_102 ?_
              refine lv_bipush (v := 101) hx hb dX0_become_103 (by decide) ?_
              refine jv_irem hx hb dX0_become_105 (by decide) ?_
              refine lv_goto (tgt := 111) hx hb dX0_become_106 (by decide) ?_
              refine va_put (ci := 0) (v := .int (jrem (101 - p1) 101)) (ty := .int) (C := RX0) (T := TX0) (N := 8) hx hb hts (by decide +kernel) tyX0 tyX0_ok nmX0 hown hK hP (ww_D hj) hS 40 cc_ext rfl 5 (by decide) (hts (.fieldLink RX0 27 "NumberFieldFactors$Extension" "t" "I") (by decide +kernel)) (fun _ h9 => h9) rfl (by decide +kernel) rfl rfl (Nat.le_of_ble_eq_true rfl) dX0_become_111 (fun H locs hP hD hS => ?_)
              have hP := cs_E5 hP
              refine lv_aload_n hx hb dX0_become_114 rfl (lv_at hl 2 rfl) ?_
              refine lv_aload_n hx hb dX0_become_115 rfl (lv_at hl 2 rfl) ?_
              refine lv_aload_n hx hb dX0_become_116 rfl (lv_at hl 2 rfl) ?_
              refine va_get (ci := 0) (v := .int ((va_up (va_up (va_up (va_up (va_up (va_up E 0 p0) 1 1030301) 2 p1) 3 0) 4 p3) 5 (jrem (101 - p1) 101)) 5)) (C := RX0) (T := TX0) (N := 8) hx hb hts (by decide +kernel) hown hK hP 40 cc_ext rfl 5 (by decide) (hts (.fieldLink RX0 27 "NumberFieldFactors$Extension" "t" "I") (by decide +kernel)) (fun _ h9 => h9) rfl dX0_become_117 ?_
              refine lv_bipush (v := 101) hx hb dX0_become_120 (by decide) ?_
              obtain ⟨u73, g74, hf⟩ := Option.bind_eq_some_iff.mp hf
              try dsimp only at hf
              refine ct_call (va_runV (As := [.int ((va_up (va_up (va_up (va_up (va_up (va_up E 0 p0) 1 1030301) 2 p1) 3 0) 4 p3) 5 (jrem (101 - p1) 101)) 5), .int 101]) (rest := [.ref (ad 40)]) ⟨hx, hb, hml, hown, hts⟩ (C_X0_power l D tys nw hn hnw hj htI htR (res := u73) g74) (cwV 2 hts gX0_become_X0_power rfl rfl rfl (by decide +kernel) ⟨Nat.le_of_ble_eq_true rfl, Nat.le_of_ble_eq_true rfl⟩) (ct_preV hn hP hK hN (ci := 0) (k := 40) rfl (by decide) rfl) rfl rfl hl.1 rfl (lv_room (Nat.le_of_ble_eq_true rfl)) dX0_become_122 ⟨Nat.zero_le _, Nat.zero_le _⟩) hS (fun H locs hP hS => ?_)
              refine va_put (ci := 0) (v := .int u73) (ty := .int) (C := RX0) (T := TX0) (N := 8) hx hb hts (by decide +kernel) tyX0 tyX0_ok nmX0 hown hK hP (ww_D hj) hS 40 cc_ext rfl 6 (by decide) (hts (.fieldLink RX0 30 "NumberFieldFactors$Extension" "mateOfT" "I") (by decide +kernel)) (fun _ h9 => h9) rfl (by decide +kernel) rfl rfl (Nat.le_of_ble_eq_true rfl) dX0_become_125 (fun H locs hP hD hS => ?_)
              have hP := cs_E6 hP
              refine lv_aload_n hx hb dX0_become_128 rfl (lv_at hl 2 rfl) ?_
              refine lv_aload_n hx hb dX0_become_129 rfl (lv_at hl 2 rfl) ?_
              refine lv_aload_n hx hb dX0_become_130 rfl (lv_at hl 2 rfl) ?_
              refine va_get (ci := 0) (v := .int ((va_up (va_up (va_up (va_up (va_up (va_up (va_up E 0 p0) 1 1030301) 2 p1) 3 0) 4 p3) 5 (jrem (101 - p1) 101)) 6 u73) 6)) (C := RX0) (T := TX0) (N := 8) hx hb hts (by decide +kernel) hown hK hP 40 cc_ext rfl 6 (by decide) (hts (.fieldLink RX0 30 "NumberFieldFactors$Extension" "mateOfT" "I") (by decide +kernel)) (fun _ h9 => h9) rfl dX0_become_131 ?_
              refine lv_aload_n hx hb dX0_become_134 rfl (lv_at hl 2 rfl) ?_
              refine va_get (ci := 0) (v := .int ((va_up (va_up (va_up (va_up (va_up (va_up (va_up E 0 p0) 1 1030301) 2 p1) 3 0) 4 p3) 5 (jrem (101 - p1) 101)) 6 u73) 6)) (C := RX0) (T := TX0) (N := 8) hx hb hts (by decide +kernel) hown hK hP 40 cc_ext rfl 6 (by decide) (hts (.fieldLink RX0 30 "NumberFieldFactors$Extension" "mateOfT" "I") (by decide +kernel)) (fun _ h9 => h9) rfl dX0_become_135 ?_
              obtain ⟨u75, g76, hf⟩ := Option.bind_eq_some_iff.mp hf
              try dsimp only at hf
              refine ct_call (va_runV (As := [.int ((va_up (va_up (va_up (va_up (va_up (va_up (va_up E 0 p0) 1 1030301) 2 p1) 3 0) 4 p3) 5 (jrem (101 - p1) 101)) 6 u73) 6), .int ((va_up (va_up (va_up (va_up (va_up (va_up (va_up E 0 p0) 1 1030301) 2 p1) 3 0) 4 p3) 5 (jrem (101 - p1) 101)) 6 u73) 6)]) (rest := [.ref (ad 40)]) ⟨hx, hb, hml, hown, hts⟩ (C_X0_times l D tys nw hn hnw hj htI htR (res := u75) g76) (cwV 2 hts gX0_become_X0_times rfl rfl rfl (by decide +kernel) ⟨Nat.le_of_ble_eq_true rfl, Nat.le_of_ble_eq_true rfl⟩) (ct_preV hn hP hK hN (ci := 0) (k := 40) rfl (by decide) rfl) rfl rfl hl.1 rfl (lv_room (Nat.le_of_ble_eq_true rfl)) dX0_become_138 ⟨Nat.zero_le _, Nat.zero_le _⟩) hS (fun H locs hP hS => ?_)
              refine va_put (ci := 0) (v := .int u75) (ty := .int) (C := RX0) (T := TX0) (N := 8) hx hb hts (by decide +kernel) tyX0 tyX0_ok nmX0 hown hK hP (ww_D hj) hS 40 cc_ext rfl 7 (by decide) (hts (.fieldLink RX0 33 "NumberFieldFactors$Extension" "mateOfTSquared" "I") (by decide +kernel)) (fun _ h9 => h9) rfl (by decide +kernel) rfl rfl (Nat.le_of_ble_eq_true rfl) dX0_become_141 (fun H locs hP hD hS => ?_)
              have hP := cs_E7 hP
              refine lv_iconst (v := 1) hx hb dX0_become_144 (by decide) ?_
              obtain rfl := Option.some.inj hf
              exact W.zret (v := 1) (ty := .boolean) hx hb hr (by decide) (fun t ht hW => ⟨rfl, by rw [ht]; exact hP, hS.F ht⟩) hS.2.2 dX0_become_145
          · rw [if_pos c67] at hf
            refine lv_sipush (v := 10201) hx hb dX0_become_65 (by decide) ?_
            refine lv_goto (tgt := 73) hx hb dX0_become_68 (by decide) ?_
            refine va_put (ci := 0) (v := .int 10201) (ty := .int) (C := RX0) (T := TX0) (N := 8) hx hb hts (by decide +kernel) tyX0 tyX0_ok nmX0 hown hK hP (ww_D hj) hS 40 cc_ext rfl 1 (by decide) (hts (.fieldLink RX0 15 "NumberFieldFactors$Extension" "size" "I") (by decide +kernel)) (fun _ h9 => h9) rfl (by decide +kernel) rfl rfl (Nat.le_of_ble_eq_true rfl) dX0_become_73 (fun H locs hP hD hS => ?_)
            have hP := cs_E1 hP
            refine lv_aload_n hx hb dX0_become_76 rfl (lv_at hl 2 rfl) ?_
            refine lv_iload_n hx hb dX0_become_77 rfl (lv_at hl 4 rfl) ?_
            refine va_put (ci := 0) (v := .int p1) (ty := .int) (C := RX0) (T := TX0) (N := 8) hx hb hts (by decide +kernel) tyX0 tyX0_ok nmX0 hown hK hP (ww_D hj) hS 40 cc_ext rfl 2 (by decide) (hts (.fieldLink RX0 18 "NumberFieldFactors$Extension" "low0" "I") (by decide +kernel)) (fun _ h9 => h9) rfl (by decide +kernel) rfl rfl (Nat.le_of_ble_eq_true rfl) dX0_become_78 (fun H locs hP hD hS => ?_)
            have hP := cs_E2 hP
            refine lv_aload_n hx hb dX0_become_81 rfl (lv_at hl 2 rfl) ?_
            refine lv_iload hx hb dX0_become_82 (lv_at hl 1 rfl) ?_
            refine va_put (ci := 0) (v := .int 0) (ty := .int) (C := RX0) (T := TX0) (N := 8) hx hb hts (by decide +kernel) tyX0 tyX0_ok nmX0 hown hK hP (ww_D hj) hS 40 cc_ext rfl 3 (by decide) (hts (.fieldLink RX0 21 "NumberFieldFactors$Extension" "low1" "I") (by decide +kernel)) (fun _ h9 => h9) rfl (by decide +kernel) rfl rfl (Nat.le_of_ble_eq_true rfl) dX0_become_84 (fun H locs hP hD hS => ?_)
            have hP := cs_E3 hP
            refine lv_aload_n hx hb dX0_become_87 rfl (lv_at hl 2 rfl) ?_
            refine lv_iload hx hb dX0_become_88 (lv_at hl 0 rfl) ?_
            refine va_put (ci := 0) (v := .int p3) (ty := .int) (C := RX0) (T := TX0) (N := 8) hx hb hts (by decide +kernel) tyX0 tyX0_ok nmX0 hown hK hP (ww_D hj) hS 40 cc_ext rfl 4 (by decide) (hts (.fieldLink RX0 24 "NumberFieldFactors$Extension" "low2" "I") (by decide +kernel)) (fun _ h9 => h9) rfl (by decide +kernel) rfl rfl (Nat.le_of_ble_eq_true rfl) dX0_become_90 (fun H locs hP hD hS => ?_)
            have hP := cs_E4 hP
            refine lv_aload_n hx hb dX0_become_93 rfl (lv_at hl 2 rfl) ?_
            refine lv_iload_n hx hb dX0_become_94 rfl (lv_at hl 3 rfl) ?_
            refine lv_iconst (v := 1) hx hb dX0_become_95 (by decide) ?_
            refine lv_icmp_ne (tgt := 109) hx hb dX0_become_96 (by decide) (fun c77 => ?_) (fun c77 => ?_)
            · rw [if_neg c77] at hf
              refine lv_bipush (v := 101) hx hb dX0_become_109 (by decide) ?_
              refine va_put (ci := 0) (v := .int 101) (ty := .int) (C := RX0) (T := TX0) (N := 8) hx hb hts (by decide +kernel) tyX0 tyX0_ok nmX0 hown hK hP (ww_D hj) hS 40 cc_ext rfl 5 (by decide) (hts (.fieldLink RX0 27 "NumberFieldFactors$Extension" "t" "I") (by decide +kernel)) (fun _ h9 => h9) rfl (by decide +kernel) rfl rfl (Nat.le_of_ble_eq_true rfl) dX0_become_111 (fun H locs hP hD hS => ?_)
              have hP := cs_E5 hP
              refine lv_aload_n hx hb dX0_become_114 rfl (lv_at hl 2 rfl) ?_
              refine lv_aload_n hx hb dX0_become_115 rfl (lv_at hl 2 rfl) ?_
              refine lv_aload_n hx hb dX0_become_116 rfl (lv_at hl 2 rfl) ?_
              refine va_get (ci := 0) (v := .int ((va_up (va_up (va_up (va_up (va_up (va_up E 0 p0) 1 10201) 2 p1) 3 0) 4 p3) 5 101) 5)) (C := RX0) (T := TX0) (N := 8) hx hb hts (by decide +kernel) hown hK hP 40 cc_ext rfl 5 (by decide) (hts (.fieldLink RX0 27 "NumberFieldFactors$Extension" "t" "I") (by decide +kernel)) (fun _ h9 => h9) rfl dX0_become_117 ?_
              refine lv_bipush (v := 101) hx hb dX0_become_120 (by decide) ?_
              obtain ⟨u78, g79, hf⟩ := Option.bind_eq_some_iff.mp hf
              try dsimp only at hf
              refine ct_call (va_runV (As := [.int ((va_up (va_up (va_up (va_up (va_up (va_up E 0 p0) 1 10201) 2 p1) 3 0) 4 p3) 5 101) 5), .int 101]) (rest := [.ref (ad 40)]) ⟨hx, hb, hml, hown, hts⟩ (C_X0_power l D tys nw hn hnw hj htI htR (res := u78) g79) (cwV 2 hts gX0_become_X0_power rfl rfl rfl (by decide +kernel) ⟨Nat.le_of_ble_eq_true rfl, Nat.le_of_ble_eq_true rfl⟩) (ct_preV hn hP hK hN (ci := 0) (k := 40) rfl (by decide) rfl) rfl rfl hl.1 rfl (lv_room (Nat.le_of_ble_eq_true rfl)) dX0_become_122 ⟨Nat.zero_le _, Nat.zero_le _⟩) hS (fun H locs hP hS => ?_)
              refine va_put (ci := 0) (v := .int u78) (ty := .int) (C := RX0) (T := TX0) (N := 8) hx hb hts (by decide +kernel) tyX0 tyX0_ok nmX0 hown hK hP (ww_D hj) hS 40 cc_ext rfl 6 (by decide) (hts (.fieldLink RX0 30 "NumberFieldFactors$Extension" "mateOfT" "I") (by decide +kernel)) (fun _ h9 => h9) rfl (by decide +kernel) rfl rfl (Nat.le_of_ble_eq_true rfl) dX0_become_125 (fun H locs hP hD hS => ?_)
              have hP := cs_E6 hP
              refine lv_aload_n hx hb dX0_become_128 rfl (lv_at hl 2 rfl) ?_
              refine lv_aload_n hx hb dX0_become_129 rfl (lv_at hl 2 rfl) ?_
              refine lv_aload_n hx hb dX0_become_130 rfl (lv_at hl 2 rfl) ?_
              refine va_get (ci := 0) (v := .int ((va_up (va_up (va_up (va_up (va_up (va_up (va_up E 0 p0) 1 10201) 2 p1) 3 0) 4 p3) 5 101) 6 u78) 6)) (C := RX0) (T := TX0) (N := 8) hx hb hts (by decide +kernel) hown hK hP 40 cc_ext rfl 6 (by decide) (hts (.fieldLink RX0 30 "NumberFieldFactors$Extension" "mateOfT" "I") (by decide +kernel)) (fun _ h9 => h9) rfl dX0_become_131 ?_
              refine lv_aload_n hx hb dX0_become_134 rfl (lv_at hl 2 rfl) ?_
              refine va_get (ci := 0) (v := .int ((va_up (va_up (va_up (va_up (va_up (va_up (va_up E 0 p0) 1 10201) 2 p1) 3 0) 4 p3) 5 101) 6 u78) 6)) (C := RX0) (T := TX0) (N := 8) hx hb hts (by decide +kernel) hown hK hP 40 cc_ext rfl 6 (by decide) (hts (.fieldLink RX0 30 "NumberFieldFactors$Extension" "mateOfT" "I") (by decide +kernel)) (fun _ h9 => h9) rfl dX0_become_135 ?_
              obtain ⟨u80, g81, hf⟩ := Option.bind_eq_some_iff.mp hf
              try dsimp only at hf
              refine ct_call (va_runV (As := [.int ((va_up (va_up (va_up (va_up (va_up (va_up (va_up E 0 p0) 1 10201) 2 p1) 3 0) 4 p3) 5 101) 6 u78) 6), .int ((va_up (va_up (va_up (va_up (va_up (va_up (va_up E 0 p0) 1 10201) 2 p1) 3 0) 4 p3) 5 101) 6 u78) 6)]) (rest := [.ref (ad 40)]) ⟨hx, hb, hml, hown, hts⟩ (C_X0_times l D tys nw hn hnw hj htI htR (res := u80) g81) (cwV 2 hts gX0_become_X0_times rfl rfl rfl (by decide +kernel) ⟨Nat.le_of_ble_eq_true rfl, Nat.le_of_ble_eq_true rfl⟩) (ct_preV hn hP hK hN (ci := 0) (k := 40) rfl (by decide) rfl) rfl rfl hl.1 rfl (lv_room (Nat.le_of_ble_eq_true rfl)) dX0_become_138 ⟨Nat.zero_le _, Nat.zero_le _⟩) hS (fun H locs hP hS => ?_)
              refine va_put (ci := 0) (v := .int u80) (ty := .int) (C := RX0) (T := TX0) (N := 8) hx hb hts (by decide +kernel) tyX0 tyX0_ok nmX0 hown hK hP (ww_D hj) hS 40 cc_ext rfl 7 (by decide) (hts (.fieldLink RX0 33 "NumberFieldFactors$Extension" "mateOfTSquared" "I") (by decide +kernel)) (fun _ h9 => h9) rfl (by decide +kernel) rfl rfl (Nat.le_of_ble_eq_true rfl) dX0_become_141 (fun H locs hP hD hS => ?_)
              have hP := cs_E7 hP
              refine lv_iconst (v := 1) hx hb dX0_become_144 (by decide) ?_
              obtain rfl := Option.some.inj hf
              exact W.zret (v := 1) (ty := .boolean) hx hb hr (by decide) (fun t ht hW => ⟨rfl, by rw [ht]; exact hP, hS.F ht⟩) hS.2.2 dX0_become_145
            · rw [if_pos c77] at hf
              refine lv_bipush (v := 101) hx hb dX0_become_99 (by decide) ?_
              refine lv_iload_n hx hb dX0_become_101 rfl (lv_at hl 4 rfl) ?_
              refine lv_isub hx hb dX0_become_102 ?_
              refine lv_bipush (v := 101) hx hb dX0_become_103 (by decide) ?_
              refine jv_irem hx hb dX0_become_105 (by decide) ?_
              refine lv_goto (tgt := 111) hx hb dX0_become_106 (by decide) ?_
              refine va_put (ci := 0) (v := .int (jrem (101 - p1) 101)) (ty := .int) (C := RX0) (T := TX0) (N := 8) hx hb hts (by decide +kernel) tyX0 tyX0_ok nmX0 hown hK hP (ww_D hj) hS 40 cc_ext rfl 5 (by decide) (hts (.fieldLink RX0 27 "NumberFieldFactors$Extension" "t" "I") (by decide +kernel)) (fun _ h9 => h9) rfl (by decide +kernel) rfl rfl (Nat.le_of_ble_eq_true rfl) dX0_become_111 (fun H locs hP hD hS => ?_)
              have hP := cs_E5 hP
              refine lv_aload_n hx hb dX0_become_114 rfl (lv_at hl 2 rfl) ?_
              refine lv_aload_n hx hb dX0_become_115 rfl (lv_at hl 2 rfl) ?_
              refine lv_aload_n hx hb dX0_become_116 rfl (lv_at hl 2 rfl) ?_
              refine va_get (ci := 0) (v := .int ((va_up (va_up (va_up (va_up (va_up (va_up E 0 p0) 1 10201) 2 p1) 3 0) 4 p3) 5 (jrem (101 - p1) 101)) 5)) (C := RX0) (T := TX0) (N := 8) hx hb hts (by decide +kernel) hown hK hP 40 cc_ext rfl 5 (by decide) (hts (.fieldLink RX0 27 "NumberFieldFactors$Extension" "t" "I") (by decide +kernel)) (fun _ h9 => h9) rfl dX0_become_117 ?_
              refine lv_bipush (v := 101) hx hb dX0_become_120 (by decide) ?_
              obtain ⟨u82, g83, hf⟩ := Option.bind_eq_some_iff.mp hf
              try dsimp only at hf
              refine ct_call (va_runV (As := [.int ((va_up (va_up (va_up (va_up (va_up (va_up E 0 p0) 1 10201) 2 p1) 3 0) 4 p3) 5 (jrem (101 - p1) 101)) 5), .int 101]) (rest := [.ref (ad 40)]) ⟨hx, hb, hml, hown, hts⟩ (C_X0_power l D tys nw hn hnw hj htI htR (res := u82) g83) (cwV 2 hts gX0_become_X0_power rfl rfl rfl (by decide +kernel) ⟨Nat.le_of_ble_eq_true rfl, Nat.le_of_ble_eq_true rfl⟩) (ct_preV hn hP hK hN (ci := 0) (k := 40) rfl (by decide) rfl) rfl rfl hl.1 rfl (lv_room (Nat.le_of_ble_eq_true rfl)) dX0_become_122 ⟨Nat.zero_le _, Nat.zero_le _⟩) hS (fun H locs hP hS => ?_)
              refine va_put (ci := 0) (v := .int u82) (ty := .int) (C := RX0) (T := TX0) (N := 8) hx hb hts (by decide +kernel) tyX0 tyX0_ok nmX0 hown hK hP (ww_D hj) hS 40 cc_ext rfl 6 (by decide) (hts (.fieldLink RX0 30 "NumberFieldFactors$Extension" "mateOfT" "I") (by decide +kernel)) (fun _ h9 => h9) rfl (by decide +kernel) rfl rfl (Nat.le_of_ble_eq_true rfl) dX0_become_125 (fun H locs hP hD hS => ?_)
              have hP := cs_E6 hP
              refine lv_aload_n hx hb dX0_become_128 rfl (lv_at hl 2 rfl) ?_
              refine lv_aload_n hx hb dX0_become_129 rfl (lv_at hl 2 rfl) ?_
              refine lv_aload_n hx hb dX0_become_130 rfl (lv_at hl 2 rfl) ?_
              refine va_get (ci := 0) (v := .int ((va_up (va_up (va_up (va_up (va_up (va_up (va_up E 0 p0) 1 10201) 2 p1) 3 0) 4 p3) 5 (jrem (101 - p1) 101)) 6 u82) 6)) (C := RX0) (T := TX0) (N := 8) hx hb hts (by decide +kernel) hown hK hP 40 cc_ext rfl 6 (by decide) (hts (.fieldLink RX0 30 "NumberFieldFactors$Extension" "mateOfT" "I") (by decide +kernel)) (fun _ h9 => h9) rfl dX0_become_131 ?_
              refine lv_aload_n hx hb dX0_become_134 rfl (lv_at hl 2 rfl) ?_
              refine va_get (ci := 0) (v := .int ((va_up (va_up (va_up (va_up (va_up (va_up (va_up E 0 p0) 1 10201) 2 p1) 3 0) 4 p3) 5 (jrem (101 - p1) 101)) 6 u82) 6)) (C := RX0) (T := TX0) (N := 8) hx hb hts (by decide +kernel) hown hK hP 40 cc_ext rfl 6 (by decide) (hts (.fieldLink RX0 30 "NumberFieldFactors$Extension" "mateOfT" "I") (by decide +kernel)) (fun _ h9 => h9) rfl dX0_become_135 ?_
              obtain ⟨u84, g85, hf⟩ := Option.bind_eq_some_iff.mp hf
              try dsimp only at hf
              refine ct_call (va_runV (As := [.int ((va_up (va_up (va_up (va_up (va_up (va_up (va_up E 0 p0) 1 10201) 2 p1) 3 0) 4 p3) 5 (jrem (101 - p1) 101)) 6 u82) 6), .int ((va_up (va_up (va_up (va_up (va_up (va_up (va_up E 0 p0) 1 10201) 2 p1) 3 0) 4 p3) 5 (jrem (101 - p1) 101)) 6 u82) 6)]) (rest := [.ref (ad 40)]) ⟨hx, hb, hml, hown, hts⟩ (C_X0_times l D tys nw hn hnw hj htI htR (res := u84) g85) (cwV 2 hts gX0_become_X0_times rfl rfl rfl (by decide +kernel) ⟨Nat.le_of_ble_eq_true rfl, Nat.le_of_ble_eq_true rfl⟩) (ct_preV hn hP hK hN (ci := 0) (k := 40) rfl (by decide) rfl) rfl rfl hl.1 rfl (lv_room (Nat.le_of_ble_eq_true rfl)) dX0_become_138 ⟨Nat.zero_le _, Nat.zero_le _⟩) hS (fun H locs hP hS => ?_)
              refine va_put (ci := 0) (v := .int u84) (ty := .int) (C := RX0) (T := TX0) (N := 8) hx hb hts (by decide +kernel) tyX0 tyX0_ok nmX0 hown hK hP (ww_D hj) hS 40 cc_ext rfl 7 (by decide) (hts (.fieldLink RX0 33 "NumberFieldFactors$Extension" "mateOfTSquared" "I") (by decide +kernel)) (fun _ h9 => h9) rfl (by decide +kernel) rfl rfl (Nat.le_of_ble_eq_true rfl) dX0_become_141 (fun H locs hP hD hS => ?_)
              have hP := cs_E7 hP
              refine lv_iconst (v := 1) hx hb dX0_become_144 (by decide) ?_
              obtain rfl := Option.some.inj hf
              exact W.zret (v := 1) (ty := .boolean) hx hb hr (by decide) (fun t ht hW => ⟨rfl, by rw [ht]; exact hP, hS.F ht⟩) hS.2.2 dX0_become_145
        · rw [if_pos c66] at hf
          refine lv_bipush (v := 101) hx hb dX0_become_55 (by decide) ?_
          refine lv_goto (tgt := 73) hx hb dX0_become_57 (by decide) ?_
          refine va_put (ci := 0) (v := .int 101) (ty := .int) (C := RX0) (T := TX0) (N := 8) hx hb hts (by decide +kernel) tyX0 tyX0_ok nmX0 hown hK hP (ww_D hj) hS 40 cc_ext rfl 1 (by decide) (hts (.fieldLink RX0 15 "NumberFieldFactors$Extension" "size" "I") (by decide +kernel)) (fun _ h9 => h9) rfl (by decide +kernel) rfl rfl (Nat.le_of_ble_eq_true rfl) dX0_become_73 (fun H locs hP hD hS => ?_)
          have hP := cs_E1 hP
          refine lv_aload_n hx hb dX0_become_76 rfl (lv_at hl 2 rfl) ?_
          refine lv_iload_n hx hb dX0_become_77 rfl (lv_at hl 4 rfl) ?_
          refine va_put (ci := 0) (v := .int p1) (ty := .int) (C := RX0) (T := TX0) (N := 8) hx hb hts (by decide +kernel) tyX0 tyX0_ok nmX0 hown hK hP (ww_D hj) hS 40 cc_ext rfl 2 (by decide) (hts (.fieldLink RX0 18 "NumberFieldFactors$Extension" "low0" "I") (by decide +kernel)) (fun _ h9 => h9) rfl (by decide +kernel) rfl rfl (Nat.le_of_ble_eq_true rfl) dX0_become_78 (fun H locs hP hD hS => ?_)
          have hP := cs_E2 hP
          refine lv_aload_n hx hb dX0_become_81 rfl (lv_at hl 2 rfl) ?_
          refine lv_iload hx hb dX0_become_82 (lv_at hl 1 rfl) ?_
          refine va_put (ci := 0) (v := .int 0) (ty := .int) (C := RX0) (T := TX0) (N := 8) hx hb hts (by decide +kernel) tyX0 tyX0_ok nmX0 hown hK hP (ww_D hj) hS 40 cc_ext rfl 3 (by decide) (hts (.fieldLink RX0 21 "NumberFieldFactors$Extension" "low1" "I") (by decide +kernel)) (fun _ h9 => h9) rfl (by decide +kernel) rfl rfl (Nat.le_of_ble_eq_true rfl) dX0_become_84 (fun H locs hP hD hS => ?_)
          have hP := cs_E3 hP
          refine lv_aload_n hx hb dX0_become_87 rfl (lv_at hl 2 rfl) ?_
          refine lv_iload hx hb dX0_become_88 (lv_at hl 0 rfl) ?_
          refine va_put (ci := 0) (v := .int p3) (ty := .int) (C := RX0) (T := TX0) (N := 8) hx hb hts (by decide +kernel) tyX0 tyX0_ok nmX0 hown hK hP (ww_D hj) hS 40 cc_ext rfl 4 (by decide) (hts (.fieldLink RX0 24 "NumberFieldFactors$Extension" "low2" "I") (by decide +kernel)) (fun _ h9 => h9) rfl (by decide +kernel) rfl rfl (Nat.le_of_ble_eq_true rfl) dX0_become_90 (fun H locs hP hD hS => ?_)
          have hP := cs_E4 hP
          refine lv_aload_n hx hb dX0_become_93 rfl (lv_at hl 2 rfl) ?_
          refine lv_iload_n hx hb dX0_become_94 rfl (lv_at hl 3 rfl) ?_
          refine lv_iconst (v := 1) hx hb dX0_become_95 (by decide) ?_
          refine lv_icmp_ne (tgt := 109) hx hb dX0_become_96 (by decide) (fun c86 => ?_) (fun c86 => ?_)
          · rw [if_neg c86] at hf
            refine lv_bipush (v := 101) hx hb dX0_become_109 (by decide) ?_
            refine va_put (ci := 0) (v := .int 101) (ty := .int) (C := RX0) (T := TX0) (N := 8) hx hb hts (by decide +kernel) tyX0 tyX0_ok nmX0 hown hK hP (ww_D hj) hS 40 cc_ext rfl 5 (by decide) (hts (.fieldLink RX0 27 "NumberFieldFactors$Extension" "t" "I") (by decide +kernel)) (fun _ h9 => h9) rfl (by decide +kernel) rfl rfl (Nat.le_of_ble_eq_true rfl) dX0_become_111 (fun H locs hP hD hS => ?_)
            have hP := cs_E5 hP
            refine lv_aload_n hx hb dX0_become_114 rfl (lv_at hl 2 rfl) ?_
            refine lv_aload_n hx hb dX0_become_115 rfl (lv_at hl 2 rfl) ?_
            refine lv_aload_n hx hb dX0_become_116 rfl (lv_at hl 2 rfl) ?_
            refine va_get (ci := 0) (v := .int ((va_up (va_up (va_up (va_up (va_up (va_up E 0 p0) 1 101) 2 p1) 3 0) 4 p3) 5 101) 5)) (C := RX0) (T := TX0) (N := 8) hx hb hts (by decide +kernel) hown hK hP 40 cc_ext rfl 5 (by decide) (hts (.fieldLink RX0 27 "NumberFieldFactors$Extension" "t" "I") (by decide +kernel)) (fun _ h9 => h9) rfl dX0_become_117 ?_
            refine lv_bipush (v := 101) hx hb dX0_become_120 (by decide) ?_
            obtain ⟨u87, g88, hf⟩ := Option.bind_eq_some_iff.mp hf
            try dsimp only at hf
            refine ct_call (va_runV (As := [.int ((va_up (va_up (va_up (va_up (va_up (va_up E 0 p0) 1 101) 2 p1) 3 0) 4 p3) 5 101) 5), .int 101]) (rest := [.ref (ad 40)]) ⟨hx, hb, hml, hown, hts⟩ (C_X0_power l D tys nw hn hnw hj htI htR (res := u87) g88) (cwV 2 hts gX0_become_X0_power rfl rfl rfl (by decide +kernel) ⟨Nat.le_of_ble_eq_true rfl, Nat.le_of_ble_eq_true rfl⟩) (ct_preV hn hP hK hN (ci := 0) (k := 40) rfl (by decide) rfl) rfl rfl hl.1 rfl (lv_room (Nat.le_of_ble_eq_true rfl)) dX0_become_122 ⟨Nat.zero_le _, Nat.zero_le _⟩) hS (fun H locs hP hS => ?_)
            refine va_put (ci := 0) (v := .int u87) (ty := .int) (C := RX0) (T := TX0) (N := 8) hx hb hts (by decide +kernel) tyX0 tyX0_ok nmX0 hown hK hP (ww_D hj) hS 40 cc_ext rfl 6 (by decide) (hts (.fieldLink RX0 30 "NumberFieldFactors$Extension" "mateOfT" "I") (by decide +kernel)) (fun _ h9 => h9) rfl (by decide +kernel) rfl rfl (Nat.le_of_ble_eq_true rfl) dX0_become_125 (fun H locs hP hD hS => ?_)
            have hP := cs_E6 hP
            refine lv_aload_n hx hb dX0_become_128 rfl (lv_at hl 2 rfl) ?_
            refine lv_aload_n hx hb dX0_become_129 rfl (lv_at hl 2 rfl) ?_
            refine lv_aload_n hx hb dX0_become_130 rfl (lv_at hl 2 rfl) ?_
            refine va_get (ci := 0) (v := .int ((va_up (va_up (va_up (va_up (va_up (va_up (va_up E 0 p0) 1 101) 2 p1) 3 0) 4 p3) 5 101) 6 u87) 6)) (C := RX0) (T := TX0) (N := 8) hx hb hts (by decide +kernel) hown hK hP 40 cc_ext rfl 6 (by decide) (hts (.fieldLink RX0 30 "NumberFieldFactors$Extension" "mateOfT" "I") (by decide +kernel)) (fun _ h9 => h9) rfl dX0_become_131 ?_
            refine lv_aload_n hx hb dX0_become_134 rfl (lv_at hl 2 rfl) ?_
            refine va_get (ci := 0) (v := .int ((va_up (va_up (va_up (va_up (va_up (va_up (va_up E 0 p0) 1 101) 2 p1) 3 0) 4 p3) 5 101) 6 u87) 6)) (C := RX0) (T := TX0) (N := 8) hx hb hts (by decide +kernel) hown hK hP 40 cc_ext rfl 6 (by decide) (hts (.fieldLink RX0 30 "NumberFieldFactors$Extension" "mateOfT" "I") (by decide +kernel)) (fun _ h9 => h9) rfl dX0_become_135 ?_
            obtain ⟨u89, g90, hf⟩ := Option.bind_eq_some_iff.mp hf
            try dsimp only at hf
            refine ct_call (va_runV (As := [.int ((va_up (va_up (va_up (va_up (va_up (va_up (va_up E 0 p0) 1 101) 2 p1) 3 0) 4 p3) 5 101) 6 u87) 6), .int ((va_up (va_up (va_up (va_up (va_up (va_up (va_up E 0 p0) 1 101) 2 p1) 3 0) 4 p3) 5 101) 6 u87) 6)]) (rest := [.ref (ad 40)]) ⟨hx, hb, hml, hown, hts⟩ (C_X0_times l D tys nw hn hnw hj htI htR (res := u89) g90) (cwV 2 hts gX0_become_X0_times rfl rfl rfl (by decide +kernel) ⟨Nat.le_of_ble_eq_true rfl, Nat.le_of_ble_eq_true rfl⟩) (ct_preV hn hP hK hN (ci := 0) (k := 40) rfl (by decide) rfl) rfl rfl hl.1 rfl (lv_room (Nat.le_of_ble_eq_true rfl)) dX0_become_138 ⟨Nat.zero_le _, Nat.zero_le _⟩) hS (fun H locs hP hS => ?_)
            refine va_put (ci := 0) (v := .int u89) (ty := .int) (C := RX0) (T := TX0) (N := 8) hx hb hts (by decide +kernel) tyX0 tyX0_ok nmX0 hown hK hP (ww_D hj) hS 40 cc_ext rfl 7 (by decide) (hts (.fieldLink RX0 33 "NumberFieldFactors$Extension" "mateOfTSquared" "I") (by decide +kernel)) (fun _ h9 => h9) rfl (by decide +kernel) rfl rfl (Nat.le_of_ble_eq_true rfl) dX0_become_141 (fun H locs hP hD hS => ?_)
            have hP := cs_E7 hP
            refine lv_iconst (v := 1) hx hb dX0_become_144 (by decide) ?_
            obtain rfl := Option.some.inj hf
            exact W.zret (v := 1) (ty := .boolean) hx hb hr (by decide) (fun t ht hW => ⟨rfl, by rw [ht]; exact hP, hS.F ht⟩) hS.2.2 dX0_become_145
          · rw [if_pos c86] at hf
            refine lv_bipush (v := 101) hx hb dX0_become_99 (by decide) ?_
            refine lv_iload_n hx hb dX0_become_101 rfl (lv_at hl 4 rfl) ?_
            refine lv_isub hx hb dX0_become_102 ?_
            refine lv_bipush (v := 101) hx hb dX0_become_103 (by decide) ?_
            refine jv_irem hx hb dX0_become_105 (by decide) ?_
            refine lv_goto (tgt := 111) hx hb dX0_become_106 (by decide) ?_
            refine va_put (ci := 0) (v := .int (jrem (101 - p1) 101)) (ty := .int) (C := RX0) (T := TX0) (N := 8) hx hb hts (by decide +kernel) tyX0 tyX0_ok nmX0 hown hK hP (ww_D hj) hS 40 cc_ext rfl 5 (by decide) (hts (.fieldLink RX0 27 "NumberFieldFactors$Extension" "t" "I") (by decide +kernel)) (fun _ h9 => h9) rfl (by decide +kernel) rfl rfl (Nat.le_of_ble_eq_true rfl) dX0_become_111 (fun H locs hP hD hS => ?_)
            have hP := cs_E5 hP
            refine lv_aload_n hx hb dX0_become_114 rfl (lv_at hl 2 rfl) ?_
            refine lv_aload_n hx hb dX0_become_115 rfl (lv_at hl 2 rfl) ?_
            refine lv_aload_n hx hb dX0_become_116 rfl (lv_at hl 2 rfl) ?_
            refine va_get (ci := 0) (v := .int ((va_up (va_up (va_up (va_up (va_up (va_up E 0 p0) 1 101) 2 p1) 3 0) 4 p3) 5 (jrem (101 - p1) 101)) 5)) (C := RX0) (T := TX0) (N := 8) hx hb hts (by decide +kernel) hown hK hP 40 cc_ext rfl 5 (by decide) (hts (.fieldLink RX0 27 "NumberFieldFactors$Extension" "t" "I") (by decide +kernel)) (fun _ h9 => h9) rfl dX0_become_117 ?_
            refine lv_bipush (v := 101) hx hb dX0_become_120 (by decide) ?_
            obtain ⟨u91, g92, hf⟩ := Option.bind_eq_some_iff.mp hf
            try dsimp only at hf
            refine ct_call (va_runV (As := [.int ((va_up (va_up (va_up (va_up (va_up (va_up E 0 p0) 1 101) 2 p1) 3 0) 4 p3) 5 (jrem (101 - p1) 101)) 5), .int 101]) (rest := [.ref (ad 40)]) ⟨hx, hb, hml, hown, hts⟩ (C_X0_power l D tys nw hn hnw hj htI htR (res := u91) g92) (cwV 2 hts gX0_become_X0_power rfl rfl rfl (by decide +kernel) ⟨Nat.le_of_ble_eq_true rfl, Nat.le_of_ble_eq_true rfl⟩) (ct_preV hn hP hK hN (ci := 0) (k := 40) rfl (by decide) rfl) rfl rfl hl.1 rfl (lv_room (Nat.le_of_ble_eq_true rfl)) dX0_become_122 ⟨Nat.zero_le _, Nat.zero_le _⟩) hS (fun H locs hP hS => ?_)
            refine va_put (ci := 0) (v := .int u91) (ty := .int) (C := RX0) (T := TX0) (N := 8) hx hb hts (by decide +kernel) tyX0 tyX0_ok nmX0 hown hK hP (ww_D hj) hS 40 cc_ext rfl 6 (by decide) (hts (.fieldLink RX0 30 "NumberFieldFactors$Extension" "mateOfT" "I") (by decide +kernel)) (fun _ h9 => h9) rfl (by decide +kernel) rfl rfl (Nat.le_of_ble_eq_true rfl) dX0_become_125 (fun H locs hP hD hS => ?_)
            have hP := cs_E6 hP
            refine lv_aload_n hx hb dX0_become_128 rfl (lv_at hl 2 rfl) ?_
            refine lv_aload_n hx hb dX0_become_129 rfl (lv_at hl 2 rfl) ?_
            refine lv_aload_n hx hb dX0_become_130 rfl (lv_at hl 2 rfl) ?_
            refine va_get (ci := 0) (v := .int ((va_up (va_up (va_up (va_up (va_up (va_up (va_up E 0 p0) 1 101) 2 p1) 3 0) 4 p3) 5 (jrem (101 - p1) 101)) 6 u91) 6)) (C := RX0) (T := TX0) (N := 8) hx hb hts (by decide +kernel) hown hK hP 40 cc_ext rfl 6 (by decide) (hts (.fieldLink RX0 30 "NumberFieldFactors$Extension" "mateOfT" "I") (by decide +kernel)) (fun _ h9 => h9) rfl dX0_become_131 ?_
            refine lv_aload_n hx hb dX0_become_134 rfl (lv_at hl 2 rfl) ?_
            refine va_get (ci := 0) (v := .int ((va_up (va_up (va_up (va_up (va_up (va_up (va_up E 0 p0) 1 101) 2 p1) 3 0) 4 p3) 5 (jrem (101 - p1) 101)) 6 u91) 6)) (C := RX0) (T := TX0) (N := 8) hx hb hts (by decide +kernel) hown hK hP 40 cc_ext rfl 6 (by decide) (hts (.fieldLink RX0 30 "NumberFieldFactors$Extension" "mateOfT" "I") (by decide +kernel)) (fun _ h9 => h9) rfl dX0_become_135 ?_
            obtain ⟨u93, g94, hf⟩ := Option.bind_eq_some_iff.mp hf
            try dsimp only at hf
            refine ct_call (va_runV (As := [.int ((va_up (va_up (va_up (va_up (va_up (va_up (va_up E 0 p0) 1 101) 2 p1) 3 0) 4 p3) 5 (jrem (101 - p1) 101)) 6 u91) 6), .int ((va_up (va_up (va_up (va_up (va_up (va_up (va_up E 0 p0) 1 101) 2 p1) 3 0) 4 p3) 5 (jrem (101 - p1) 101)) 6 u91) 6)]) (rest := [.ref (ad 40)]) ⟨hx, hb, hml, hown, hts⟩ (C_X0_times l D tys nw hn hnw hj htI htR (res := u93) g94) (cwV 2 hts gX0_become_X0_times rfl rfl rfl (by decide +kernel) ⟨Nat.le_of_ble_eq_true rfl, Nat.le_of_ble_eq_true rfl⟩) (ct_preV hn hP hK hN (ci := 0) (k := 40) rfl (by decide) rfl) rfl rfl hl.1 rfl (lv_room (Nat.le_of_ble_eq_true rfl)) dX0_become_138 ⟨Nat.zero_le _, Nat.zero_le _⟩) hS (fun H locs hP hS => ?_)
            refine va_put (ci := 0) (v := .int u93) (ty := .int) (C := RX0) (T := TX0) (N := 8) hx hb hts (by decide +kernel) tyX0 tyX0_ok nmX0 hown hK hP (ww_D hj) hS 40 cc_ext rfl 7 (by decide) (hts (.fieldLink RX0 33 "NumberFieldFactors$Extension" "mateOfTSquared" "I") (by decide +kernel)) (fun _ h9 => h9) rfl (by decide +kernel) rfl rfl (Nat.le_of_ble_eq_true rfl) dX0_become_141 (fun H locs hP hD hS => ?_)
            have hP := cs_E7 hP
            refine lv_iconst (v := 1) hx hb dX0_become_144 (by decide) ?_
            obtain rfl := Option.some.inj hf
            exact W.zret (v := 1) (ty := .boolean) hx hb hr (by decide) (fun t ht hW => ⟨rfl, by rw [ht]; exact hP, hS.F ht⟩) hS.2.2 dX0_become_145
      · rw [if_neg c65] at hf
        refine lv_iload_n hx hb dX0_become_30 rfl (lv_at hl 3 rfl) ?_
        refine lv_iload_n hx hb dX0_become_31 rfl (lv_at hl 4 rfl) ?_
        refine lv_iload hx hb dX0_become_32 (lv_at hl 1 rfl) ?_
        refine lv_iload hx hb dX0_become_34 (lv_at hl 0 rfl) ?_
        obtain ⟨u95, g96, hf⟩ := Option.bind_eq_some_iff.mp hf
        try dsimp only at hf
        refine ct_call (va_runS (As := [.int p0, .int p1, .int 0, .int p3]) (rest := []) ⟨hx, hb, hml, hown, hts⟩ (C_X0_hasRoot l D tys nw hn hnw hj htI htR (res := u95) g96) (cwS 4 hts gX0_become_X0_hasRoot rfl rfl rfl (by decide +kernel) ⟨Nat.le_of_ble_eq_true rfl, Nat.le_of_ble_eq_true rfl⟩) (ct_preS hn hP hK hN) rfl rfl hl.1 rfl (lv_room (Nat.le_of_ble_eq_true rfl)) dX0_become_36 ⟨Nat.zero_le _, Nat.zero_le _⟩) hS (fun H locs hP hS => ?_)
        refine lv_if_eq (tgt := 44) hx hb dX0_become_39 (by decide) (fun c97 => ?_) (fun c97 => ?_)
        · rw [if_pos c97] at hf
          refine lv_aload_n hx hb dX0_become_44 rfl (lv_at hl 2 rfl) ?_
          refine lv_iload_n hx hb dX0_become_45 rfl (lv_at hl 3 rfl) ?_
          refine va_put (ci := 0) (v := .int p0) (ty := .int) (C := RX0) (T := TX0) (N := 8) hx hb hts (by decide +kernel) tyX0 tyX0_ok nmX0 hown hK hP (ww_D hj) hS 40 cc_ext rfl 0 (by decide) (hts (.fieldLink RX0 9 "NumberFieldFactors$Extension" "degree" "I") (by decide +kernel)) (fun _ h9 => h9) rfl (by decide +kernel) rfl rfl (Nat.le_of_ble_eq_true rfl) dX0_become_46 (fun H locs hP hD hS => ?_)
          have hP := cs_E0 hP
          refine lv_aload_n hx hb dX0_become_49 rfl (lv_at hl 2 rfl) ?_
          refine lv_iload_n hx hb dX0_become_50 rfl (lv_at hl 3 rfl) ?_
          refine lv_iconst (v := 1) hx hb dX0_become_51 (by decide) ?_
          refine lv_icmp_ne (tgt := 60) hx hb dX0_become_52 (by decide) (fun c98 => ?_) (fun c98 => ?_)
          · rw [if_neg c98] at hf
            refine lv_iload_n hx hb dX0_become_60 rfl (lv_at hl 3 rfl) ?_
            refine lv_iconst (v := 2) hx hb dX0_become_61 (by decide) ?_
            refine lv_icmp_ne (tgt := 71) hx hb dX0_become_62 (by decide) (fun c99 => ?_) (fun c99 => ?_)
            · rw [if_neg c99] at hf
              refine lv_ldc (v := 1030301) hx hb hown (hts (.constant RX0 40 (1030301)) (by decide +kernel)) dX0_become_71 ?_
              refine va_put (ci := 0) (v := .int 1030301) (ty := .int) (C := RX0) (T := TX0) (N := 8) hx hb hts (by decide +kernel) tyX0 tyX0_ok nmX0 hown hK hP (ww_D hj) hS 40 cc_ext rfl 1 (by decide) (hts (.fieldLink RX0 15 "NumberFieldFactors$Extension" "size" "I") (by decide +kernel)) (fun _ h9 => h9) rfl (by decide +kernel) rfl rfl (Nat.le_of_ble_eq_true rfl) dX0_become_73 (fun H locs hP hD hS => ?_)
              have hP := cs_E1 hP
              refine lv_aload_n hx hb dX0_become_76 rfl (lv_at hl 2 rfl) ?_
              refine lv_iload_n hx hb dX0_become_77 rfl (lv_at hl 4 rfl) ?_
              refine va_put (ci := 0) (v := .int p1) (ty := .int) (C := RX0) (T := TX0) (N := 8) hx hb hts (by decide +kernel) tyX0 tyX0_ok nmX0 hown hK hP (ww_D hj) hS 40 cc_ext rfl 2 (by decide) (hts (.fieldLink RX0 18 "NumberFieldFactors$Extension" "low0" "I") (by decide +kernel)) (fun _ h9 => h9) rfl (by decide +kernel) rfl rfl (Nat.le_of_ble_eq_true rfl) dX0_become_78 (fun H locs hP hD hS => ?_)
              have hP := cs_E2 hP
              refine lv_aload_n hx hb dX0_become_81 rfl (lv_at hl 2 rfl) ?_
              refine lv_iload hx hb dX0_become_82 (lv_at hl 1 rfl) ?_
              refine va_put (ci := 0) (v := .int 0) (ty := .int) (C := RX0) (T := TX0) (N := 8) hx hb hts (by decide +kernel) tyX0 tyX0_ok nmX0 hown hK hP (ww_D hj) hS 40 cc_ext rfl 3 (by decide) (hts (.fieldLink RX0 21 "NumberFieldFactors$Extension" "low1" "I") (by decide +kernel)) (fun _ h9 => h9) rfl (by decide +kernel) rfl rfl (Nat.le_of_ble_eq_true rfl) dX0_become_84 (fun H locs hP hD hS => ?_)
              have hP := cs_E3 hP
              refine lv_aload_n hx hb dX0_become_87 rfl (lv_at hl 2 rfl) ?_
              refine lv_iload hx hb dX0_become_88 (lv_at hl 0 rfl) ?_
              refine va_put (ci := 0) (v := .int p3) (ty := .int) (C := RX0) (T := TX0) (N := 8) hx hb hts (by decide +kernel) tyX0 tyX0_ok nmX0 hown hK hP (ww_D hj) hS 40 cc_ext rfl 4 (by decide) (hts (.fieldLink RX0 24 "NumberFieldFactors$Extension" "low2" "I") (by decide +kernel)) (fun _ h9 => h9) rfl (by decide +kernel) rfl rfl (Nat.le_of_ble_eq_true rfl) dX0_become_90 (fun H locs hP hD hS => ?_)
              have hP := cs_E4 hP
              refine lv_aload_n hx hb dX0_become_93 rfl (lv_at hl 2 rfl) ?_
              refine lv_iload_n hx hb dX0_become_94 rfl (lv_at hl 3 rfl) ?_
              refine lv_iconst (v := 1) hx hb dX0_become_95 (by decide) ?_
              refine lv_icmp_ne (tgt := 109) hx hb dX0_become_96 (by decide) (fun c100 => ?_) (fun c100 => ?_)
              · rw [if_neg c100] at hf
                refine lv_bipush (v := 101) hx hb dX0_become_109 (by decide) ?_
                refine va_put (ci := 0) (v := .int 101) (ty := .int) (C := RX0) (T := TX0) (N := 8) hx hb hts (by decide +kernel) tyX0 tyX0_ok nmX0 hown hK hP (ww_D hj) hS 40 cc_ext rfl 5 (by decide) (hts (.fieldLink RX0 27 "NumberFieldFactors$Extension" "t" "I") (by decide +kernel)) (fun _ h9 => h9) rfl (by decide +kernel) rfl rfl (Nat.le_of_ble_eq_true rfl) dX0_become_111 (fun H locs hP hD hS => ?_)
                have hP := cs_E5 hP
                refine lv_aload_n hx hb dX0_become_114 rfl (lv_at hl 2 rfl) ?_
                refine lv_aload_n hx hb dX0_become_115 rfl (lv_at hl 2 rfl) ?_
                refine lv_aload_n hx hb dX0_become_116 rfl (lv_at hl 2 rfl) ?_
                refine va_get (ci := 0) (v := .int ((va_up (va_up (va_up (va_up (va_up (va_up E 0 p0) 1 1030301) 2 p1) 3 0) 4 p3) 5 101) 5)) (C := RX0) (T := TX0) (N := 8) hx hb hts (by decide +kernel) hown hK hP 40 cc_ext rfl 5 (by decide) (hts (.fieldLink RX0 27 "NumberFieldFactors$Extension" "t" "I") (by decide +kernel)) (fun _ h9 => h9) rfl dX0_become_117 ?_
                refine lv_bipush (v := 101) hx hb dX0_become_120 (by decide) ?_
                obtain ⟨u101, g102, hf⟩ := Option.bind_eq_some_iff.mp hf
                try dsimp only at hf
                refine ct_call (va_runV (As := [.int ((va_up (va_up (va_up (va_up (va_up (va_up E 0 p0) 1 1030301) 2 p1) 3 0) 4 p3) 5 101) 5), .int 101]) (rest := [.ref (ad 40)]) ⟨hx, hb, hml, hown, hts⟩ (C_X0_power l D tys nw hn hnw hj htI htR (res := u101) g102) (cwV 2 hts gX0_become_X0_power rfl rfl rfl (by decide +kernel) ⟨Nat.le_of_ble_eq_true rfl, Nat.le_of_ble_eq_true rfl⟩) (ct_preV hn hP hK hN (ci := 0) (k := 40) rfl (by decide) rfl) rfl rfl hl.1 rfl (lv_room (Nat.le_of_ble_eq_true rfl)) dX0_become_122 ⟨Nat.zero_le _, Nat.zero_le _⟩) hS (fun H locs hP hS => ?_)
                refine va_put (ci := 0) (v := .int u101) (ty := .int) (C := RX0) (T := TX0) (N := 8) hx hb hts (by decide +kernel) tyX0 tyX0_ok nmX0 hown hK hP (ww_D hj) hS 40 cc_ext rfl 6 (by decide) (hts (.fieldLink RX0 30 "NumberFieldFactors$Extension" "mateOfT" "I") (by decide +kernel)) (fun _ h9 => h9) rfl (by decide +kernel) rfl rfl (Nat.le_of_ble_eq_true rfl) dX0_become_125 (fun H locs hP hD hS => ?_)
                have hP := cs_E6 hP
                refine lv_aload_n hx hb dX0_become_128 rfl (lv_at hl 2 rfl) ?_
                refine lv_aload_n hx hb dX0_become_129 rfl (lv_at hl 2 rfl) ?_
                refine lv_aload_n hx hb dX0_become_130 rfl (lv_at hl 2 rfl) ?_
                refine va_get (ci := 0) (v := .int ((va_up (va_up (va_up (va_up (va_up (va_up (va_up E 0 p0) 1 1030301) 2 p1) 3 0) 4 p3) 5 101) 6 u101) 6)) (C := RX0) (T := TX0) (N := 8) hx hb hts (by decide +kernel) hown hK hP 40 cc_ext rfl 6 (by decide) (hts (.fieldLink RX0 30 "NumberFieldFactors$Extension" "mateOfT" "I") (by decide +kernel)) (fun _ h9 => h9) rfl dX0_become_131 ?_
                refine lv_aload_n hx hb dX0_become_134 rfl (lv_at hl 2 rfl) ?_
                refine va_get (ci := 0) (v := .int ((va_up (va_up (va_up (va_up (va_up (va_up (va_up E 0 p0) 1 1030301) 2 p1) 3 0) 4 p3) 5 101) 6 u101) 6)) (C := RX0) (T := TX0) (N := 8) hx hb hts (by decide +kernel) hown hK hP 40 cc_ext rfl 6 (by decide) (hts (.fieldLink RX0 30 "NumberFieldFactors$Extension" "mateOfT" "I") (by decide +kernel)) (fun _ h9 => h9) rfl dX0_become_135 ?_
                obtain ⟨u103, g104, hf⟩ := Option.bind_eq_some_iff.mp hf
                try dsimp only at hf
                refine ct_call (va_runV (As := [.int ((va_up (va_up (va_up (va_up (va_up (va_up (va_up E 0 p0) 1 1030301) 2 p1) 3 0) 4 p3) 5 101) 6 u101) 6), .int ((va_up (va_up (va_up (va_up (va_up (va_up (va_up E 0 p0) 1 1030301) 2 p1) 3 0) 4 p3) 5 101) 6 u101) 6)]) (rest := [.ref (ad 40)]) ⟨hx, hb, hml, hown, hts⟩ (C_X0_times l D tys nw hn hnw hj htI htR (res := u103) g104) (cwV 2 hts gX0_become_X0_times rfl rfl rfl (by decide +kernel) ⟨Nat.le_of_ble_eq_true rfl, Nat.le_of_ble_eq_true rfl⟩) (ct_preV hn hP hK hN (ci := 0) (k := 40) rfl (by decide) rfl) rfl rfl hl.1 rfl (lv_room (Nat.le_of_ble_eq_true rfl)) dX0_become_138 ⟨Nat.zero_le _, Nat.zero_le _⟩) hS (fun H locs hP hS => ?_)
                refine va_put (ci := 0) (v := .int u103) (ty := .int) (C := RX0) (T := TX0) (N := 8) hx hb hts (by decide +kernel) tyX0 tyX0_ok nmX0 hown hK hP (ww_D hj) hS 40 cc_ext rfl 7 (by decide) (hts (.fieldLink RX0 33 "NumberFieldFactors$Extension" "mateOfTSquared" "I") (by decide +kernel)) (fun _ h9 => h9) rfl (by decide +kernel) rfl rfl (Nat.le_of_ble_eq_true rfl) dX0_become_141 (fun H locs hP hD hS => ?_)
                have hP := cs_E7 hP
                refine lv_iconst (v := 1) hx hb dX0_become_144 (by decide) ?_
                obtain rfl := Option.some.inj hf
                exact W.zret (v := 1) (ty := .boolean) hx hb hr (by decide) (fun t ht hW => ⟨rfl, by rw [ht]; exact hP, hS.F ht⟩) hS.2.2 dX0_become_145
              · rw [if_pos c100] at hf
                refine lv_bipush (v := 101) hx hb dX0_become_99 (by decide) ?_
                refine lv_iload_n hx hb dX0_become_101 rfl (lv_at hl 4 rfl) ?_
                refine lv_isub hx hb dX0_become_102 ?_
                refine lv_bipush (v := 101) hx hb dX0_become_103 (by decide) ?_
                refine jv_irem hx hb dX0_become_105 (by decide) ?_
                refine lv_goto (tgt := 111) hx hb dX0_become_106 (by decide) ?_
                refine va_put (ci := 0) (v := .int (jrem (101 - p1) 101)) (ty := .int) (C := RX0) (T := TX0) (N := 8) hx hb hts (by decide +kernel) tyX0 tyX0_ok nmX0 hown hK hP (ww_D hj) hS 40 cc_ext rfl 5 (by decide) (hts (.fieldLink RX0 27 "NumberFieldFactors$Extension" "t" "I") (by decide +kernel)) (fun _ h9 => h9) rfl (by decide +kernel) rfl rfl (Nat.le_of_ble_eq_true rfl) dX0_become_111 (fun H locs hP hD hS => ?_)
                have hP := cs_E5 hP
                refine lv_aload_n hx hb dX0_become_114 rfl (lv_at hl 2 rfl) ?_
                refine lv_aload_n hx hb dX0_become_115 rfl (lv_at hl 2 rfl) ?_
                refine lv_aload_n hx hb dX0_become_116 rfl (lv_at hl 2 rfl) ?_
                refine va_get (ci := 0) (v := .int ((va_up (va_up (va_up (va_up (va_up (va_up E 0 p0) 1 1030301) 2 p1) 3 0) 4 p3) 5 (jrem (101 - p1) 101)) 5)) (C := RX0) (T := TX0) (N := 8) hx hb hts (by decide +kernel) hown hK hP 40 cc_ext rfl 5 (by decide) (hts (.fieldLink RX0 27 "NumberFieldFactors$Extension" "t" "I") (by decide +kernel)) (fun _ h9 => h9) rfl dX0_become_117 ?_
                refine lv_bipush (v := 101) hx hb dX0_become_120 (by decide) ?_
                obtain ⟨u105, g106, hf⟩ := Option.bind_eq_some_iff.mp hf
                try dsimp only at hf
                refine ct_call (va_runV (As := [.int ((va_up (va_up (va_up (va_up (va_up (va_up E 0 p0) 1 1030301) 2 p1) 3 0) 4 p3) 5 (jrem (101 - p1) 101)) 5), .int 101]) (rest := [.ref (ad 40)]) ⟨hx, hb, hml, hown, hts⟩ (C_X0_power l D tys nw hn hnw hj htI htR (res := u105) g106) (cwV 2 hts gX0_become_X0_power rfl rfl rfl (by decide +kernel) ⟨Nat.le_of_ble_eq_true rfl, Nat.le_of_ble_eq_true rfl⟩) (ct_preV hn hP hK hN (ci := 0) (k := 40) rfl (by decide) rfl) rfl rfl hl.1 rfl (lv_room (Nat.le_of_ble_eq_true rfl)) dX0_become_122 ⟨Nat.zero_le _, Nat.zero_le _⟩) hS (fun H locs hP hS => ?_)
                refine va_put (ci := 0) (v := .int u105) (ty := .int) (C := RX0) (T := TX0) (N := 8) hx hb hts (by decide +kernel) tyX0 tyX0_ok nmX0 hown hK hP (ww_D hj) hS 40 cc_ext rfl 6 (by decide) (hts (.fieldLink RX0 30 "NumberFieldFactors$Extension" "mateOfT" "I") (by decide +kernel)) (fun _ h9 => h9) rfl (by decide +kernel) rfl rfl (Nat.le_of_ble_eq_true rfl) dX0_become_125 (fun H locs hP hD hS => ?_)
                have hP := cs_E6 hP
                refine lv_aload_n hx hb dX0_become_128 rfl (lv_at hl 2 rfl) ?_
                refine lv_aload_n hx hb dX0_become_129 rfl (lv_at hl 2 rfl) ?_
                refine lv_aload_n hx hb dX0_become_130 rfl (lv_at hl 2 rfl) ?_
                refine va_get (ci := 0) (v := .int ((va_up (va_up (va_up (va_up (va_up (va_up (va_up E 0 p0) 1 1030301) 2 p1) 3 0) 4 p3) 5 (jrem (101 - p1) 101)) 6 u105) 6)) (C := RX0) (T := TX0) (N := 8) hx hb hts (by decide +kernel) hown hK hP 40 cc_ext rfl 6 (by decide) (hts (.fieldLink RX0 30 "NumberFieldFactors$Extension" "mateOfT" "I") (by decide +kernel)) (fun _ h9 => h9) rfl dX0_become_131 ?_
                refine lv_aload_n hx hb dX0_become_134 rfl (lv_at hl 2 rfl) ?_
                refine va_get (ci := 0) (v := .int ((va_up (va_up (va_up (va_up (va_up (va_up (va_up E 0 p0) 1 1030301) 2 p1) 3 0) 4 p3) 5 (jrem (101 - p1) 101)) 6 u105) 6)) (C := RX0) (T := TX0) (N := 8) hx hb hts (by decide +kernel) hown hK hP 40 cc_ext rfl 6 (by decide) (hts (.fieldLink RX0 30 "NumberFieldFactors$Extension" "mateOfT" "I") (by decide +kernel)) (fun _ h9 => h9) rfl dX0_become_135 ?_
                obtain ⟨u107, g108, hf⟩ := Option.bind_eq_some_iff.mp hf
                try dsimp only at hf
                refine ct_call (va_runV (As := [.int ((va_up (va_up (va_up (va_up (va_up (va_up (va_up E 0 p0) 1 1030301) 2 p1) 3 0) 4 p3) 5 (jrem (101 - p1) 101)) 6 u105) 6), .int ((va_up (va_up (va_up (va_up (va_up (va_up (va_up E 0 p0) 1 1030301) 2 p1) 3 0) 4 p3) 5 (jrem (101 - p1) 101)) 6 u105) 6)]) (rest := [.ref (ad 40)]) ⟨hx, hb, hml, hown, hts⟩ (C_X0_times l D tys nw hn hnw hj htI htR (res := u107) g108) (cwV 2 hts gX0_become_X0_times rfl rfl rfl (by decide +kernel) ⟨Nat.le_of_ble_eq_true rfl, Nat.le_of_ble_eq_true rfl⟩) (ct_preV hn hP hK hN (ci := 0) (k := 40) rfl (by decide) rfl) rfl rfl hl.1 rfl (lv_room (Nat.le_of_ble_eq_true rfl)) dX0_become_138 ⟨Nat.zero_le _, Nat.zero_le _⟩) hS (fun H locs hP hS => ?_)
                refine va_put (ci := 0) (v := .int u107) (ty := .int) (C := RX0) (T := TX0) (N := 8) hx hb hts (by decide +kernel) tyX0 tyX0_ok nmX0 hown hK hP (ww_D hj) hS 40 cc_ext rfl 7 (by decide) (hts (.fieldLink RX0 33 "NumberFieldFactors$Extension" "mateOfTSquared" "I") (by decide +kernel)) (fun _ h9 => h9) rfl (by decide +kernel) rfl rfl (Nat.le_of_ble_eq_true rfl) dX0_become_141 (fun H locs hP hD hS => ?_)
                have hP := cs_E7 hP
                refine lv_iconst (v := 1) hx hb dX0_become_144 (by decide) ?_
                obtain rfl := Option.some.inj hf
                exact W.zret (v := 1) (ty := .boolean) hx hb hr (by decide) (fun t ht hW => ⟨rfl, by rw [ht]; exact hP, hS.F ht⟩) hS.2.2 dX0_become_145
            · rw [if_pos c99] at hf
              refine lv_sipush (v := 10201) hx hb dX0_become_65 (by decide) ?_
              refine lv_goto (tgt := 73) hx hb dX0_become_68 (by decide) ?_
              refine va_put (ci := 0) (v := .int 10201) (ty := .int) (C := RX0) (T := TX0) (N := 8) hx hb hts (by decide +kernel) tyX0 tyX0_ok nmX0 hown hK hP (ww_D hj) hS 40 cc_ext rfl 1 (by decide) (hts (.fieldLink RX0 15 "NumberFieldFactors$Extension" "size" "I") (by decide +kernel)) (fun _ h9 => h9) rfl (by decide +kernel) rfl rfl (Nat.le_of_ble_eq_true rfl) dX0_become_73 (fun H locs hP hD hS => ?_)
              have hP := cs_E1 hP
              refine lv_aload_n hx hb dX0_become_76 rfl (lv_at hl 2 rfl) ?_
              refine lv_iload_n hx hb dX0_become_77 rfl (lv_at hl 4 rfl) ?_
              refine va_put (ci := 0) (v := .int p1) (ty := .int) (C := RX0) (T := TX0) (N := 8) hx hb hts (by decide +kernel) tyX0 tyX0_ok nmX0 hown hK hP (ww_D hj) hS 40 cc_ext rfl 2 (by decide) (hts (.fieldLink RX0 18 "NumberFieldFactors$Extension" "low0" "I") (by decide +kernel)) (fun _ h9 => h9) rfl (by decide +kernel) rfl rfl (Nat.le_of_ble_eq_true rfl) dX0_become_78 (fun H locs hP hD hS => ?_)
              have hP := cs_E2 hP
              refine lv_aload_n hx hb dX0_become_81 rfl (lv_at hl 2 rfl) ?_
              refine lv_iload hx hb dX0_become_82 (lv_at hl 1 rfl) ?_
              refine va_put (ci := 0) (v := .int 0) (ty := .int) (C := RX0) (T := TX0) (N := 8) hx hb hts (by decide +kernel) tyX0 tyX0_ok nmX0 hown hK hP (ww_D hj) hS 40 cc_ext rfl 3 (by decide) (hts (.fieldLink RX0 21 "NumberFieldFactors$Extension" "low1" "I") (by decide +kernel)) (fun _ h9 => h9) rfl (by decide +kernel) rfl rfl (Nat.le_of_ble_eq_true rfl) dX0_become_84 (fun H locs hP hD hS => ?_)
              have hP := cs_E3 hP
              refine lv_aload_n hx hb dX0_become_87 rfl (lv_at hl 2 rfl) ?_
              refine lv_iload hx hb dX0_become_88 (lv_at hl 0 rfl) ?_
              refine va_put (ci := 0) (v := .int p3) (ty := .int) (C := RX0) (T := TX0) (N := 8) hx hb hts (by decide +kernel) tyX0 tyX0_ok nmX0 hown hK hP (ww_D hj) hS 40 cc_ext rfl 4 (by decide) (hts (.fieldLink RX0 24 "NumberFieldFactors$Extension" "low2" "I") (by decide +kernel)) (fun _ h9 => h9) rfl (by decide +kernel) rfl rfl (Nat.le_of_ble_eq_true rfl) dX0_become_90 (fun H locs hP hD hS => ?_)
              have hP := cs_E4 hP
              refine lv_aload_n hx hb dX0_become_93 rfl (lv_at hl 2 rfl) ?_
              refine lv_iload_n hx hb dX0_become_94 rfl (lv_at hl 3 rfl) ?_
              refine lv_iconst (v := 1) hx hb dX0_become_95 (by decide) ?_
              refine lv_icmp_ne (tgt := 109) hx hb dX0_become_96 (by decide) (fun c109 => ?_) (fun c109 => ?_)
              · rw [if_neg c109] at hf
                refine lv_bipush (v := 101) hx hb dX0_become_109 (by decide) ?_
                refine va_put (ci := 0) (v := .int 101) (ty := .int) (C := RX0) (T := TX0) (N := 8) hx hb hts (by decide +kernel) tyX0 tyX0_ok nmX0 hown hK hP (ww_D hj) hS 40 cc_ext rfl 5 (by decide) (hts (.fieldLink RX0 27 "NumberFieldFactors$Extension" "t" "I") (by decide +kernel)) (fun _ h9 => h9) rfl (by decide +kernel) rfl rfl (Nat.le_of_ble_eq_true rfl) dX0_become_111 (fun H locs hP hD hS => ?_)
                have hP := cs_E5 hP
                refine lv_aload_n hx hb dX0_become_114 rfl (lv_at hl 2 rfl) ?_
                refine lv_aload_n hx hb dX0_become_115 rfl (lv_at hl 2 rfl) ?_
                refine lv_aload_n hx hb dX0_become_116 rfl (lv_at hl 2 rfl) ?_
                refine va_get (ci := 0) (v := .int ((va_up (va_up (va_up (va_up (va_up (va_up E 0 p0) 1 10201) 2 p1) 3 0) 4 p3) 5 101) 5)) (C := RX0) (T := TX0) (N := 8) hx hb hts (by decide +kernel) hown hK hP 40 cc_ext rfl 5 (by decide) (hts (.fieldLink RX0 27 "NumberFieldFactors$Extension" "t" "I") (by decide +kernel)) (fun _ h9 => h9) rfl dX0_become_117 ?_
                refine lv_bipush (v := 101) hx hb dX0_become_120 (by decide) ?_
                obtain ⟨u110, g111, hf⟩ := Option.bind_eq_some_iff.mp hf
                try dsimp only at hf
                refine ct_call (va_runV (As := [.int ((va_up (va_up (va_up (va_up (va_up (va_up E 0 p0) 1 10201) 2 p1) 3 0) 4 p3) 5 101) 5), .int 101]) (rest := [.ref (ad 40)]) ⟨hx, hb, hml, hown, hts⟩ (C_X0_power l D tys nw hn hnw hj htI htR (res := u110) g111) (cwV 2 hts gX0_become_X0_power rfl rfl rfl (by decide +kernel) ⟨Nat.le_of_ble_eq_true rfl, Nat.le_of_ble_eq_true rfl⟩) (ct_preV hn hP hK hN (ci := 0) (k := 40) rfl (by decide) rfl) rfl rfl hl.1 rfl (lv_room (Nat.le_of_ble_eq_true rfl)) dX0_become_122 ⟨Nat.zero_le _, Nat.zero_le _⟩) hS (fun H locs hP hS => ?_)
                refine va_put (ci := 0) (v := .int u110) (ty := .int) (C := RX0) (T := TX0) (N := 8) hx hb hts (by decide +kernel) tyX0 tyX0_ok nmX0 hown hK hP (ww_D hj) hS 40 cc_ext rfl 6 (by decide) (hts (.fieldLink RX0 30 "NumberFieldFactors$Extension" "mateOfT" "I") (by decide +kernel)) (fun _ h9 => h9) rfl (by decide +kernel) rfl rfl (Nat.le_of_ble_eq_true rfl) dX0_become_125 (fun H locs hP hD hS => ?_)
                have hP := cs_E6 hP
                refine lv_aload_n hx hb dX0_become_128 rfl (lv_at hl 2 rfl) ?_
                refine lv_aload_n hx hb dX0_become_129 rfl (lv_at hl 2 rfl) ?_
                refine lv_aload_n hx hb dX0_become_130 rfl (lv_at hl 2 rfl) ?_
                refine va_get (ci := 0) (v := .int ((va_up (va_up (va_up (va_up (va_up (va_up (va_up E 0 p0) 1 10201) 2 p1) 3 0) 4 p3) 5 101) 6 u110) 6)) (C := RX0) (T := TX0) (N := 8) hx hb hts (by decide +kernel) hown hK hP 40 cc_ext rfl 6 (by decide) (hts (.fieldLink RX0 30 "NumberFieldFactors$Extension" "mateOfT" "I") (by decide +kernel)) (fun _ h9 => h9) rfl dX0_become_131 ?_
                refine lv_aload_n hx hb dX0_become_134 rfl (lv_at hl 2 rfl) ?_
                refine va_get (ci := 0) (v := .int ((va_up (va_up (va_up (va_up (va_up (va_up (va_up E 0 p0) 1 10201) 2 p1) 3 0) 4 p3) 5 101) 6 u110) 6)) (C := RX0) (T := TX0) (N := 8) hx hb hts (by decide +kernel) hown hK hP 40 cc_ext rfl 6 (by decide) (hts (.fieldLink RX0 30 "NumberFieldFactors$Extension" "mateOfT" "I") (by decide +kernel)) (fun _ h9 => h9) rfl dX0_become_135 ?_
                obtain ⟨u112, g113, hf⟩ := Option.bind_eq_some_iff.mp hf
                try dsimp only at hf
                refine ct_call (va_runV (As := [.int ((va_up (va_up (va_up (va_up (va_up (va_up (va_up E 0 p0) 1 10201) 2 p1) 3 0) 4 p3) 5 101) 6 u110) 6), .int ((va_up (va_up (va_up (va_up (va_up (va_up (va_up E 0 p0) 1 10201) 2 p1) 3 0) 4 p3) 5 101) 6 u110) 6)]) (rest := [.ref (ad 40)]) ⟨hx, hb, hml, hown, hts⟩ (C_X0_times l D tys nw hn hnw hj htI htR (res := u112) g113) (cwV 2 hts gX0_become_X0_times rfl rfl rfl (by decide +kernel) ⟨Nat.le_of_ble_eq_true rfl, Nat.le_of_ble_eq_true rfl⟩) (ct_preV hn hP hK hN (ci := 0) (k := 40) rfl (by decide) rfl) rfl rfl hl.1 rfl (lv_room (Nat.le_of_ble_eq_true rfl)) dX0_become_138 ⟨Nat.zero_le _, Nat.zero_le _⟩) hS (fun H locs hP hS => ?_)
                refine va_put (ci := 0) (v := .int u112) (ty := .int) (C := RX0) (T := TX0) (N := 8) hx hb hts (by decide +kernel) tyX0 tyX0_ok nmX0 hown hK hP (ww_D hj) hS 40 cc_ext rfl 7 (by decide) (hts (.fieldLink RX0 33 "NumberFieldFactors$Extension" "mateOfTSquared" "I") (by decide +kernel)) (fun _ h9 => h9) rfl (by decide +kernel) rfl rfl (Nat.le_of_ble_eq_true rfl) dX0_become_141 (fun H locs hP hD hS => ?_)
                have hP := cs_E7 hP
                refine lv_iconst (v := 1) hx hb dX0_become_144 (by decide) ?_
                obtain rfl := Option.some.inj hf
                exact W.zret (v := 1) (ty := .boolean) hx hb hr (by decide) (fun t ht hW => ⟨rfl, by rw [ht]; exact hP, hS.F ht⟩) hS.2.2 dX0_become_145
              · rw [if_pos c109] at hf
                refine lv_bipush (v := 101) hx hb dX0_become_99 (by decide) ?_
                refine lv_iload_n hx hb dX0_become_101 rfl (lv_at hl 4 rfl) ?_
                refine lv_isub hx hb dX0_become_102 ?_
                refine lv_bipush (v := 101) hx hb dX0_become_103 (by decide) ?_
                refine jv_irem hx hb dX0_become_105 (by decide) ?_
                refine lv_goto (tgt := 111) hx hb dX0_become_106 (by decide) ?_
                refine va_put (ci := 0) (v := .int (jrem (101 - p1) 101)) (ty := .int) (C := RX0) (T := TX0) (N := 8) hx hb hts (by decide +kernel) tyX0 tyX0_ok nmX0 hown hK hP (ww_D hj) hS 40 cc_ext rfl 5 (by decide) (hts (.fieldLink RX0 27 "NumberFieldFactors$Extension" "t" "I") (by decide +kernel)) (fun _ h9 => h9) rfl (by decide +kernel) rfl rfl (Nat.le_of_ble_eq_true rfl) dX0_become_111 (fun H locs hP hD hS => ?_)
                have hP := cs_E5 hP
                refine lv_aload_n hx hb dX0_become_114 rfl (lv_at hl 2 rfl) ?_
                refine lv_aload_n hx hb dX0_become_115 rfl (lv_at hl 2 rfl) ?_
                refine lv_aload_n hx hb dX0_become_116 rfl (lv_at hl 2 rfl) ?_
                refine va_get (ci := 0) (v := .int ((va_up (va_up (va_up (va_up (va_up (va_up E 0 p0) 1 10201) 2 p1) 3 0) 4 p3) 5 (jrem (101 - p1) 101)) 5)) (C := RX0) (T := TX0) (N := 8) hx hb hts (by decide +kernel) hown hK hP 40 cc_ext rfl 5 (by decide) (hts (.fieldLink RX0 27 "NumberFieldFactors$Extension" "t" "I") (by decide +kernel)) (fun _ h9 => h9) rfl dX0_become_117 ?_
                refine lv_bipush (v := 101) hx hb dX0_become_120 (by decide) ?_
                obtain ⟨u114, g115, hf⟩ := Option.bind_eq_some_iff.mp hf
                try dsimp only at hf
                refine ct_call (va_runV (As := [.int ((va_up (va_up (va_up (va_up (va_up (va_up E 0 p0) 1 10201) 2 p1) 3 0) 4 p3) 5 (jrem (101 - p1) 101)) 5), .int 101]) (rest := [.ref (ad 40)]) ⟨hx, hb, hml, hown, hts⟩ (C_X0_power l D tys nw hn hnw hj htI htR (res := u114) g115) (cwV 2 hts gX0_become_X0_power rfl rfl rfl (by decide +kernel) ⟨Nat.le_of_ble_eq_true rfl, Nat.le_of_ble_eq_true rfl⟩) (ct_preV hn hP hK hN (ci := 0) (k := 40) rfl (by decide) rfl) rfl rfl hl.1 rfl (lv_room (Nat.le_of_ble_eq_true rfl)) dX0_become_122 ⟨Nat.zero_le _, Nat.zero_le _⟩) hS (fun H locs hP hS => ?_)
                refine va_put (ci := 0) (v := .int u114) (ty := .int) (C := RX0) (T := TX0) (N := 8) hx hb hts (by decide +kernel) tyX0 tyX0_ok nmX0 hown hK hP (ww_D hj) hS 40 cc_ext rfl 6 (by decide) (hts (.fieldLink RX0 30 "NumberFieldFactors$Extension" "mateOfT" "I") (by decide +kernel)) (fun _ h9 => h9) rfl (by decide +kernel) rfl rfl (Nat.le_of_ble_eq_true rfl) dX0_become_125 (fun H locs hP hD hS => ?_)
                have hP := cs_E6 hP
                refine lv_aload_n hx hb dX0_become_128 rfl (lv_at hl 2 rfl) ?_
                refine lv_aload_n hx hb dX0_become_129 rfl (lv_at hl 2 rfl) ?_
                refine lv_aload_n hx hb dX0_become_130 rfl (lv_at hl 2 rfl) ?_
                refine va_get (ci := 0) (v := .int ((va_up (va_up (va_up (va_up (va_up (va_up (va_up E 0 p0) 1 10201) 2 p1) 3 0) 4 p3) 5 (jrem (101 - p1) 101)) 6 u114) 6)) (C := RX0) (T := TX0) (N := 8) hx hb hts (by decide +kernel) hown hK hP 40 cc_ext rfl 6 (by decide) (hts (.fieldLink RX0 30 "NumberFieldFactors$Extension" "mateOfT" "I") (by decide +kernel)) (fun _ h9 => h9) rfl dX0_become_131 ?_
                refine lv_aload_n hx hb dX0_become_134 rfl (lv_at hl 2 rfl) ?_
                refine va_get (ci := 0) (v := .int ((va_up (va_up (va_up (va_up (va_up (va_up (va_up E 0 p0) 1 10201) 2 p1) 3 0) 4 p3) 5 (jrem (101 - p1) 101)) 6 u114) 6)) (C := RX0) (T := TX0) (N := 8) hx hb hts (by decide +kernel) hown hK hP 40 cc_ext rfl 6 (by decide) (hts (.fieldLink RX0 30 "NumberFieldFactors$Extension" "mateOfT" "I") (by decide +kernel)) (fun _ h9 => h9) rfl dX0_become_135 ?_
                obtain ⟨u116, g117, hf⟩ := Option.bind_eq_some_iff.mp hf
                try dsimp only at hf
                refine ct_call (va_runV (As := [.int ((va_up (va_up (va_up (va_up (va_up (va_up (va_up E 0 p0) 1 10201) 2 p1) 3 0) 4 p3) 5 (jrem (101 - p1) 101)) 6 u114) 6), .int ((va_up (va_up (va_up (va_up (va_up (va_up (va_up E 0 p0) 1 10201) 2 p1) 3 0) 4 p3) 5 (jrem (101 - p1) 101)) 6 u114) 6)]) (rest := [.ref (ad 40)]) ⟨hx, hb, hml, hown, hts⟩ (C_X0_times l D tys nw hn hnw hj htI htR (res := u116) g117) (cwV 2 hts gX0_become_X0_times rfl rfl rfl (by decide +kernel) ⟨Nat.le_of_ble_eq_true rfl, Nat.le_of_ble_eq_true rfl⟩) (ct_preV hn hP hK hN (ci := 0) (k := 40) rfl (by decide) rfl) rfl rfl hl.1 rfl (lv_room (Nat.le_of_ble_eq_true rfl)) dX0_become_138 ⟨Nat.zero_le _, Nat.zero_le _⟩) hS (fun H locs hP hS => ?_)
                refine va_put (ci := 0) (v := .int u116) (ty := .int) (C := RX0) (T := TX0) (N := 8) hx hb hts (by decide +kernel) tyX0 tyX0_ok nmX0 hown hK hP (ww_D hj) hS 40 cc_ext rfl 7 (by decide) (hts (.fieldLink RX0 33 "NumberFieldFactors$Extension" "mateOfTSquared" "I") (by decide +kernel)) (fun _ h9 => h9) rfl (by decide +kernel) rfl rfl (Nat.le_of_ble_eq_true rfl) dX0_become_141 (fun H locs hP hD hS => ?_)
                have hP := cs_E7 hP
                refine lv_iconst (v := 1) hx hb dX0_become_144 (by decide) ?_
                obtain rfl := Option.some.inj hf
                exact W.zret (v := 1) (ty := .boolean) hx hb hr (by decide) (fun t ht hW => ⟨rfl, by rw [ht]; exact hP, hS.F ht⟩) hS.2.2 dX0_become_145
          · rw [if_pos c98] at hf
            refine lv_bipush (v := 101) hx hb dX0_become_55 (by decide) ?_
            refine lv_goto (tgt := 73) hx hb dX0_become_57 (by decide) ?_
            refine va_put (ci := 0) (v := .int 101) (ty := .int) (C := RX0) (T := TX0) (N := 8) hx hb hts (by decide +kernel) tyX0 tyX0_ok nmX0 hown hK hP (ww_D hj) hS 40 cc_ext rfl 1 (by decide) (hts (.fieldLink RX0 15 "NumberFieldFactors$Extension" "size" "I") (by decide +kernel)) (fun _ h9 => h9) rfl (by decide +kernel) rfl rfl (Nat.le_of_ble_eq_true rfl) dX0_become_73 (fun H locs hP hD hS => ?_)
            have hP := cs_E1 hP
            refine lv_aload_n hx hb dX0_become_76 rfl (lv_at hl 2 rfl) ?_
            refine lv_iload_n hx hb dX0_become_77 rfl (lv_at hl 4 rfl) ?_
            refine va_put (ci := 0) (v := .int p1) (ty := .int) (C := RX0) (T := TX0) (N := 8) hx hb hts (by decide +kernel) tyX0 tyX0_ok nmX0 hown hK hP (ww_D hj) hS 40 cc_ext rfl 2 (by decide) (hts (.fieldLink RX0 18 "NumberFieldFactors$Extension" "low0" "I") (by decide +kernel)) (fun _ h9 => h9) rfl (by decide +kernel) rfl rfl (Nat.le_of_ble_eq_true rfl) dX0_become_78 (fun H locs hP hD hS => ?_)
            have hP := cs_E2 hP
            refine lv_aload_n hx hb dX0_become_81 rfl (lv_at hl 2 rfl) ?_
            refine lv_iload hx hb dX0_become_82 (lv_at hl 1 rfl) ?_
            refine va_put (ci := 0) (v := .int 0) (ty := .int) (C := RX0) (T := TX0) (N := 8) hx hb hts (by decide +kernel) tyX0 tyX0_ok nmX0 hown hK hP (ww_D hj) hS 40 cc_ext rfl 3 (by decide) (hts (.fieldLink RX0 21 "NumberFieldFactors$Extension" "low1" "I") (by decide +kernel)) (fun _ h9 => h9) rfl (by decide +kernel) rfl rfl (Nat.le_of_ble_eq_true rfl) dX0_become_84 (fun H locs hP hD hS => ?_)
            have hP := cs_E3 hP
            refine lv_aload_n hx hb dX0_become_87 rfl (lv_at hl 2 rfl) ?_
            refine lv_iload hx hb dX0_become_88 (lv_at hl 0 rfl) ?_
            refine va_put (ci := 0) (v := .int p3) (ty := .int) (C := RX0) (T := TX0) (N := 8) hx hb hts (by decide +kernel) tyX0 tyX0_ok nmX0 hown hK hP (ww_D hj) hS 40 cc_ext rfl 4 (by decide) (hts (.fieldLink RX0 24 "NumberFieldFactors$Extension" "low2" "I") (by decide +kernel)) (fun _ h9 => h9) rfl (by decide +kernel) rfl rfl (Nat.le_of_ble_eq_true rfl) dX0_become_90 (fun H locs hP hD hS => ?_)
            have hP := cs_E4 hP
            refine lv_aload_n hx hb dX0_become_93 rfl (lv_at hl 2 rfl) ?_
            refine lv_iload_n hx hb dX0_become_94 rfl (lv_at hl 3 rfl) ?_
            refine lv_iconst (v := 1) hx hb dX0_become_95 (by decide) ?_
            refine lv_icmp_ne (tgt := 109) hx hb dX0_become_96 (by decide) (fun c118 => ?_) (fun c118 => ?_)
            · rw [if_neg c118] at hf
              refine lv_bipush (v := 101) hx hb dX0_become_109 (by decide) ?_
              refine va_put (ci := 0) (v := .int 101) (ty := .int) (C := RX0) (T := TX0) (N := 8) hx hb hts (by decide +kernel) tyX0 tyX0_ok nmX0 hown hK hP (ww_D hj) hS 40 cc_ext rfl 5 (by decide) (hts (.fieldLink RX0 27 "NumberFieldFactors$Extension" "t" "I") (by decide +kernel)) (fun _ h9 => h9) rfl (by decide +kernel) rfl rfl (Nat.le_of_ble_eq_true rfl) dX0_become_111 (fun H locs hP hD hS => ?_)
              have hP := cs_E5 hP
              refine lv_aload_n hx hb dX0_become_114 rfl (lv_at hl 2 rfl) ?_
              refine lv_aload_n hx hb dX0_become_115 rfl (lv_at hl 2 rfl) ?_
              refine lv_aload_n hx hb dX0_become_116 rfl (lv_at hl 2 rfl) ?_
              refine va_get (ci := 0) (v := .int ((va_up (va_up (va_up (va_up (va_up (va_up E 0 p0) 1 101) 2 p1) 3 0) 4 p3) 5 101) 5)) (C := RX0) (T := TX0) (N := 8) hx hb hts (by decide +kernel) hown hK hP 40 cc_ext rfl 5 (by decide) (hts (.fieldLink RX0 27 "NumberFieldFactors$Extension" "t" "I") (by decide +kernel)) (fun _ h9 => h9) rfl dX0_become_117 ?_
              refine lv_bipush (v := 101) hx hb dX0_become_120 (by decide) ?_
              obtain ⟨u119, g120, hf⟩ := Option.bind_eq_some_iff.mp hf
              try dsimp only at hf
              refine ct_call (va_runV (As := [.int ((va_up (va_up (va_up (va_up (va_up (va_up E 0 p0) 1 101) 2 p1) 3 0) 4 p3) 5 101) 5), .int 101]) (rest := [.ref (ad 40)]) ⟨hx, hb, hml, hown, hts⟩ (C_X0_power l D tys nw hn hnw hj htI htR (res := u119) g120) (cwV 2 hts gX0_become_X0_power rfl rfl rfl (by decide +kernel) ⟨Nat.le_of_ble_eq_true rfl, Nat.le_of_ble_eq_true rfl⟩) (ct_preV hn hP hK hN (ci := 0) (k := 40) rfl (by decide) rfl) rfl rfl hl.1 rfl (lv_room (Nat.le_of_ble_eq_true rfl)) dX0_become_122 ⟨Nat.zero_le _, Nat.zero_le _⟩) hS (fun H locs hP hS => ?_)
              refine va_put (ci := 0) (v := .int u119) (ty := .int) (C := RX0) (T := TX0) (N := 8) hx hb hts (by decide +kernel) tyX0 tyX0_ok nmX0 hown hK hP (ww_D hj) hS 40 cc_ext rfl 6 (by decide) (hts (.fieldLink RX0 30 "NumberFieldFactors$Extension" "mateOfT" "I") (by decide +kernel)) (fun _ h9 => h9) rfl (by decide +kernel) rfl rfl (Nat.le_of_ble_eq_true rfl) dX0_become_125 (fun H locs hP hD hS => ?_)
              have hP := cs_E6 hP
              refine lv_aload_n hx hb dX0_become_128 rfl (lv_at hl 2 rfl) ?_
              refine lv_aload_n hx hb dX0_become_129 rfl (lv_at hl 2 rfl) ?_
              refine lv_aload_n hx hb dX0_become_130 rfl (lv_at hl 2 rfl) ?_
              refine va_get (ci := 0) (v := .int ((va_up (va_up (va_up (va_up (va_up (va_up (va_up E 0 p0) 1 101) 2 p1) 3 0) 4 p3) 5 101) 6 u119) 6)) (C := RX0) (T := TX0) (N := 8) hx hb hts (by decide +kernel) hown hK hP 40 cc_ext rfl 6 (by decide) (hts (.fieldLink RX0 30 "NumberFieldFactors$Extension" "mateOfT" "I") (by decide +kernel)) (fun _ h9 => h9) rfl dX0_become_131 ?_
              refine lv_aload_n hx hb dX0_become_134 rfl (lv_at hl 2 rfl) ?_
              refine va_get (ci := 0) (v := .int ((va_up (va_up (va_up (va_up (va_up (va_up (va_up E 0 p0) 1 101) 2 p1) 3 0) 4 p3) 5 101) 6 u119) 6)) (C := RX0) (T := TX0) (N := 8) hx hb hts (by decide +kernel) hown hK hP 40 cc_ext rfl 6 (by decide) (hts (.fieldLink RX0 30 "NumberFieldFactors$Extension" "mateOfT" "I") (by decide +kernel)) (fun _ h9 => h9) rfl dX0_become_135 ?_
              obtain ⟨u121, g122, hf⟩ := Option.bind_eq_some_iff.mp hf
              try dsimp only at hf
              refine ct_call (va_runV (As := [.int ((va_up (va_up (va_up (va_up (va_up (va_up (va_up E 0 p0) 1 101) 2 p1) 3 0) 4 p3) 5 101) 6 u119) 6), .int ((va_up (va_up (va_up (va_up (va_up (va_up (va_up E 0 p0) 1 101) 2 p1) 3 0) 4 p3) 5 101) 6 u119) 6)]) (rest := [.ref (ad 40)]) ⟨hx, hb, hml, hown, hts⟩ (C_X0_times l D tys nw hn hnw hj htI htR (res := u121) g122) (cwV 2 hts gX0_become_X0_times rfl rfl rfl (by decide +kernel) ⟨Nat.le_of_ble_eq_true rfl, Nat.le_of_ble_eq_true rfl⟩) (ct_preV hn hP hK hN (ci := 0) (k := 40) rfl (by decide) rfl) rfl rfl hl.1 rfl (lv_room (Nat.le_of_ble_eq_true rfl)) dX0_become_138 ⟨Nat.zero_le _, Nat.zero_le _⟩) hS (fun H locs hP hS => ?_)
              refine va_put (ci := 0) (v := .int u121) (ty := .int) (C := RX0) (T := TX0) (N := 8) hx hb hts (by decide +kernel) tyX0 tyX0_ok nmX0 hown hK hP (ww_D hj) hS 40 cc_ext rfl 7 (by decide) (hts (.fieldLink RX0 33 "NumberFieldFactors$Extension" "mateOfTSquared" "I") (by decide +kernel)) (fun _ h9 => h9) rfl (by decide +kernel) rfl rfl (Nat.le_of_ble_eq_true rfl) dX0_become_141 (fun H locs hP hD hS => ?_)
              have hP := cs_E7 hP
              refine lv_iconst (v := 1) hx hb dX0_become_144 (by decide) ?_
              obtain rfl := Option.some.inj hf
              exact W.zret (v := 1) (ty := .boolean) hx hb hr (by decide) (fun t ht hW => ⟨rfl, by rw [ht]; exact hP, hS.F ht⟩) hS.2.2 dX0_become_145
            · rw [if_pos c118] at hf
              refine lv_bipush (v := 101) hx hb dX0_become_99 (by decide) ?_
              refine lv_iload_n hx hb dX0_become_101 rfl (lv_at hl 4 rfl) ?_
              refine lv_isub hx hb dX0_become_102 ?_
              refine lv_bipush (v := 101) hx hb dX0_become_103 (by decide) ?_
              refine jv_irem hx hb dX0_become_105 (by decide) ?_
              refine lv_goto (tgt := 111) hx hb dX0_become_106 (by decide) ?_
              refine va_put (ci := 0) (v := .int (jrem (101 - p1) 101)) (ty := .int) (C := RX0) (T := TX0) (N := 8) hx hb hts (by decide +kernel) tyX0 tyX0_ok nmX0 hown hK hP (ww_D hj) hS 40 cc_ext rfl 5 (by decide) (hts (.fieldLink RX0 27 "NumberFieldFactors$Extension" "t" "I") (by decide +kernel)) (fun _ h9 => h9) rfl (by decide +kernel) rfl rfl (Nat.le_of_ble_eq_true rfl) dX0_become_111 (fun H locs hP hD hS => ?_)
              have hP := cs_E5 hP
              refine lv_aload_n hx hb dX0_become_114 rfl (lv_at hl 2 rfl) ?_
              refine lv_aload_n hx hb dX0_become_115 rfl (lv_at hl 2 rfl) ?_
              refine lv_aload_n hx hb dX0_become_116 rfl (lv_at hl 2 rfl) ?_
              refine va_get (ci := 0) (v := .int ((va_up (va_up (va_up (va_up (va_up (va_up E 0 p0) 1 101) 2 p1) 3 0) 4 p3) 5 (jrem (101 - p1) 101)) 5)) (C := RX0) (T := TX0) (N := 8) hx hb hts (by decide +kernel) hown hK hP 40 cc_ext rfl 5 (by decide) (hts (.fieldLink RX0 27 "NumberFieldFactors$Extension" "t" "I") (by decide +kernel)) (fun _ h9 => h9) rfl dX0_become_117 ?_
              refine lv_bipush (v := 101) hx hb dX0_become_120 (by decide) ?_
              obtain ⟨u123, g124, hf⟩ := Option.bind_eq_some_iff.mp hf
              try dsimp only at hf
              refine ct_call (va_runV (As := [.int ((va_up (va_up (va_up (va_up (va_up (va_up E 0 p0) 1 101) 2 p1) 3 0) 4 p3) 5 (jrem (101 - p1) 101)) 5), .int 101]) (rest := [.ref (ad 40)]) ⟨hx, hb, hml, hown, hts⟩ (C_X0_power l D tys nw hn hnw hj htI htR (res := u123) g124) (cwV 2 hts gX0_become_X0_power rfl rfl rfl (by decide +kernel) ⟨Nat.le_of_ble_eq_true rfl, Nat.le_of_ble_eq_true rfl⟩) (ct_preV hn hP hK hN (ci := 0) (k := 40) rfl (by decide) rfl) rfl rfl hl.1 rfl (lv_room (Nat.le_of_ble_eq_true rfl)) dX0_become_122 ⟨Nat.zero_le _, Nat.zero_le _⟩) hS (fun H locs hP hS => ?_)
              refine va_put (ci := 0) (v := .int u123) (ty := .int) (C := RX0) (T := TX0) (N := 8) hx hb hts (by decide +kernel) tyX0 tyX0_ok nmX0 hown hK hP (ww_D hj) hS 40 cc_ext rfl 6 (by decide) (hts (.fieldLink RX0 30 "NumberFieldFactors$Extension" "mateOfT" "I") (by decide +kernel)) (fun _ h9 => h9) rfl (by decide +kernel) rfl rfl (Nat.le_of_ble_eq_true rfl) dX0_become_125 (fun H locs hP hD hS => ?_)
              have hP := cs_E6 hP
              refine lv_aload_n hx hb dX0_become_128 rfl (lv_at hl 2 rfl) ?_
              refine lv_aload_n hx hb dX0_become_129 rfl (lv_at hl 2 rfl) ?_
              refine lv_aload_n hx hb dX0_become_130 rfl (lv_at hl 2 rfl) ?_
              refine va_get (ci := 0) (v := .int ((va_up (va_up (va_up (va_up (va_up (va_up (va_up E 0 p0) 1 101) 2 p1) 3 0) 4 p3) 5 (jrem (101 - p1) 101)) 6 u123) 6)) (C := RX0) (T := TX0) (N := 8) hx hb hts (by decide +kernel) hown hK hP 40 cc_ext rfl 6 (by decide) (hts (.fieldLink RX0 30 "NumberFieldFactors$Extension" "mateOfT" "I") (by decide +kernel)) (fun _ h9 => h9) rfl dX0_become_131 ?_
              refine lv_aload_n hx hb dX0_become_134 rfl (lv_at hl 2 rfl) ?_
              refine va_get (ci := 0) (v := .int ((va_up (va_up (va_up (va_up (va_up (va_up (va_up E 0 p0) 1 101) 2 p1) 3 0) 4 p3) 5 (jrem (101 - p1) 101)) 6 u123) 6)) (C := RX0) (T := TX0) (N := 8) hx hb hts (by decide +kernel) hown hK hP 40 cc_ext rfl 6 (by decide) (hts (.fieldLink RX0 30 "NumberFieldFactors$Extension" "mateOfT" "I") (by decide +kernel)) (fun _ h9 => h9) rfl dX0_become_135 ?_
              obtain ⟨u125, g126, hf⟩ := Option.bind_eq_some_iff.mp hf
              try dsimp only at hf
              refine ct_call (va_runV (As := [.int ((va_up (va_up (va_up (va_up (va_up (va_up (va_up E 0 p0) 1 101) 2 p1) 3 0) 4 p3) 5 (jrem (101 - p1) 101)) 6 u123) 6), .int ((va_up (va_up (va_up (va_up (va_up (va_up (va_up E 0 p0) 1 101) 2 p1) 3 0) 4 p3) 5 (jrem (101 - p1) 101)) 6 u123) 6)]) (rest := [.ref (ad 40)]) ⟨hx, hb, hml, hown, hts⟩ (C_X0_times l D tys nw hn hnw hj htI htR (res := u125) g126) (cwV 2 hts gX0_become_X0_times rfl rfl rfl (by decide +kernel) ⟨Nat.le_of_ble_eq_true rfl, Nat.le_of_ble_eq_true rfl⟩) (ct_preV hn hP hK hN (ci := 0) (k := 40) rfl (by decide) rfl) rfl rfl hl.1 rfl (lv_room (Nat.le_of_ble_eq_true rfl)) dX0_become_138 ⟨Nat.zero_le _, Nat.zero_le _⟩) hS (fun H locs hP hS => ?_)
              refine va_put (ci := 0) (v := .int u125) (ty := .int) (C := RX0) (T := TX0) (N := 8) hx hb hts (by decide +kernel) tyX0 tyX0_ok nmX0 hown hK hP (ww_D hj) hS 40 cc_ext rfl 7 (by decide) (hts (.fieldLink RX0 33 "NumberFieldFactors$Extension" "mateOfTSquared" "I") (by decide +kernel)) (fun _ h9 => h9) rfl (by decide +kernel) rfl rfl (Nat.le_of_ble_eq_true rfl) dX0_become_141 (fun H locs hP hD hS => ?_)
              have hP := cs_E7 hP
              refine lv_iconst (v := 1) hx hb dX0_become_144 (by decide) ?_
              obtain rfl := Option.some.inj hf
              exact W.zret (v := 1) (ty := .boolean) hx hb hr (by decide) (fun t ht hW => ⟨rfl, by rw [ht]; exact hP, hS.F ht⟩) hS.2.2 dX0_become_145
        · rw [if_neg c97] at hf
          refine lv_iconst (v := 0) hx hb dX0_become_42 (by decide) ?_
          obtain rfl := Option.some.inj hf
          exact W.zret (v := 0) (ty := .boolean) hx hb hr (by decide) (fun t ht hW => ⟨rfl, by rw [ht]; exact hP, hS.F ht⟩) hS.2.2 dX0_become_43
  · rw [if_neg c1] at hf
    refine lv_iload_n hx hb dX0_become_5 rfl (lv_at hl 3 rfl) ?_
    refine lv_goto (tgt := 10) hx hb dX0_become_6 (by decide) ?_
    refine lv_istore (lv' := [(5, .int p2), (0, .ref (ad 40)), (1, .int p0), (2, .int p1), (3, .int p2), (4, .int p3)]) hx hb dX0_become_10 hl (by decide) rfl (fun ls hl => ?_)
    refine lv_iload_n hx hb dX0_become_12 rfl (lv_at hl 2 rfl) ?_
    refine lv_iconst (v := 2) hx hb dX0_become_13 (by decide) ?_
    refine lv_icmp_le (tgt := 22) hx hb dX0_become_14 (by decide) (fun c127 => ?_) (fun c127 => ?_)
    · rw [if_pos c127] at hf
      refine lv_iconst (v := 0) hx hb dX0_become_22 (by decide) ?_
      refine lv_istore (lv' := [(6, .int 0), (5, .int p2), (0, .ref (ad 40)), (1, .int p0), (2, .int p1), (3, .int p2), (4, .int p3)]) hx hb dX0_become_23 hl (by decide) rfl (fun ls hl => ?_)
      refine lv_iload_n hx hb dX0_become_25 rfl (lv_at hl 3 rfl) ?_
      refine lv_iconst (v := 1) hx hb dX0_become_26 (by decide) ?_
      refine lv_icmp_le (tgt := 44) hx hb dX0_become_27 (by decide) (fun c128 => ?_) (fun c128 => ?_)
      · rw [if_pos c128] at hf
        refine lv_aload_n hx hb dX0_become_44 rfl (lv_at hl 2 rfl) ?_
        refine lv_iload_n hx hb dX0_become_45 rfl (lv_at hl 3 rfl) ?_
        refine va_put (ci := 0) (v := .int p0) (ty := .int) (C := RX0) (T := TX0) (N := 8) hx hb hts (by decide +kernel) tyX0 tyX0_ok nmX0 hown hK hP (ww_D hj) hS 40 cc_ext rfl 0 (by decide) (hts (.fieldLink RX0 9 "NumberFieldFactors$Extension" "degree" "I") (by decide +kernel)) (fun _ h9 => h9) rfl (by decide +kernel) rfl rfl (Nat.le_of_ble_eq_true rfl) dX0_become_46 (fun H locs hP hD hS => ?_)
        have hP := cs_E0 hP
        refine lv_aload_n hx hb dX0_become_49 rfl (lv_at hl 2 rfl) ?_
        refine lv_iload_n hx hb dX0_become_50 rfl (lv_at hl 3 rfl) ?_
        refine lv_iconst (v := 1) hx hb dX0_become_51 (by decide) ?_
        refine lv_icmp_ne (tgt := 60) hx hb dX0_become_52 (by decide) (fun c129 => ?_) (fun c129 => ?_)
        · rw [if_neg c129] at hf
          refine lv_iload_n hx hb dX0_become_60 rfl (lv_at hl 3 rfl) ?_
          refine lv_iconst (v := 2) hx hb dX0_become_61 (by decide) ?_
          refine lv_icmp_ne (tgt := 71) hx hb dX0_become_62 (by decide) (fun c130 => ?_) (fun c130 => ?_)
          · rw [if_neg c130] at hf
            refine lv_ldc (v := 1030301) hx hb hown (hts (.constant RX0 40 (1030301)) (by decide +kernel)) dX0_become_71 ?_
            refine va_put (ci := 0) (v := .int 1030301) (ty := .int) (C := RX0) (T := TX0) (N := 8) hx hb hts (by decide +kernel) tyX0 tyX0_ok nmX0 hown hK hP (ww_D hj) hS 40 cc_ext rfl 1 (by decide) (hts (.fieldLink RX0 15 "NumberFieldFactors$Extension" "size" "I") (by decide +kernel)) (fun _ h9 => h9) rfl (by decide +kernel) rfl rfl (Nat.le_of_ble_eq_true rfl) dX0_become_73 (fun H locs hP hD hS => ?_)
            have hP := cs_E1 hP
            refine lv_aload_n hx hb dX0_become_76 rfl (lv_at hl 2 rfl) ?_
            refine lv_iload_n hx hb dX0_become_77 rfl (lv_at hl 4 rfl) ?_
            refine va_put (ci := 0) (v := .int p1) (ty := .int) (C := RX0) (T := TX0) (N := 8) hx hb hts (by decide +kernel) tyX0 tyX0_ok nmX0 hown hK hP (ww_D hj) hS 40 cc_ext rfl 2 (by decide) (hts (.fieldLink RX0 18 "NumberFieldFactors$Extension" "low0" "I") (by decide +kernel)) (fun _ h9 => h9) rfl (by decide +kernel) rfl rfl (Nat.le_of_ble_eq_true rfl) dX0_become_78 (fun H locs hP hD hS => ?_)
            have hP := cs_E2 hP
            refine lv_aload_n hx hb dX0_become_81 rfl (lv_at hl 2 rfl) ?_
            refine lv_iload hx hb dX0_become_82 (lv_at hl 1 rfl) ?_
            refine va_put (ci := 0) (v := .int p2) (ty := .int) (C := RX0) (T := TX0) (N := 8) hx hb hts (by decide +kernel) tyX0 tyX0_ok nmX0 hown hK hP (ww_D hj) hS 40 cc_ext rfl 3 (by decide) (hts (.fieldLink RX0 21 "NumberFieldFactors$Extension" "low1" "I") (by decide +kernel)) (fun _ h9 => h9) rfl (by decide +kernel) rfl rfl (Nat.le_of_ble_eq_true rfl) dX0_become_84 (fun H locs hP hD hS => ?_)
            have hP := cs_E3 hP
            refine lv_aload_n hx hb dX0_become_87 rfl (lv_at hl 2 rfl) ?_
            refine lv_iload hx hb dX0_become_88 (lv_at hl 0 rfl) ?_
            refine va_put (ci := 0) (v := .int 0) (ty := .int) (C := RX0) (T := TX0) (N := 8) hx hb hts (by decide +kernel) tyX0 tyX0_ok nmX0 hown hK hP (ww_D hj) hS 40 cc_ext rfl 4 (by decide) (hts (.fieldLink RX0 24 "NumberFieldFactors$Extension" "low2" "I") (by decide +kernel)) (fun _ h9 => h9) rfl (by decide +kernel) rfl rfl (Nat.le_of_ble_eq_true rfl) dX0_become_90 (fun H locs hP hD hS => ?_)
            have hP := cs_E4 hP
            refine lv_aload_n hx hb dX0_become_93 rfl (lv_at hl 2 rfl) ?_
            refine lv_iload_n hx hb dX0_become_94 rfl (lv_at hl 3 rfl) ?_
            refine lv_iconst (v := 1) hx hb dX0_become_95 (by decide) ?_
            refine lv_icmp_ne (tgt := 109) hx hb dX0_become_96 (by decide) (fun c131 => ?_) (fun c131 => ?_)
            · rw [if_neg c131] at hf
              refine lv_bipush (v := 101) hx hb dX0_become_109 (by decide) ?_
              refine va_put (ci := 0) (v := .int 101) (ty := .int) (C := RX0) (T := TX0) (N := 8) hx hb hts (by decide +kernel) tyX0 tyX0_ok nmX0 hown hK hP (ww_D hj) hS 40 cc_ext rfl 5 (by decide) (hts (.fieldLink RX0 27 "NumberFieldFactors$Extension" "t" "I") (by decide +kernel)) (fun _ h9 => h9) rfl (by decide +kernel) rfl rfl (Nat.le_of_ble_eq_true rfl) dX0_become_111 (fun H locs hP hD hS => ?_)
              have hP := cs_E5 hP
              refine lv_aload_n hx hb dX0_become_114 rfl (lv_at hl 2 rfl) ?_
              refine lv_aload_n hx hb dX0_become_115 rfl (lv_at hl 2 rfl) ?_
              refine lv_aload_n hx hb dX0_become_116 rfl (lv_at hl 2 rfl) ?_
              refine va_get (ci := 0) (v := .int ((va_up (va_up (va_up (va_up (va_up (va_up E 0 p0) 1 1030301) 2 p1) 3 p2) 4 0) 5 101) 5)) (C := RX0) (T := TX0) (N := 8) hx hb hts (by decide +kernel) hown hK hP 40 cc_ext rfl 5 (by decide) (hts (.fieldLink RX0 27 "NumberFieldFactors$Extension" "t" "I") (by decide +kernel)) (fun _ h9 => h9) rfl dX0_become_117 ?_
              refine lv_bipush (v := 101) hx hb dX0_become_120 (by decide) ?_
              obtain ⟨u132, g133, hf⟩ := Option.bind_eq_some_iff.mp hf
              try dsimp only at hf
              refine ct_call (va_runV (As := [.int ((va_up (va_up (va_up (va_up (va_up (va_up E 0 p0) 1 1030301) 2 p1) 3 p2) 4 0) 5 101) 5), .int 101]) (rest := [.ref (ad 40)]) ⟨hx, hb, hml, hown, hts⟩ (C_X0_power l D tys nw hn hnw hj htI htR (res := u132) g133) (cwV 2 hts gX0_become_X0_power rfl rfl rfl (by decide +kernel) ⟨Nat.le_of_ble_eq_true rfl, Nat.le_of_ble_eq_true rfl⟩) (ct_preV hn hP hK hN (ci := 0) (k := 40) rfl (by decide) rfl) rfl rfl hl.1 rfl (lv_room (Nat.le_of_ble_eq_true rfl)) dX0_become_122 ⟨Nat.zero_le _, Nat.zero_le _⟩) hS (fun H locs hP hS => ?_)
              refine va_put (ci := 0) (v := .int u132) (ty := .int) (C := RX0) (T := TX0) (N := 8) hx hb hts (by decide +kernel) tyX0 tyX0_ok nmX0 hown hK hP (ww_D hj) hS 40 cc_ext rfl 6 (by decide) (hts (.fieldLink RX0 30 "NumberFieldFactors$Extension" "mateOfT" "I") (by decide +kernel)) (fun _ h9 => h9) rfl (by decide +kernel) rfl rfl (Nat.le_of_ble_eq_true rfl) dX0_become_125 (fun H locs hP hD hS => ?_)
              have hP := cs_E6 hP
              refine lv_aload_n hx hb dX0_become_128 rfl (lv_at hl 2 rfl) ?_
              refine lv_aload_n hx hb dX0_become_129 rfl (lv_at hl 2 rfl) ?_
              refine lv_aload_n hx hb dX0_become_130 rfl (lv_at hl 2 rfl) ?_
              refine va_get (ci := 0) (v := .int ((va_up (va_up (va_up (va_up (va_up (va_up (va_up E 0 p0) 1 1030301) 2 p1) 3 p2) 4 0) 5 101) 6 u132) 6)) (C := RX0) (T := TX0) (N := 8) hx hb hts (by decide +kernel) hown hK hP 40 cc_ext rfl 6 (by decide) (hts (.fieldLink RX0 30 "NumberFieldFactors$Extension" "mateOfT" "I") (by decide +kernel)) (fun _ h9 => h9) rfl dX0_become_131 ?_
              refine lv_aload_n hx hb dX0_become_134 rfl (lv_at hl 2 rfl) ?_
              refine va_get (ci := 0) (v := .int ((va_up (va_up (va_up (va_up (va_up (va_up (va_up E 0 p0) 1 1030301) 2 p1) 3 p2) 4 0) 5 101) 6 u132) 6)) (C := RX0) (T := TX0) (N := 8) hx hb hts (by decide +kernel) hown hK hP 40 cc_ext rfl 6 (by decide) (hts (.fieldLink RX0 30 "NumberFieldFactors$Extension" "mateOfT" "I") (by decide +kernel)) (fun _ h9 => h9) rfl dX0_become_135 ?_
              obtain ⟨u134, g135, hf⟩ := Option.bind_eq_some_iff.mp hf
              try dsimp only at hf
              refine ct_call (va_runV (As := [.int ((va_up (va_up (va_up (va_up (va_up (va_up (va_up E 0 p0) 1 1030301) 2 p1) 3 p2) 4 0) 5 101) 6 u132) 6), .int ((va_up (va_up (va_up (va_up (va_up (va_up (va_up E 0 p0) 1 1030301) 2 p1) 3 p2) 4 0) 5 101) 6 u132) 6)]) (rest := [.ref (ad 40)]) ⟨hx, hb, hml, hown, hts⟩ (C_X0_times l D tys nw hn hnw hj htI htR (res := u134) g135) (cwV 2 hts gX0_become_X0_times rfl rfl rfl (by decide +kernel) ⟨Nat.le_of_ble_eq_true rfl, Nat.le_of_ble_eq_true rfl⟩) (ct_preV hn hP hK hN (ci := 0) (k := 40) rfl (by decide) rfl) rfl rfl hl.1 rfl (lv_room (Nat.le_of_ble_eq_true rfl)) dX0_become_138 ⟨Nat.zero_le _, Nat.zero_le _⟩) hS (fun H locs hP hS => ?_)
              refine va_put (ci := 0) (v := .int u134) (ty := .int) (C := RX0) (T := TX0) (N := 8) hx hb hts (by decide +kernel) tyX0 tyX0_ok nmX0 hown hK hP (ww_D hj) hS 40 cc_ext rfl 7 (by decide) (hts (.fieldLink RX0 33 "NumberFieldFactors$Extension" "mateOfTSquared" "I") (by decide +kernel)) (fun _ h9 => h9) rfl (by decide +kernel) rfl rfl (Nat.le_of_ble_eq_true rfl) dX0_become_141 (fun H locs hP hD hS => ?_)
              have hP := cs_E7 hP
              refine lv_iconst (v := 1) hx hb dX0_become_144 (by decide) ?_
              obtain rfl := Option.some.inj hf
              exact W.zret (v := 1) (ty := .boolean) hx hb hr (by decide) (fun t ht hW => ⟨rfl, by rw [ht]; exact hP, hS.F ht⟩) hS.2.2 dX0_become_145
            · rw [if_pos c131] at hf
              refine lv_bipush (v := 101) hx hb dX0_become_99 (by decide) ?_
              refine lv_iload_n hx hb dX0_become_101 rfl (lv_at hl 4 rfl) ?_
              refine lv_isub hx hb dX0_become_102 ?_
              refine lv_bipush (v := 101) hx hb dX0_become_103 (by decide) ?_
              refine jv_irem hx hb dX0_become_105 (by decide) ?_
              refine lv_goto (tgt := 111) hx hb dX0_become_106 (by decide) ?_
              refine va_put (ci := 0) (v := .int (jrem (101 - p1) 101)) (ty := .int) (C := RX0) (T := TX0) (N := 8) hx hb hts (by decide +kernel) tyX0 tyX0_ok nmX0 hown hK hP (ww_D hj) hS 40 cc_ext rfl 5 (by decide) (hts (.fieldLink RX0 27 "NumberFieldFactors$Extension" "t" "I") (by decide +kernel)) (fun _ h9 => h9) rfl (by decide +kernel) rfl rfl (Nat.le_of_ble_eq_true rfl) dX0_become_111 (fun H locs hP hD hS => ?_)
              have hP := cs_E5 hP
              refine lv_aload_n hx hb dX0_become_114 rfl (lv_at hl 2 rfl) ?_
              refine lv_aload_n hx hb dX0_become_115 rfl (lv_at hl 2 rfl) ?_
              refine lv_aload_n hx hb dX0_become_116 rfl (lv_at hl 2 rfl) ?_
              refine va_get (ci := 0) (v := .int ((va_up (va_up (va_up (va_up (va_up (va_up E 0 p0) 1 1030301) 2 p1) 3 p2) 4 0) 5 (jrem (101 - p1) 101)) 5)) (C := RX0) (T := TX0) (N := 8) hx hb hts (by decide +kernel) hown hK hP 40 cc_ext rfl 5 (by decide) (hts (.fieldLink RX0 27 "NumberFieldFactors$Extension" "t" "I") (by decide +kernel)) (fun _ h9 => h9) rfl dX0_become_117 ?_
              refine lv_bipush (v := 101) hx hb dX0_become_120 (by decide) ?_
              obtain ⟨u136, g137, hf⟩ := Option.bind_eq_some_iff.mp hf
              try dsimp only at hf
              refine ct_call (va_runV (As := [.int ((va_up (va_up (va_up (va_up (va_up (va_up E 0 p0) 1 1030301) 2 p1) 3 p2) 4 0) 5 (jrem (101 - p1) 101)) 5), .int 101]) (rest := [.ref (ad 40)]) ⟨hx, hb, hml, hown, hts⟩ (C_X0_power l D tys nw hn hnw hj htI htR (res := u136) g137) (cwV 2 hts gX0_become_X0_power rfl rfl rfl (by decide +kernel) ⟨Nat.le_of_ble_eq_true rfl, Nat.le_of_ble_eq_true rfl⟩) (ct_preV hn hP hK hN (ci := 0) (k := 40) rfl (by decide) rfl) rfl rfl hl.1 rfl (lv_room (Nat.le_of_ble_eq_true rfl)) dX0_become_122 ⟨Nat.zero_le _, Nat.zero_le _⟩) hS (fun H locs hP hS => ?_)
              refine va_put (ci := 0) (v := .int u136) (ty := .int) (C := RX0) (T := TX0) (N := 8) hx hb hts (by decide +kernel) tyX0 tyX0_ok nmX0 hown hK hP (ww_D hj) hS 40 cc_ext rfl 6 (by decide) (hts (.fieldLink RX0 30 "NumberFieldFactors$Extension" "mateOfT" "I") (by decide +kernel)) (fun _ h9 => h9) rfl (by decide +kernel) rfl rfl (Nat.le_of_ble_eq_true rfl) dX0_become_125 (fun H locs hP hD hS => ?_)
              have hP := cs_E6 hP
              refine lv_aload_n hx hb dX0_become_128 rfl (lv_at hl 2 rfl) ?_
              refine lv_aload_n hx hb dX0_become_129 rfl (lv_at hl 2 rfl) ?_
              refine lv_aload_n hx hb dX0_become_130 rfl (lv_at hl 2 rfl) ?_
              refine va_get (ci := 0) (v := .int ((va_up (va_up (va_up (va_up (va_up (va_up (va_up E 0 p0) 1 1030301) 2 p1) 3 p2) 4 0) 5 (jrem (101 - p1) 101)) 6 u136) 6)) (C := RX0) (T := TX0) (N := 8) hx hb hts (by decide +kernel) hown hK hP 40 cc_ext rfl 6 (by decide) (hts (.fieldLink RX0 30 "NumberFieldFactors$Extension" "mateOfT" "I") (by decide +kernel)) (fun _ h9 => h9) rfl dX0_become_131 ?_
              refine lv_aload_n hx hb dX0_become_134 rfl (lv_at hl 2 rfl) ?_
              refine va_get (ci := 0) (v := .int ((va_up (va_up (va_up (va_up (va_up (va_up (va_up E 0 p0) 1 1030301) 2 p1) 3 p2) 4 0) 5 (jrem (101 - p1) 101)) 6 u136) 6)) (C := RX0) (T := TX0) (N := 8) hx hb hts (by decide +kernel) hown hK hP 40 cc_ext rfl 6 (by decide) (hts (.fieldLink RX0 30 "NumberFieldFactors$Extension" "mateOfT" "I") (by decide +kernel)) (fun _ h9 => h9) rfl dX0_become_135 ?_
              obtain ⟨u138, g139, hf⟩ := Option.bind_eq_some_iff.mp hf
              try dsimp only at hf
              refine ct_call (va_runV (As := [.int ((va_up (va_up (va_up (va_up (va_up (va_up (va_up E 0 p0) 1 1030301) 2 p1) 3 p2) 4 0) 5 (jrem (101 - p1) 101)) 6 u136) 6), .int ((va_up (va_up (va_up (va_up (va_up (va_up (va_up E 0 p0) 1 1030301) 2 p1) 3 p2) 4 0) 5 (jrem (101 - p1) 101)) 6 u136) 6)]) (rest := [.ref (ad 40)]) ⟨hx, hb, hml, hown, hts⟩ (C_X0_times l D tys nw hn hnw hj htI htR (res := u138) g139) (cwV 2 hts gX0_become_X0_times rfl rfl rfl (by decide +kernel) ⟨Nat.le_of_ble_eq_true rfl, Nat.le_of_ble_eq_true rfl⟩) (ct_preV hn hP hK hN (ci := 0) (k := 40) rfl (by decide) rfl) rfl rfl hl.1 rfl (lv_room (Nat.le_of_ble_eq_true rfl)) dX0_become_138 ⟨Nat.zero_le _, Nat.zero_le _⟩) hS (fun H locs hP hS => ?_)
              refine va_put (ci := 0) (v := .int u138) (ty := .int) (C := RX0) (T := TX0) (N := 8) hx hb hts (by decide +kernel) tyX0 tyX0_ok nmX0 hown hK hP (ww_D hj) hS 40 cc_ext rfl 7 (by decide) (hts (.fieldLink RX0 33 "NumberFieldFactors$Extension" "mateOfTSquared" "I") (by decide +kernel)) (fun _ h9 => h9) rfl (by decide +kernel) rfl rfl (Nat.le_of_ble_eq_true rfl) dX0_become_141 (fun H locs hP hD hS => ?_)
              have hP := cs_E7 hP
              refine lv_iconst (v := 1) hx hb dX0_become_144 (by decide) ?_
              obtain rfl := Option.some.inj hf
              exact W.zret (v := 1) (ty := .boolean) hx hb hr (by decide) (fun t ht hW => ⟨rfl, by rw [ht]; exact hP, hS.F ht⟩) hS.2.2 dX0_become_145
          · rw [if_pos c130] at hf
            refine lv_sipush (v := 10201) hx hb dX0_become_65 (by decide) ?_
            refine lv_goto (tgt := 73) hx hb dX0_become_68 (by decide) ?_
            refine va_put (ci := 0) (v := .int 10201) (ty := .int) (C := RX0) (T := TX0) (N := 8) hx hb hts (by decide +kernel) tyX0 tyX0_ok nmX0 hown hK hP (ww_D hj) hS 40 cc_ext rfl 1 (by decide) (hts (.fieldLink RX0 15 "NumberFieldFactors$Extension" "size" "I") (by decide +kernel)) (fun _ h9 => h9) rfl (by decide +kernel) rfl rfl (Nat.le_of_ble_eq_true rfl) dX0_become_73 (fun H locs hP hD hS => ?_)
            have hP := cs_E1 hP
            refine lv_aload_n hx hb dX0_become_76 rfl (lv_at hl 2 rfl) ?_
            refine lv_iload_n hx hb dX0_become_77 rfl (lv_at hl 4 rfl) ?_
            refine va_put (ci := 0) (v := .int p1) (ty := .int) (C := RX0) (T := TX0) (N := 8) hx hb hts (by decide +kernel) tyX0 tyX0_ok nmX0 hown hK hP (ww_D hj) hS 40 cc_ext rfl 2 (by decide) (hts (.fieldLink RX0 18 "NumberFieldFactors$Extension" "low0" "I") (by decide +kernel)) (fun _ h9 => h9) rfl (by decide +kernel) rfl rfl (Nat.le_of_ble_eq_true rfl) dX0_become_78 (fun H locs hP hD hS => ?_)
            have hP := cs_E2 hP
            refine lv_aload_n hx hb dX0_become_81 rfl (lv_at hl 2 rfl) ?_
            refine lv_iload hx hb dX0_become_82 (lv_at hl 1 rfl) ?_
            refine va_put (ci := 0) (v := .int p2) (ty := .int) (C := RX0) (T := TX0) (N := 8) hx hb hts (by decide +kernel) tyX0 tyX0_ok nmX0 hown hK hP (ww_D hj) hS 40 cc_ext rfl 3 (by decide) (hts (.fieldLink RX0 21 "NumberFieldFactors$Extension" "low1" "I") (by decide +kernel)) (fun _ h9 => h9) rfl (by decide +kernel) rfl rfl (Nat.le_of_ble_eq_true rfl) dX0_become_84 (fun H locs hP hD hS => ?_)
            have hP := cs_E3 hP
            refine lv_aload_n hx hb dX0_become_87 rfl (lv_at hl 2 rfl) ?_
            refine lv_iload hx hb dX0_become_88 (lv_at hl 0 rfl) ?_
            refine va_put (ci := 0) (v := .int 0) (ty := .int) (C := RX0) (T := TX0) (N := 8) hx hb hts (by decide +kernel) tyX0 tyX0_ok nmX0 hown hK hP (ww_D hj) hS 40 cc_ext rfl 4 (by decide) (hts (.fieldLink RX0 24 "NumberFieldFactors$Extension" "low2" "I") (by decide +kernel)) (fun _ h9 => h9) rfl (by decide +kernel) rfl rfl (Nat.le_of_ble_eq_true rfl) dX0_become_90 (fun H locs hP hD hS => ?_)
            have hP := cs_E4 hP
            refine lv_aload_n hx hb dX0_become_93 rfl (lv_at hl 2 rfl) ?_
            refine lv_iload_n hx hb dX0_become_94 rfl (lv_at hl 3 rfl) ?_
            refine lv_iconst (v := 1) hx hb dX0_become_95 (by decide) ?_
            refine lv_icmp_ne (tgt := 109) hx hb dX0_become_96 (by decide) (fun c140 => ?_) (fun c140 => ?_)
            · rw [if_neg c140] at hf
              refine lv_bipush (v := 101) hx hb dX0_become_109 (by decide) ?_
              refine va_put (ci := 0) (v := .int 101) (ty := .int) (C := RX0) (T := TX0) (N := 8) hx hb hts (by decide +kernel) tyX0 tyX0_ok nmX0 hown hK hP (ww_D hj) hS 40 cc_ext rfl 5 (by decide) (hts (.fieldLink RX0 27 "NumberFieldFactors$Extension" "t" "I") (by decide +kernel)) (fun _ h9 => h9) rfl (by decide +kernel) rfl rfl (Nat.le_of_ble_eq_true rfl) dX0_become_111 (fun H locs hP hD hS => ?_)
              have hP := cs_E5 hP
              refine lv_aload_n hx hb dX0_become_114 rfl (lv_at hl 2 rfl) ?_
              refine lv_aload_n hx hb dX0_become_115 rfl (lv_at hl 2 rfl) ?_
              refine lv_aload_n hx hb dX0_become_116 rfl (lv_at hl 2 rfl) ?_
              refine va_get (ci := 0) (v := .int ((va_up (va_up (va_up (va_up (va_up (va_up E 0 p0) 1 10201) 2 p1) 3 p2) 4 0) 5 101) 5)) (C := RX0) (T := TX0) (N := 8) hx hb hts (by decide +kernel) hown hK hP 40 cc_ext rfl 5 (by decide) (hts (.fieldLink RX0 27 "NumberFieldFactors$Extension" "t" "I") (by decide +kernel)) (fun _ h9 => h9) rfl dX0_become_117 ?_
              refine lv_bipush (v := 101) hx hb dX0_become_120 (by decide) ?_
              obtain ⟨u141, g142, hf⟩ := Option.bind_eq_some_iff.mp hf
              try dsimp only at hf
              refine ct_call (va_runV (As := [.int ((va_up (va_up (va_up (va_up (va_up (va_up E 0 p0) 1 10201) 2 p1) 3 p2) 4 0) 5 101) 5), .int 101]) (rest := [.ref (ad 40)]) ⟨hx, hb, hml, hown, hts⟩ (C_X0_power l D tys nw hn hnw hj htI htR (res := u141) g142) (cwV 2 hts gX0_become_X0_power rfl rfl rfl (by decide +kernel) ⟨Nat.le_of_ble_eq_true rfl, Nat.le_of_ble_eq_true rfl⟩) (ct_preV hn hP hK hN (ci := 0) (k := 40) rfl (by decide) rfl) rfl rfl hl.1 rfl (lv_room (Nat.le_of_ble_eq_true rfl)) dX0_become_122 ⟨Nat.zero_le _, Nat.zero_le _⟩) hS (fun H locs hP hS => ?_)
              refine va_put (ci := 0) (v := .int u141) (ty := .int) (C := RX0) (T := TX0) (N := 8) hx hb hts (by decide +kernel) tyX0 tyX0_ok nmX0 hown hK hP (ww_D hj) hS 40 cc_ext rfl 6 (by decide) (hts (.fieldLink RX0 30 "NumberFieldFactors$Extension" "mateOfT" "I") (by decide +kernel)) (fun _ h9 => h9) rfl (by decide +kernel) rfl rfl (Nat.le_of_ble_eq_true rfl) dX0_become_125 (fun H locs hP hD hS => ?_)
              have hP := cs_E6 hP
              refine lv_aload_n hx hb dX0_become_128 rfl (lv_at hl 2 rfl) ?_
              refine lv_aload_n hx hb dX0_become_129 rfl (lv_at hl 2 rfl) ?_
              refine lv_aload_n hx hb dX0_become_130 rfl (lv_at hl 2 rfl) ?_
              refine va_get (ci := 0) (v := .int ((va_up (va_up (va_up (va_up (va_up (va_up (va_up E 0 p0) 1 10201) 2 p1) 3 p2) 4 0) 5 101) 6 u141) 6)) (C := RX0) (T := TX0) (N := 8) hx hb hts (by decide +kernel) hown hK hP 40 cc_ext rfl 6 (by decide) (hts (.fieldLink RX0 30 "NumberFieldFactors$Extension" "mateOfT" "I") (by decide +kernel)) (fun _ h9 => h9) rfl dX0_become_131 ?_
              refine lv_aload_n hx hb dX0_become_134 rfl (lv_at hl 2 rfl) ?_
              refine va_get (ci := 0) (v := .int ((va_up (va_up (va_up (va_up (va_up (va_up (va_up E 0 p0) 1 10201) 2 p1) 3 p2) 4 0) 5 101) 6 u141) 6)) (C := RX0) (T := TX0) (N := 8) hx hb hts (by decide +kernel) hown hK hP 40 cc_ext rfl 6 (by decide) (hts (.fieldLink RX0 30 "NumberFieldFactors$Extension" "mateOfT" "I") (by decide +kernel)) (fun _ h9 => h9) rfl dX0_become_135 ?_
              obtain ⟨u143, g144, hf⟩ := Option.bind_eq_some_iff.mp hf
              try dsimp only at hf
              refine ct_call (va_runV (As := [.int ((va_up (va_up (va_up (va_up (va_up (va_up (va_up E 0 p0) 1 10201) 2 p1) 3 p2) 4 0) 5 101) 6 u141) 6), .int ((va_up (va_up (va_up (va_up (va_up (va_up (va_up E 0 p0) 1 10201) 2 p1) 3 p2) 4 0) 5 101) 6 u141) 6)]) (rest := [.ref (ad 40)]) ⟨hx, hb, hml, hown, hts⟩ (C_X0_times l D tys nw hn hnw hj htI htR (res := u143) g144) (cwV 2 hts gX0_become_X0_times rfl rfl rfl (by decide +kernel) ⟨Nat.le_of_ble_eq_true rfl, Nat.le_of_ble_eq_true rfl⟩) (ct_preV hn hP hK hN (ci := 0) (k := 40) rfl (by decide) rfl) rfl rfl hl.1 rfl (lv_room (Nat.le_of_ble_eq_true rfl)) dX0_become_138 ⟨Nat.zero_le _, Nat.zero_le _⟩) hS (fun H locs hP hS => ?_)
              refine va_put (ci := 0) (v := .int u143) (ty := .int) (C := RX0) (T := TX0) (N := 8) hx hb hts (by decide +kernel) tyX0 tyX0_ok nmX0 hown hK hP (ww_D hj) hS 40 cc_ext rfl 7 (by decide) (hts (.fieldLink RX0 33 "NumberFieldFactors$Extension" "mateOfTSquared" "I") (by decide +kernel)) (fun _ h9 => h9) rfl (by decide +kernel) rfl rfl (Nat.le_of_ble_eq_true rfl) dX0_become_141 (fun H locs hP hD hS => ?_)
              have hP := cs_E7 hP
              refine lv_iconst (v := 1) hx hb dX0_become_144 (by decide) ?_
              obtain rfl := Option.some.inj hf
              exact W.zret (v := 1) (ty := .boolean) hx hb hr (by decide) (fun t ht hW => ⟨rfl, by rw [ht]; exact hP, hS.F ht⟩) hS.2.2 dX0_become_145
            · rw [if_pos c140] at hf
              refine lv_bipush (v := 101) hx hb dX0_become_99 (by decide) ?_
              refine lv_iload_n hx hb dX0_become_101 rfl (lv_at hl 4 rfl) ?_
              refine lv_isub hx hb dX0_become_102 ?_
              refine lv_bipush (v := 101) hx hb dX0_become_103 (by decide) ?_
              refine jv_irem hx hb dX0_become_105 (by decide) ?_
              refine lv_goto (tgt := 111) hx hb dX0_become_106 (by decide) ?_
              refine va_put (ci := 0) (v := .int (jrem (101 - p1) 101)) (ty := .int) (C := RX0) (T := TX0) (N := 8) hx hb hts (by decide +kernel) tyX0 tyX0_ok nmX0 hown hK hP (ww_D hj) hS 40 cc_ext rfl 5 (by decide) (hts (.fieldLink RX0 27 "NumberFieldFactors$Extension" "t" "I") (by decide +kernel)) (fun _ h9 => h9) rfl (by decide +kernel) rfl rfl (Nat.le_of_ble_eq_true rfl) dX0_become_111 (fun H locs hP hD hS => ?_)
              have hP := cs_E5 hP
              refine lv_aload_n hx hb dX0_become_114 rfl (lv_at hl 2 rfl) ?_
              refine lv_aload_n hx hb dX0_become_115 rfl (lv_at hl 2 rfl) ?_
              refine lv_aload_n hx hb dX0_become_116 rfl (lv_at hl 2 rfl) ?_
              refine va_get (ci := 0) (v := .int ((va_up (va_up (va_up (va_up (va_up (va_up E 0 p0) 1 10201) 2 p1) 3 p2) 4 0) 5 (jrem (101 - p1) 101)) 5)) (C := RX0) (T := TX0) (N := 8) hx hb hts (by decide +kernel) hown hK hP 40 cc_ext rfl 5 (by decide) (hts (.fieldLink RX0 27 "NumberFieldFactors$Extension" "t" "I") (by decide +kernel)) (fun _ h9 => h9) rfl dX0_become_117 ?_
              refine lv_bipush (v := 101) hx hb dX0_become_120 (by decide) ?_
              obtain ⟨u145, g146, hf⟩ := Option.bind_eq_some_iff.mp hf
              try dsimp only at hf
              refine ct_call (va_runV (As := [.int ((va_up (va_up (va_up (va_up (va_up (va_up E 0 p0) 1 10201) 2 p1) 3 p2) 4 0) 5 (jrem (101 - p1) 101)) 5), .int 101]) (rest := [.ref (ad 40)]) ⟨hx, hb, hml, hown, hts⟩ (C_X0_power l D tys nw hn hnw hj htI htR (res := u145) g146) (cwV 2 hts gX0_become_X0_power rfl rfl rfl (by decide +kernel) ⟨Nat.le_of_ble_eq_true rfl, Nat.le_of_ble_eq_true rfl⟩) (ct_preV hn hP hK hN (ci := 0) (k := 40) rfl (by decide) rfl) rfl rfl hl.1 rfl (lv_room (Nat.le_of_ble_eq_true rfl)) dX0_become_122 ⟨Nat.zero_le _, Nat.zero_le _⟩) hS (fun H locs hP hS => ?_)
              refine va_put (ci := 0) (v := .int u145) (ty := .int) (C := RX0) (T := TX0) (N := 8) hx hb hts (by decide +kernel) tyX0 tyX0_ok nmX0 hown hK hP (ww_D hj) hS 40 cc_ext rfl 6 (by decide) (hts (.fieldLink RX0 30 "NumberFieldFactors$Extension" "mateOfT" "I") (by decide +kernel)) (fun _ h9 => h9) rfl (by decide +kernel) rfl rfl (Nat.le_of_ble_eq_true rfl) dX0_become_125 (fun H locs hP hD hS => ?_)
              have hP := cs_E6 hP
              refine lv_aload_n hx hb dX0_become_128 rfl (lv_at hl 2 rfl) ?_
              refine lv_aload_n hx hb dX0_become_129 rfl (lv_at hl 2 rfl) ?_
              refine lv_aload_n hx hb dX0_become_130 rfl (lv_at hl 2 rfl) ?_
              refine va_get (ci := 0) (v := .int ((va_up (va_up (va_up (va_up (va_up (va_up (va_up E 0 p0) 1 10201) 2 p1) 3 p2) 4 0) 5 (jrem (101 - p1) 101)) 6 u145) 6)) (C := RX0) (T := TX0) (N := 8) hx hb hts (by decide +kernel) hown hK hP 40 cc_ext rfl 6 (by decide) (hts (.fieldLink RX0 30 "NumberFieldFactors$Extension" "mateOfT" "I") (by decide +kernel)) (fun _ h9 => h9) rfl dX0_become_131 ?_
              refine lv_aload_n hx hb dX0_become_134 rfl (lv_at hl 2 rfl) ?_
              refine va_get (ci := 0) (v := .int ((va_up (va_up (va_up (va_up (va_up (va_up (va_up E 0 p0) 1 10201) 2 p1) 3 p2) 4 0) 5 (jrem (101 - p1) 101)) 6 u145) 6)) (C := RX0) (T := TX0) (N := 8) hx hb hts (by decide +kernel) hown hK hP 40 cc_ext rfl 6 (by decide) (hts (.fieldLink RX0 30 "NumberFieldFactors$Extension" "mateOfT" "I") (by decide +kernel)) (fun _ h9 => h9) rfl dX0_become_135 ?_
              obtain ⟨u147, g148, hf⟩ := Option.bind_eq_some_iff.mp hf
              try dsimp only at hf
              refine ct_call (va_runV (As := [.int ((va_up (va_up (va_up (va_up (va_up (va_up (va_up E 0 p0) 1 10201) 2 p1) 3 p2) 4 0) 5 (jrem (101 - p1) 101)) 6 u145) 6), .int ((va_up (va_up (va_up (va_up (va_up (va_up (va_up E 0 p0) 1 10201) 2 p1) 3 p2) 4 0) 5 (jrem (101 - p1) 101)) 6 u145) 6)]) (rest := [.ref (ad 40)]) ⟨hx, hb, hml, hown, hts⟩ (C_X0_times l D tys nw hn hnw hj htI htR (res := u147) g148) (cwV 2 hts gX0_become_X0_times rfl rfl rfl (by decide +kernel) ⟨Nat.le_of_ble_eq_true rfl, Nat.le_of_ble_eq_true rfl⟩) (ct_preV hn hP hK hN (ci := 0) (k := 40) rfl (by decide) rfl) rfl rfl hl.1 rfl (lv_room (Nat.le_of_ble_eq_true rfl)) dX0_become_138 ⟨Nat.zero_le _, Nat.zero_le _⟩) hS (fun H locs hP hS => ?_)
              refine va_put (ci := 0) (v := .int u147) (ty := .int) (C := RX0) (T := TX0) (N := 8) hx hb hts (by decide +kernel) tyX0 tyX0_ok nmX0 hown hK hP (ww_D hj) hS 40 cc_ext rfl 7 (by decide) (hts (.fieldLink RX0 33 "NumberFieldFactors$Extension" "mateOfTSquared" "I") (by decide +kernel)) (fun _ h9 => h9) rfl (by decide +kernel) rfl rfl (Nat.le_of_ble_eq_true rfl) dX0_become_141 (fun H locs hP hD hS => ?_)
              have hP := cs_E7 hP
              refine lv_iconst (v := 1) hx hb dX0_become_144 (by decide) ?_
              obtain rfl := Option.some.inj hf
              exact W.zret (v := 1) (ty := .boolean) hx hb hr (by decide) (fun t ht hW => ⟨rfl, by rw [ht]; exact hP, hS.F ht⟩) hS.2.2 dX0_become_145
        · rw [if_pos c129] at hf
          refine lv_bipush (v := 101) hx hb dX0_become_55 (by decide) ?_
          refine lv_goto (tgt := 73) hx hb dX0_become_57 (by decide) ?_
          refine va_put (ci := 0) (v := .int 101) (ty := .int) (C := RX0) (T := TX0) (N := 8) hx hb hts (by decide +kernel) tyX0 tyX0_ok nmX0 hown hK hP (ww_D hj) hS 40 cc_ext rfl 1 (by decide) (hts (.fieldLink RX0 15 "NumberFieldFactors$Extension" "size" "I") (by decide +kernel)) (fun _ h9 => h9) rfl (by decide +kernel) rfl rfl (Nat.le_of_ble_eq_true rfl) dX0_become_73 (fun H locs hP hD hS => ?_)
          have hP := cs_E1 hP
          refine lv_aload_n hx hb dX0_become_76 rfl (lv_at hl 2 rfl) ?_
          refine lv_iload_n hx hb dX0_become_77 rfl (lv_at hl 4 rfl) ?_
          refine va_put (ci := 0) (v := .int p1) (ty := .int) (C := RX0) (T := TX0) (N := 8) hx hb hts (by decide +kernel) tyX0 tyX0_ok nmX0 hown hK hP (ww_D hj) hS 40 cc_ext rfl 2 (by decide) (hts (.fieldLink RX0 18 "NumberFieldFactors$Extension" "low0" "I") (by decide +kernel)) (fun _ h9 => h9) rfl (by decide +kernel) rfl rfl (Nat.le_of_ble_eq_true rfl) dX0_become_78 (fun H locs hP hD hS => ?_)
          have hP := cs_E2 hP
          refine lv_aload_n hx hb dX0_become_81 rfl (lv_at hl 2 rfl) ?_
          refine lv_iload hx hb dX0_become_82 (lv_at hl 1 rfl) ?_
          refine va_put (ci := 0) (v := .int p2) (ty := .int) (C := RX0) (T := TX0) (N := 8) hx hb hts (by decide +kernel) tyX0 tyX0_ok nmX0 hown hK hP (ww_D hj) hS 40 cc_ext rfl 3 (by decide) (hts (.fieldLink RX0 21 "NumberFieldFactors$Extension" "low1" "I") (by decide +kernel)) (fun _ h9 => h9) rfl (by decide +kernel) rfl rfl (Nat.le_of_ble_eq_true rfl) dX0_become_84 (fun H locs hP hD hS => ?_)
          have hP := cs_E3 hP
          refine lv_aload_n hx hb dX0_become_87 rfl (lv_at hl 2 rfl) ?_
          refine lv_iload hx hb dX0_become_88 (lv_at hl 0 rfl) ?_
          refine va_put (ci := 0) (v := .int 0) (ty := .int) (C := RX0) (T := TX0) (N := 8) hx hb hts (by decide +kernel) tyX0 tyX0_ok nmX0 hown hK hP (ww_D hj) hS 40 cc_ext rfl 4 (by decide) (hts (.fieldLink RX0 24 "NumberFieldFactors$Extension" "low2" "I") (by decide +kernel)) (fun _ h9 => h9) rfl (by decide +kernel) rfl rfl (Nat.le_of_ble_eq_true rfl) dX0_become_90 (fun H locs hP hD hS => ?_)
          have hP := cs_E4 hP
          refine lv_aload_n hx hb dX0_become_93 rfl (lv_at hl 2 rfl) ?_
          refine lv_iload_n hx hb dX0_become_94 rfl (lv_at hl 3 rfl) ?_
          refine lv_iconst (v := 1) hx hb dX0_become_95 (by decide) ?_
          refine lv_icmp_ne (tgt := 109) hx hb dX0_become_96 (by decide) (fun c149 => ?_) (fun c149 => ?_)
          · rw [if_neg c149] at hf
            refine lv_bipush (v := 101) hx hb dX0_become_109 (by decide) ?_
            refine va_put (ci := 0) (v := .int 101) (ty := .int) (C := RX0) (T := TX0) (N := 8) hx hb hts (by decide +kernel) tyX0 tyX0_ok nmX0 hown hK hP (ww_D hj) hS 40 cc_ext rfl 5 (by decide) (hts (.fieldLink RX0 27 "NumberFieldFactors$Extension" "t" "I") (by decide +kernel)) (fun _ h9 => h9) rfl (by decide +kernel) rfl rfl (Nat.le_of_ble_eq_true rfl) dX0_become_111 (fun H locs hP hD hS => ?_)
            have hP := cs_E5 hP
            refine lv_aload_n hx hb dX0_become_114 rfl (lv_at hl 2 rfl) ?_
            refine lv_aload_n hx hb dX0_become_115 rfl (lv_at hl 2 rfl) ?_
            refine lv_aload_n hx hb dX0_become_116 rfl (lv_at hl 2 rfl) ?_
            refine va_get (ci := 0) (v := .int ((va_up (va_up (va_up (va_up (va_up (va_up E 0 p0) 1 101) 2 p1) 3 p2) 4 0) 5 101) 5)) (C := RX0) (T := TX0) (N := 8) hx hb hts (by decide +kernel) hown hK hP 40 cc_ext rfl 5 (by decide) (hts (.fieldLink RX0 27 "NumberFieldFactors$Extension" "t" "I") (by decide +kernel)) (fun _ h9 => h9) rfl dX0_become_117 ?_
            refine lv_bipush (v := 101) hx hb dX0_become_120 (by decide) ?_
            obtain ⟨u150, g151, hf⟩ := Option.bind_eq_some_iff.mp hf
            try dsimp only at hf
            refine ct_call (va_runV (As := [.int ((va_up (va_up (va_up (va_up (va_up (va_up E 0 p0) 1 101) 2 p1) 3 p2) 4 0) 5 101) 5), .int 101]) (rest := [.ref (ad 40)]) ⟨hx, hb, hml, hown, hts⟩ (C_X0_power l D tys nw hn hnw hj htI htR (res := u150) g151) (cwV 2 hts gX0_become_X0_power rfl rfl rfl (by decide +kernel) ⟨Nat.le_of_ble_eq_true rfl, Nat.le_of_ble_eq_true rfl⟩) (ct_preV hn hP hK hN (ci := 0) (k := 40) rfl (by decide) rfl) rfl rfl hl.1 rfl (lv_room (Nat.le_of_ble_eq_true rfl)) dX0_become_122 ⟨Nat.zero_le _, Nat.zero_le _⟩) hS (fun H locs hP hS => ?_)
            refine va_put (ci := 0) (v := .int u150) (ty := .int) (C := RX0) (T := TX0) (N := 8) hx hb hts (by decide +kernel) tyX0 tyX0_ok nmX0 hown hK hP (ww_D hj) hS 40 cc_ext rfl 6 (by decide) (hts (.fieldLink RX0 30 "NumberFieldFactors$Extension" "mateOfT" "I") (by decide +kernel)) (fun _ h9 => h9) rfl (by decide +kernel) rfl rfl (Nat.le_of_ble_eq_true rfl) dX0_become_125 (fun H locs hP hD hS => ?_)
            have hP := cs_E6 hP
            refine lv_aload_n hx hb dX0_become_128 rfl (lv_at hl 2 rfl) ?_
            refine lv_aload_n hx hb dX0_become_129 rfl (lv_at hl 2 rfl) ?_
            refine lv_aload_n hx hb dX0_become_130 rfl (lv_at hl 2 rfl) ?_
            refine va_get (ci := 0) (v := .int ((va_up (va_up (va_up (va_up (va_up (va_up (va_up E 0 p0) 1 101) 2 p1) 3 p2) 4 0) 5 101) 6 u150) 6)) (C := RX0) (T := TX0) (N := 8) hx hb hts (by decide +kernel) hown hK hP 40 cc_ext rfl 6 (by decide) (hts (.fieldLink RX0 30 "NumberFieldFactors$Extension" "mateOfT" "I") (by decide +kernel)) (fun _ h9 => h9) rfl dX0_become_131 ?_
            refine lv_aload_n hx hb dX0_become_134 rfl (lv_at hl 2 rfl) ?_
            refine va_get (ci := 0) (v := .int ((va_up (va_up (va_up (va_up (va_up (va_up (va_up E 0 p0) 1 101) 2 p1) 3 p2) 4 0) 5 101) 6 u150) 6)) (C := RX0) (T := TX0) (N := 8) hx hb hts (by decide +kernel) hown hK hP 40 cc_ext rfl 6 (by decide) (hts (.fieldLink RX0 30 "NumberFieldFactors$Extension" "mateOfT" "I") (by decide +kernel)) (fun _ h9 => h9) rfl dX0_become_135 ?_
            obtain ⟨u152, g153, hf⟩ := Option.bind_eq_some_iff.mp hf
            try dsimp only at hf
            refine ct_call (va_runV (As := [.int ((va_up (va_up (va_up (va_up (va_up (va_up (va_up E 0 p0) 1 101) 2 p1) 3 p2) 4 0) 5 101) 6 u150) 6), .int ((va_up (va_up (va_up (va_up (va_up (va_up (va_up E 0 p0) 1 101) 2 p1) 3 p2) 4 0) 5 101) 6 u150) 6)]) (rest := [.ref (ad 40)]) ⟨hx, hb, hml, hown, hts⟩ (C_X0_times l D tys nw hn hnw hj htI htR (res := u152) g153) (cwV 2 hts gX0_become_X0_times rfl rfl rfl (by decide +kernel) ⟨Nat.le_of_ble_eq_true rfl, Nat.le_of_ble_eq_true rfl⟩) (ct_preV hn hP hK hN (ci := 0) (k := 40) rfl (by decide) rfl) rfl rfl hl.1 rfl (lv_room (Nat.le_of_ble_eq_true rfl)) dX0_become_138 ⟨Nat.zero_le _, Nat.zero_le _⟩) hS (fun H locs hP hS => ?_)
            refine va_put (ci := 0) (v := .int u152) (ty := .int) (C := RX0) (T := TX0) (N := 8) hx hb hts (by decide +kernel) tyX0 tyX0_ok nmX0 hown hK hP (ww_D hj) hS 40 cc_ext rfl 7 (by decide) (hts (.fieldLink RX0 33 "NumberFieldFactors$Extension" "mateOfTSquared" "I") (by decide +kernel)) (fun _ h9 => h9) rfl (by decide +kernel) rfl rfl (Nat.le_of_ble_eq_true rfl) dX0_become_141 (fun H locs hP hD hS => ?_)
            have hP := cs_E7 hP
            refine lv_iconst (v := 1) hx hb dX0_become_144 (by decide) ?_
            obtain rfl := Option.some.inj hf
            exact W.zret (v := 1) (ty := .boolean) hx hb hr (by decide) (fun t ht hW => ⟨rfl, by rw [ht]; exact hP, hS.F ht⟩) hS.2.2 dX0_become_145
          · rw [if_pos c149] at hf
            refine lv_bipush (v := 101) hx hb dX0_become_99 (by decide) ?_
            refine lv_iload_n hx hb dX0_become_101 rfl (lv_at hl 4 rfl) ?_
            refine lv_isub hx hb dX0_become_102 ?_
            refine lv_bipush (v := 101) hx hb dX0_become_103 (by decide) ?_
            refine jv_irem hx hb dX0_become_105 (by decide) ?_
            refine lv_goto (tgt := 111) hx hb dX0_become_106 (by decide) ?_
            refine va_put (ci := 0) (v := .int (jrem (101 - p1) 101)) (ty := .int) (C := RX0) (T := TX0) (N := 8) hx hb hts (by decide +kernel) tyX0 tyX0_ok nmX0 hown hK hP (ww_D hj) hS 40 cc_ext rfl 5 (by decide) (hts (.fieldLink RX0 27 "NumberFieldFactors$Extension" "t" "I") (by decide +kernel)) (fun _ h9 => h9) rfl (by decide +kernel) rfl rfl (Nat.le_of_ble_eq_true rfl) dX0_become_111 (fun H locs hP hD hS => ?_)
            have hP := cs_E5 hP
            refine lv_aload_n hx hb dX0_become_114 rfl (lv_at hl 2 rfl) ?_
            refine lv_aload_n hx hb dX0_become_115 rfl (lv_at hl 2 rfl) ?_
            refine lv_aload_n hx hb dX0_become_116 rfl (lv_at hl 2 rfl) ?_
            refine va_get (ci := 0) (v := .int ((va_up (va_up (va_up (va_up (va_up (va_up E 0 p0) 1 101) 2 p1) 3 p2) 4 0) 5 (jrem (101 - p1) 101)) 5)) (C := RX0) (T := TX0) (N := 8) hx hb hts (by decide +kernel) hown hK hP 40 cc_ext rfl 5 (by decide) (hts (.fieldLink RX0 27 "NumberFieldFactors$Extension" "t" "I") (by decide +kernel)) (fun _ h9 => h9) rfl dX0_become_117 ?_
            refine lv_bipush (v := 101) hx hb dX0_become_120 (by decide) ?_
            obtain ⟨u154, g155, hf⟩ := Option.bind_eq_some_iff.mp hf
            try dsimp only at hf
            refine ct_call (va_runV (As := [.int ((va_up (va_up (va_up (va_up (va_up (va_up E 0 p0) 1 101) 2 p1) 3 p2) 4 0) 5 (jrem (101 - p1) 101)) 5), .int 101]) (rest := [.ref (ad 40)]) ⟨hx, hb, hml, hown, hts⟩ (C_X0_power l D tys nw hn hnw hj htI htR (res := u154) g155) (cwV 2 hts gX0_become_X0_power rfl rfl rfl (by decide +kernel) ⟨Nat.le_of_ble_eq_true rfl, Nat.le_of_ble_eq_true rfl⟩) (ct_preV hn hP hK hN (ci := 0) (k := 40) rfl (by decide) rfl) rfl rfl hl.1 rfl (lv_room (Nat.le_of_ble_eq_true rfl)) dX0_become_122 ⟨Nat.zero_le _, Nat.zero_le _⟩) hS (fun H locs hP hS => ?_)
            refine va_put (ci := 0) (v := .int u154) (ty := .int) (C := RX0) (T := TX0) (N := 8) hx hb hts (by decide +kernel) tyX0 tyX0_ok nmX0 hown hK hP (ww_D hj) hS 40 cc_ext rfl 6 (by decide) (hts (.fieldLink RX0 30 "NumberFieldFactors$Extension" "mateOfT" "I") (by decide +kernel)) (fun _ h9 => h9) rfl (by decide +kernel) rfl rfl (Nat.le_of_ble_eq_true rfl) dX0_become_125 (fun H locs hP hD hS => ?_)
            have hP := cs_E6 hP
            refine lv_aload_n hx hb dX0_become_128 rfl (lv_at hl 2 rfl) ?_
            refine lv_aload_n hx hb dX0_become_129 rfl (lv_at hl 2 rfl) ?_
            refine lv_aload_n hx hb dX0_become_130 rfl (lv_at hl 2 rfl) ?_
            refine va_get (ci := 0) (v := .int ((va_up (va_up (va_up (va_up (va_up (va_up (va_up E 0 p0) 1 101) 2 p1) 3 p2) 4 0) 5 (jrem (101 - p1) 101)) 6 u154) 6)) (C := RX0) (T := TX0) (N := 8) hx hb hts (by decide +kernel) hown hK hP 40 cc_ext rfl 6 (by decide) (hts (.fieldLink RX0 30 "NumberFieldFactors$Extension" "mateOfT" "I") (by decide +kernel)) (fun _ h9 => h9) rfl dX0_become_131 ?_
            refine lv_aload_n hx hb dX0_become_134 rfl (lv_at hl 2 rfl) ?_
            refine va_get (ci := 0) (v := .int ((va_up (va_up (va_up (va_up (va_up (va_up (va_up E 0 p0) 1 101) 2 p1) 3 p2) 4 0) 5 (jrem (101 - p1) 101)) 6 u154) 6)) (C := RX0) (T := TX0) (N := 8) hx hb hts (by decide +kernel) hown hK hP 40 cc_ext rfl 6 (by decide) (hts (.fieldLink RX0 30 "NumberFieldFactors$Extension" "mateOfT" "I") (by decide +kernel)) (fun _ h9 => h9) rfl dX0_become_135 ?_
            obtain ⟨u156, g157, hf⟩ := Option.bind_eq_some_iff.mp hf
            try dsimp only at hf
            refine ct_call (va_runV (As := [.int ((va_up (va_up (va_up (va_up (va_up (va_up (va_up E 0 p0) 1 101) 2 p1) 3 p2) 4 0) 5 (jrem (101 - p1) 101)) 6 u154) 6), .int ((va_up (va_up (va_up (va_up (va_up (va_up (va_up E 0 p0) 1 101) 2 p1) 3 p2) 4 0) 5 (jrem (101 - p1) 101)) 6 u154) 6)]) (rest := [.ref (ad 40)]) ⟨hx, hb, hml, hown, hts⟩ (C_X0_times l D tys nw hn hnw hj htI htR (res := u156) g157) (cwV 2 hts gX0_become_X0_times rfl rfl rfl (by decide +kernel) ⟨Nat.le_of_ble_eq_true rfl, Nat.le_of_ble_eq_true rfl⟩) (ct_preV hn hP hK hN (ci := 0) (k := 40) rfl (by decide) rfl) rfl rfl hl.1 rfl (lv_room (Nat.le_of_ble_eq_true rfl)) dX0_become_138 ⟨Nat.zero_le _, Nat.zero_le _⟩) hS (fun H locs hP hS => ?_)
            refine va_put (ci := 0) (v := .int u156) (ty := .int) (C := RX0) (T := TX0) (N := 8) hx hb hts (by decide +kernel) tyX0 tyX0_ok nmX0 hown hK hP (ww_D hj) hS 40 cc_ext rfl 7 (by decide) (hts (.fieldLink RX0 33 "NumberFieldFactors$Extension" "mateOfTSquared" "I") (by decide +kernel)) (fun _ h9 => h9) rfl (by decide +kernel) rfl rfl (Nat.le_of_ble_eq_true rfl) dX0_become_141 (fun H locs hP hD hS => ?_)
            have hP := cs_E7 hP
            refine lv_iconst (v := 1) hx hb dX0_become_144 (by decide) ?_
            obtain rfl := Option.some.inj hf
            exact W.zret (v := 1) (ty := .boolean) hx hb hr (by decide) (fun t ht hW => ⟨rfl, by rw [ht]; exact hP, hS.F ht⟩) hS.2.2 dX0_become_145
      · rw [if_neg c128] at hf
        refine lv_iload_n hx hb dX0_become_30 rfl (lv_at hl 3 rfl) ?_
        refine lv_iload_n hx hb dX0_become_31 rfl (lv_at hl 4 rfl) ?_
        refine lv_iload hx hb dX0_become_32 (lv_at hl 1 rfl) ?_
        refine lv_iload hx hb dX0_become_34 (lv_at hl 0 rfl) ?_
        obtain ⟨u158, g159, hf⟩ := Option.bind_eq_some_iff.mp hf
        try dsimp only at hf
        refine ct_call (va_runS (As := [.int p0, .int p1, .int p2, .int 0]) (rest := []) ⟨hx, hb, hml, hown, hts⟩ (C_X0_hasRoot l D tys nw hn hnw hj htI htR (res := u158) g159) (cwS 4 hts gX0_become_X0_hasRoot rfl rfl rfl (by decide +kernel) ⟨Nat.le_of_ble_eq_true rfl, Nat.le_of_ble_eq_true rfl⟩) (ct_preS hn hP hK hN) rfl rfl hl.1 rfl (lv_room (Nat.le_of_ble_eq_true rfl)) dX0_become_36 ⟨Nat.zero_le _, Nat.zero_le _⟩) hS (fun H locs hP hS => ?_)
        refine lv_if_eq (tgt := 44) hx hb dX0_become_39 (by decide) (fun c160 => ?_) (fun c160 => ?_)
        · rw [if_pos c160] at hf
          refine lv_aload_n hx hb dX0_become_44 rfl (lv_at hl 2 rfl) ?_
          refine lv_iload_n hx hb dX0_become_45 rfl (lv_at hl 3 rfl) ?_
          refine va_put (ci := 0) (v := .int p0) (ty := .int) (C := RX0) (T := TX0) (N := 8) hx hb hts (by decide +kernel) tyX0 tyX0_ok nmX0 hown hK hP (ww_D hj) hS 40 cc_ext rfl 0 (by decide) (hts (.fieldLink RX0 9 "NumberFieldFactors$Extension" "degree" "I") (by decide +kernel)) (fun _ h9 => h9) rfl (by decide +kernel) rfl rfl (Nat.le_of_ble_eq_true rfl) dX0_become_46 (fun H locs hP hD hS => ?_)
          have hP := cs_E0 hP
          refine lv_aload_n hx hb dX0_become_49 rfl (lv_at hl 2 rfl) ?_
          refine lv_iload_n hx hb dX0_become_50 rfl (lv_at hl 3 rfl) ?_
          refine lv_iconst (v := 1) hx hb dX0_become_51 (by decide) ?_
          refine lv_icmp_ne (tgt := 60) hx hb dX0_become_52 (by decide) (fun c161 => ?_) (fun c161 => ?_)
          · rw [if_neg c161] at hf
            refine lv_iload_n hx hb dX0_become_60 rfl (lv_at hl 3 rfl) ?_
            refine lv_iconst (v := 2) hx hb dX0_become_61 (by decide) ?_
            refine lv_icmp_ne (tgt := 71) hx hb dX0_become_62 (by decide) (fun c162 => ?_) (fun c162 => ?_)
            · rw [if_neg c162] at hf
              refine lv_ldc (v := 1030301) hx hb hown (hts (.constant RX0 40 (1030301)) (by decide +kernel)) dX0_become_71 ?_
              refine va_put (ci := 0) (v := .int 1030301) (ty := .int) (C := RX0) (T := TX0) (N := 8) hx hb hts (by decide +kernel) tyX0 tyX0_ok nmX0 hown hK hP (ww_D hj) hS 40 cc_ext rfl 1 (by decide) (hts (.fieldLink RX0 15 "NumberFieldFactors$Extension" "size" "I") (by decide +kernel)) (fun _ h9 => h9) rfl (by decide +kernel) rfl rfl (Nat.le_of_ble_eq_true rfl) dX0_become_73 (fun H locs hP hD hS => ?_)
              have hP := cs_E1 hP
              refine lv_aload_n hx hb dX0_become_76 rfl (lv_at hl 2 rfl) ?_
              refine lv_iload_n hx hb dX0_become_77 rfl (lv_at hl 4 rfl) ?_
              refine va_put (ci := 0) (v := .int p1) (ty := .int) (C := RX0) (T := TX0) (N := 8) hx hb hts (by decide +kernel) tyX0 tyX0_ok nmX0 hown hK hP (ww_D hj) hS 40 cc_ext rfl 2 (by decide) (hts (.fieldLink RX0 18 "NumberFieldFactors$Extension" "low0" "I") (by decide +kernel)) (fun _ h9 => h9) rfl (by decide +kernel) rfl rfl (Nat.le_of_ble_eq_true rfl) dX0_become_78 (fun H locs hP hD hS => ?_)
              have hP := cs_E2 hP
              refine lv_aload_n hx hb dX0_become_81 rfl (lv_at hl 2 rfl) ?_
              refine lv_iload hx hb dX0_become_82 (lv_at hl 1 rfl) ?_
              refine va_put (ci := 0) (v := .int p2) (ty := .int) (C := RX0) (T := TX0) (N := 8) hx hb hts (by decide +kernel) tyX0 tyX0_ok nmX0 hown hK hP (ww_D hj) hS 40 cc_ext rfl 3 (by decide) (hts (.fieldLink RX0 21 "NumberFieldFactors$Extension" "low1" "I") (by decide +kernel)) (fun _ h9 => h9) rfl (by decide +kernel) rfl rfl (Nat.le_of_ble_eq_true rfl) dX0_become_84 (fun H locs hP hD hS => ?_)
              have hP := cs_E3 hP
              refine lv_aload_n hx hb dX0_become_87 rfl (lv_at hl 2 rfl) ?_
              refine lv_iload hx hb dX0_become_88 (lv_at hl 0 rfl) ?_
              refine va_put (ci := 0) (v := .int 0) (ty := .int) (C := RX0) (T := TX0) (N := 8) hx hb hts (by decide +kernel) tyX0 tyX0_ok nmX0 hown hK hP (ww_D hj) hS 40 cc_ext rfl 4 (by decide) (hts (.fieldLink RX0 24 "NumberFieldFactors$Extension" "low2" "I") (by decide +kernel)) (fun _ h9 => h9) rfl (by decide +kernel) rfl rfl (Nat.le_of_ble_eq_true rfl) dX0_become_90 (fun H locs hP hD hS => ?_)
              have hP := cs_E4 hP
              refine lv_aload_n hx hb dX0_become_93 rfl (lv_at hl 2 rfl) ?_
              refine lv_iload_n hx hb dX0_become_94 rfl (lv_at hl 3 rfl) ?_
              refine lv_iconst (v := 1) hx hb dX0_become_95 (by decide) ?_
              refine lv_icmp_ne (tgt := 109) hx hb dX0_become_96 (by decide) (fun c163 => ?_) (fun c163 => ?_)
              · rw [if_neg c163] at hf
                refine lv_bipush (v := 101) hx hb dX0_become_109 (by decide) ?_
                refine va_put (ci := 0) (v := .int 101) (ty := .int) (C := RX0) (T := TX0) (N := 8) hx hb hts (by decide +kernel) tyX0 tyX0_ok nmX0 hown hK hP (ww_D hj) hS 40 cc_ext rfl 5 (by decide) (hts (.fieldLink RX0 27 "NumberFieldFactors$Extension" "t" "I") (by decide +kernel)) (fun _ h9 => h9) rfl (by decide +kernel) rfl rfl (Nat.le_of_ble_eq_true rfl) dX0_become_111 (fun H locs hP hD hS => ?_)
                have hP := cs_E5 hP
                refine lv_aload_n hx hb dX0_become_114 rfl (lv_at hl 2 rfl) ?_
                refine lv_aload_n hx hb dX0_become_115 rfl (lv_at hl 2 rfl) ?_
                refine lv_aload_n hx hb dX0_become_116 rfl (lv_at hl 2 rfl) ?_
                refine va_get (ci := 0) (v := .int ((va_up (va_up (va_up (va_up (va_up (va_up E 0 p0) 1 1030301) 2 p1) 3 p2) 4 0) 5 101) 5)) (C := RX0) (T := TX0) (N := 8) hx hb hts (by decide +kernel) hown hK hP 40 cc_ext rfl 5 (by decide) (hts (.fieldLink RX0 27 "NumberFieldFactors$Extension" "t" "I") (by decide +kernel)) (fun _ h9 => h9) rfl dX0_become_117 ?_
                refine lv_bipush (v := 101) hx hb dX0_become_120 (by decide) ?_
                obtain ⟨u164, g165, hf⟩ := Option.bind_eq_some_iff.mp hf
                try dsimp only at hf
                refine ct_call (va_runV (As := [.int ((va_up (va_up (va_up (va_up (va_up (va_up E 0 p0) 1 1030301) 2 p1) 3 p2) 4 0) 5 101) 5), .int 101]) (rest := [.ref (ad 40)]) ⟨hx, hb, hml, hown, hts⟩ (C_X0_power l D tys nw hn hnw hj htI htR (res := u164) g165) (cwV 2 hts gX0_become_X0_power rfl rfl rfl (by decide +kernel) ⟨Nat.le_of_ble_eq_true rfl, Nat.le_of_ble_eq_true rfl⟩) (ct_preV hn hP hK hN (ci := 0) (k := 40) rfl (by decide) rfl) rfl rfl hl.1 rfl (lv_room (Nat.le_of_ble_eq_true rfl)) dX0_become_122 ⟨Nat.zero_le _, Nat.zero_le _⟩) hS (fun H locs hP hS => ?_)
                refine va_put (ci := 0) (v := .int u164) (ty := .int) (C := RX0) (T := TX0) (N := 8) hx hb hts (by decide +kernel) tyX0 tyX0_ok nmX0 hown hK hP (ww_D hj) hS 40 cc_ext rfl 6 (by decide) (hts (.fieldLink RX0 30 "NumberFieldFactors$Extension" "mateOfT" "I") (by decide +kernel)) (fun _ h9 => h9) rfl (by decide +kernel) rfl rfl (Nat.le_of_ble_eq_true rfl) dX0_become_125 (fun H locs hP hD hS => ?_)
                have hP := cs_E6 hP
                refine lv_aload_n hx hb dX0_become_128 rfl (lv_at hl 2 rfl) ?_
                refine lv_aload_n hx hb dX0_become_129 rfl (lv_at hl 2 rfl) ?_
                refine lv_aload_n hx hb dX0_become_130 rfl (lv_at hl 2 rfl) ?_
                refine va_get (ci := 0) (v := .int ((va_up (va_up (va_up (va_up (va_up (va_up (va_up E 0 p0) 1 1030301) 2 p1) 3 p2) 4 0) 5 101) 6 u164) 6)) (C := RX0) (T := TX0) (N := 8) hx hb hts (by decide +kernel) hown hK hP 40 cc_ext rfl 6 (by decide) (hts (.fieldLink RX0 30 "NumberFieldFactors$Extension" "mateOfT" "I") (by decide +kernel)) (fun _ h9 => h9) rfl dX0_become_131 ?_
                refine lv_aload_n hx hb dX0_become_134 rfl (lv_at hl 2 rfl) ?_
                refine va_get (ci := 0) (v := .int ((va_up (va_up (va_up (va_up (va_up (va_up (va_up E 0 p0) 1 1030301) 2 p1) 3 p2) 4 0) 5 101) 6 u164) 6)) (C := RX0) (T := TX0) (N := 8) hx hb hts (by decide +kernel) hown hK hP 40 cc_ext rfl 6 (by decide) (hts (.fieldLink RX0 30 "NumberFieldFactors$Extension" "mateOfT" "I") (by decide +kernel)) (fun _ h9 => h9) rfl dX0_become_135 ?_
                obtain ⟨u166, g167, hf⟩ := Option.bind_eq_some_iff.mp hf
                try dsimp only at hf
                refine ct_call (va_runV (As := [.int ((va_up (va_up (va_up (va_up (va_up (va_up (va_up E 0 p0) 1 1030301) 2 p1) 3 p2) 4 0) 5 101) 6 u164) 6), .int ((va_up (va_up (va_up (va_up (va_up (va_up (va_up E 0 p0) 1 1030301) 2 p1) 3 p2) 4 0) 5 101) 6 u164) 6)]) (rest := [.ref (ad 40)]) ⟨hx, hb, hml, hown, hts⟩ (C_X0_times l D tys nw hn hnw hj htI htR (res := u166) g167) (cwV 2 hts gX0_become_X0_times rfl rfl rfl (by decide +kernel) ⟨Nat.le_of_ble_eq_true rfl, Nat.le_of_ble_eq_true rfl⟩) (ct_preV hn hP hK hN (ci := 0) (k := 40) rfl (by decide) rfl) rfl rfl hl.1 rfl (lv_room (Nat.le_of_ble_eq_true rfl)) dX0_become_138 ⟨Nat.zero_le _, Nat.zero_le _⟩) hS (fun H locs hP hS => ?_)
                refine va_put (ci := 0) (v := .int u166) (ty := .int) (C := RX0) (T := TX0) (N := 8) hx hb hts (by decide +kernel) tyX0 tyX0_ok nmX0 hown hK hP (ww_D hj) hS 40 cc_ext rfl 7 (by decide) (hts (.fieldLink RX0 33 "NumberFieldFactors$Extension" "mateOfTSquared" "I") (by decide +kernel)) (fun _ h9 => h9) rfl (by decide +kernel) rfl rfl (Nat.le_of_ble_eq_true rfl) dX0_become_141 (fun H locs hP hD hS => ?_)
                have hP := cs_E7 hP
                refine lv_iconst (v := 1) hx hb dX0_become_144 (by decide) ?_
                obtain rfl := Option.some.inj hf
                exact W.zret (v := 1) (ty := .boolean) hx hb hr (by decide) (fun t ht hW => ⟨rfl, by rw [ht]; exact hP, hS.F ht⟩) hS.2.2 dX0_become_145
              · rw [if_pos c163] at hf
                refine lv_bipush (v := 101) hx hb dX0_become_99 (by decide) ?_
                refine lv_iload_n hx hb dX0_become_101 rfl (lv_at hl 4 rfl) ?_
                refine lv_isub hx hb dX0_become_102 ?_
                refine lv_bipush (v := 101) hx hb dX0_become_103 (by decide) ?_
                refine jv_irem hx hb dX0_become_105 (by decide) ?_
                refine lv_goto (tgt := 111) hx hb dX0_become_106 (by decide) ?_
                refine va_put (ci := 0) (v := .int (jrem (101 - p1) 101)) (ty := .int) (C := RX0) (T := TX0) (N := 8) hx hb hts (by decide +kernel) tyX0 tyX0_ok nmX0 hown hK hP (ww_D hj) hS 40 cc_ext rfl 5 (by decide) (hts (.fieldLink RX0 27 "NumberFieldFactors$Extension" "t" "I") (by decide +kernel)) (fun _ h9 => h9) rfl (by decide +kernel) rfl rfl (Nat.le_of_ble_eq_true rfl) dX0_become_111 (fun H locs hP hD hS => ?_)
                have hP := cs_E5 hP
                refine lv_aload_n hx hb dX0_become_114 rfl (lv_at hl 2 rfl) ?_
                refine lv_aload_n hx hb dX0_become_115 rfl (lv_at hl 2 rfl) ?_
                refine lv_aload_n hx hb dX0_become_116 rfl (lv_at hl 2 rfl) ?_
                refine va_get (ci := 0) (v := .int ((va_up (va_up (va_up (va_up (va_up (va_up E 0 p0) 1 1030301) 2 p1) 3 p2) 4 0) 5 (jrem (101 - p1) 101)) 5)) (C := RX0) (T := TX0) (N := 8) hx hb hts (by decide +kernel) hown hK hP 40 cc_ext rfl 5 (by decide) (hts (.fieldLink RX0 27 "NumberFieldFactors$Extension" "t" "I") (by decide +kernel)) (fun _ h9 => h9) rfl dX0_become_117 ?_
                refine lv_bipush (v := 101) hx hb dX0_become_120 (by decide) ?_
                obtain ⟨u168, g169, hf⟩ := Option.bind_eq_some_iff.mp hf
                try dsimp only at hf
                refine ct_call (va_runV (As := [.int ((va_up (va_up (va_up (va_up (va_up (va_up E 0 p0) 1 1030301) 2 p1) 3 p2) 4 0) 5 (jrem (101 - p1) 101)) 5), .int 101]) (rest := [.ref (ad 40)]) ⟨hx, hb, hml, hown, hts⟩ (C_X0_power l D tys nw hn hnw hj htI htR (res := u168) g169) (cwV 2 hts gX0_become_X0_power rfl rfl rfl (by decide +kernel) ⟨Nat.le_of_ble_eq_true rfl, Nat.le_of_ble_eq_true rfl⟩) (ct_preV hn hP hK hN (ci := 0) (k := 40) rfl (by decide) rfl) rfl rfl hl.1 rfl (lv_room (Nat.le_of_ble_eq_true rfl)) dX0_become_122 ⟨Nat.zero_le _, Nat.zero_le _⟩) hS (fun H locs hP hS => ?_)
                refine va_put (ci := 0) (v := .int u168) (ty := .int) (C := RX0) (T := TX0) (N := 8) hx hb hts (by decide +kernel) tyX0 tyX0_ok nmX0 hown hK hP (ww_D hj) hS 40 cc_ext rfl 6 (by decide) (hts (.fieldLink RX0 30 "NumberFieldFactors$Extension" "mateOfT" "I") (by decide +kernel)) (fun _ h9 => h9) rfl (by decide +kernel) rfl rfl (Nat.le_of_ble_eq_true rfl) dX0_become_125 (fun H locs hP hD hS => ?_)
                have hP := cs_E6 hP
                refine lv_aload_n hx hb dX0_become_128 rfl (lv_at hl 2 rfl) ?_
                refine lv_aload_n hx hb dX0_become_129 rfl (lv_at hl 2 rfl) ?_
                refine lv_aload_n hx hb dX0_become_130 rfl (lv_at hl 2 rfl) ?_
                refine va_get (ci := 0) (v := .int ((va_up (va_up (va_up (va_up (va_up (va_up (va_up E 0 p0) 1 1030301) 2 p1) 3 p2) 4 0) 5 (jrem (101 - p1) 101)) 6 u168) 6)) (C := RX0) (T := TX0) (N := 8) hx hb hts (by decide +kernel) hown hK hP 40 cc_ext rfl 6 (by decide) (hts (.fieldLink RX0 30 "NumberFieldFactors$Extension" "mateOfT" "I") (by decide +kernel)) (fun _ h9 => h9) rfl dX0_become_131 ?_
                refine lv_aload_n hx hb dX0_become_134 rfl (lv_at hl 2 rfl) ?_
                refine va_get (ci := 0) (v := .int ((va_up (va_up (va_up (va_up (va_up (va_up (va_up E 0 p0) 1 1030301) 2 p1) 3 p2) 4 0) 5 (jrem (101 - p1) 101)) 6 u168) 6)) (C := RX0) (T := TX0) (N := 8) hx hb hts (by decide +kernel) hown hK hP 40 cc_ext rfl 6 (by decide) (hts (.fieldLink RX0 30 "NumberFieldFactors$Extension" "mateOfT" "I") (by decide +kernel)) (fun _ h9 => h9) rfl dX0_become_135 ?_
                obtain ⟨u170, g171, hf⟩ := Option.bind_eq_some_iff.mp hf
                try dsimp only at hf
                refine ct_call (va_runV (As := [.int ((va_up (va_up (va_up (va_up (va_up (va_up (va_up E 0 p0) 1 1030301) 2 p1) 3 p2) 4 0) 5 (jrem (101 - p1) 101)) 6 u168) 6), .int ((va_up (va_up (va_up (va_up (va_up (va_up (va_up E 0 p0) 1 1030301) 2 p1) 3 p2) 4 0) 5 (jrem (101 - p1) 101)) 6 u168) 6)]) (rest := [.ref (ad 40)]) ⟨hx, hb, hml, hown, hts⟩ (C_X0_times l D tys nw hn hnw hj htI htR (res := u170) g171) (cwV 2 hts gX0_become_X0_times rfl rfl rfl (by decide +kernel) ⟨Nat.le_of_ble_eq_true rfl, Nat.le_of_ble_eq_true rfl⟩) (ct_preV hn hP hK hN (ci := 0) (k := 40) rfl (by decide) rfl) rfl rfl hl.1 rfl (lv_room (Nat.le_of_ble_eq_true rfl)) dX0_become_138 ⟨Nat.zero_le _, Nat.zero_le _⟩) hS (fun H locs hP hS => ?_)
                refine va_put (ci := 0) (v := .int u170) (ty := .int) (C := RX0) (T := TX0) (N := 8) hx hb hts (by decide +kernel) tyX0 tyX0_ok nmX0 hown hK hP (ww_D hj) hS 40 cc_ext rfl 7 (by decide) (hts (.fieldLink RX0 33 "NumberFieldFactors$Extension" "mateOfTSquared" "I") (by decide +kernel)) (fun _ h9 => h9) rfl (by decide +kernel) rfl rfl (Nat.le_of_ble_eq_true rfl) dX0_become_141 (fun H locs hP hD hS => ?_)
                have hP := cs_E7 hP
                refine lv_iconst (v := 1) hx hb dX0_become_144 (by decide) ?_
                obtain rfl := Option.some.inj hf
                exact W.zret (v := 1) (ty := .boolean) hx hb hr (by decide) (fun t ht hW => ⟨rfl, by rw [ht]; exact hP, hS.F ht⟩) hS.2.2 dX0_become_145
            · rw [if_pos c162] at hf
              refine lv_sipush (v := 10201) hx hb dX0_become_65 (by decide) ?_
              refine lv_goto (tgt := 73) hx hb dX0_become_68 (by decide) ?_
              refine va_put (ci := 0) (v := .int 10201) (ty := .int) (C := RX0) (T := TX0) (N := 8) hx hb hts (by decide +kernel) tyX0 tyX0_ok nmX0 hown hK hP (ww_D hj) hS 40 cc_ext rfl 1 (by decide) (hts (.fieldLink RX0 15 "NumberFieldFactors$Extension" "size" "I") (by decide +kernel)) (fun _ h9 => h9) rfl (by decide +kernel) rfl rfl (Nat.le_of_ble_eq_true rfl) dX0_become_73 (fun H locs hP hD hS => ?_)
              have hP := cs_E1 hP
              refine lv_aload_n hx hb dX0_become_76 rfl (lv_at hl 2 rfl) ?_
              refine lv_iload_n hx hb dX0_become_77 rfl (lv_at hl 4 rfl) ?_
              refine va_put (ci := 0) (v := .int p1) (ty := .int) (C := RX0) (T := TX0) (N := 8) hx hb hts (by decide +kernel) tyX0 tyX0_ok nmX0 hown hK hP (ww_D hj) hS 40 cc_ext rfl 2 (by decide) (hts (.fieldLink RX0 18 "NumberFieldFactors$Extension" "low0" "I") (by decide +kernel)) (fun _ h9 => h9) rfl (by decide +kernel) rfl rfl (Nat.le_of_ble_eq_true rfl) dX0_become_78 (fun H locs hP hD hS => ?_)
              have hP := cs_E2 hP
              refine lv_aload_n hx hb dX0_become_81 rfl (lv_at hl 2 rfl) ?_
              refine lv_iload hx hb dX0_become_82 (lv_at hl 1 rfl) ?_
              refine va_put (ci := 0) (v := .int p2) (ty := .int) (C := RX0) (T := TX0) (N := 8) hx hb hts (by decide +kernel) tyX0 tyX0_ok nmX0 hown hK hP (ww_D hj) hS 40 cc_ext rfl 3 (by decide) (hts (.fieldLink RX0 21 "NumberFieldFactors$Extension" "low1" "I") (by decide +kernel)) (fun _ h9 => h9) rfl (by decide +kernel) rfl rfl (Nat.le_of_ble_eq_true rfl) dX0_become_84 (fun H locs hP hD hS => ?_)
              have hP := cs_E3 hP
              refine lv_aload_n hx hb dX0_become_87 rfl (lv_at hl 2 rfl) ?_
              refine lv_iload hx hb dX0_become_88 (lv_at hl 0 rfl) ?_
              refine va_put (ci := 0) (v := .int 0) (ty := .int) (C := RX0) (T := TX0) (N := 8) hx hb hts (by decide +kernel) tyX0 tyX0_ok nmX0 hown hK hP (ww_D hj) hS 40 cc_ext rfl 4 (by decide) (hts (.fieldLink RX0 24 "NumberFieldFactors$Extension" "low2" "I") (by decide +kernel)) (fun _ h9 => h9) rfl (by decide +kernel) rfl rfl (Nat.le_of_ble_eq_true rfl) dX0_become_90 (fun H locs hP hD hS => ?_)
              have hP := cs_E4 hP
              refine lv_aload_n hx hb dX0_become_93 rfl (lv_at hl 2 rfl) ?_
              refine lv_iload_n hx hb dX0_become_94 rfl (lv_at hl 3 rfl) ?_
              refine lv_iconst (v := 1) hx hb dX0_become_95 (by decide) ?_
              refine lv_icmp_ne (tgt := 109) hx hb dX0_become_96 (by decide) (fun c172 => ?_) (fun c172 => ?_)
              · rw [if_neg c172] at hf
                refine lv_bipush (v := 101) hx hb dX0_become_109 (by decide) ?_
                refine va_put (ci := 0) (v := .int 101) (ty := .int) (C := RX0) (T := TX0) (N := 8) hx hb hts (by decide +kernel) tyX0 tyX0_ok nmX0 hown hK hP (ww_D hj) hS 40 cc_ext rfl 5 (by decide) (hts (.fieldLink RX0 27 "NumberFieldFactors$Extension" "t" "I") (by decide +kernel)) (fun _ h9 => h9) rfl (by decide +kernel) rfl rfl (Nat.le_of_ble_eq_true rfl) dX0_become_111 (fun H locs hP hD hS => ?_)
                have hP := cs_E5 hP
                refine lv_aload_n hx hb dX0_become_114 rfl (lv_at hl 2 rfl) ?_
                refine lv_aload_n hx hb dX0_become_115 rfl (lv_at hl 2 rfl) ?_
                refine lv_aload_n hx hb dX0_become_116 rfl (lv_at hl 2 rfl) ?_
                refine va_get (ci := 0) (v := .int ((va_up (va_up (va_up (va_up (va_up (va_up E 0 p0) 1 10201) 2 p1) 3 p2) 4 0) 5 101) 5)) (C := RX0) (T := TX0) (N := 8) hx hb hts (by decide +kernel) hown hK hP 40 cc_ext rfl 5 (by decide) (hts (.fieldLink RX0 27 "NumberFieldFactors$Extension" "t" "I") (by decide +kernel)) (fun _ h9 => h9) rfl dX0_become_117 ?_
                refine lv_bipush (v := 101) hx hb dX0_become_120 (by decide) ?_
                obtain ⟨u173, g174, hf⟩ := Option.bind_eq_some_iff.mp hf
                try dsimp only at hf
                refine ct_call (va_runV (As := [.int ((va_up (va_up (va_up (va_up (va_up (va_up E 0 p0) 1 10201) 2 p1) 3 p2) 4 0) 5 101) 5), .int 101]) (rest := [.ref (ad 40)]) ⟨hx, hb, hml, hown, hts⟩ (C_X0_power l D tys nw hn hnw hj htI htR (res := u173) g174) (cwV 2 hts gX0_become_X0_power rfl rfl rfl (by decide +kernel) ⟨Nat.le_of_ble_eq_true rfl, Nat.le_of_ble_eq_true rfl⟩) (ct_preV hn hP hK hN (ci := 0) (k := 40) rfl (by decide) rfl) rfl rfl hl.1 rfl (lv_room (Nat.le_of_ble_eq_true rfl)) dX0_become_122 ⟨Nat.zero_le _, Nat.zero_le _⟩) hS (fun H locs hP hS => ?_)
                refine va_put (ci := 0) (v := .int u173) (ty := .int) (C := RX0) (T := TX0) (N := 8) hx hb hts (by decide +kernel) tyX0 tyX0_ok nmX0 hown hK hP (ww_D hj) hS 40 cc_ext rfl 6 (by decide) (hts (.fieldLink RX0 30 "NumberFieldFactors$Extension" "mateOfT" "I") (by decide +kernel)) (fun _ h9 => h9) rfl (by decide +kernel) rfl rfl (Nat.le_of_ble_eq_true rfl) dX0_become_125 (fun H locs hP hD hS => ?_)
                have hP := cs_E6 hP
                refine lv_aload_n hx hb dX0_become_128 rfl (lv_at hl 2 rfl) ?_
                refine lv_aload_n hx hb dX0_become_129 rfl (lv_at hl 2 rfl) ?_
                refine lv_aload_n hx hb dX0_become_130 rfl (lv_at hl 2 rfl) ?_
                refine va_get (ci := 0) (v := .int ((va_up (va_up (va_up (va_up (va_up (va_up (va_up E 0 p0) 1 10201) 2 p1) 3 p2) 4 0) 5 101) 6 u173) 6)) (C := RX0) (T := TX0) (N := 8) hx hb hts (by decide +kernel) hown hK hP 40 cc_ext rfl 6 (by decide) (hts (.fieldLink RX0 30 "NumberFieldFactors$Extension" "mateOfT" "I") (by decide +kernel)) (fun _ h9 => h9) rfl dX0_become_131 ?_
                refine lv_aload_n hx hb dX0_become_134 rfl (lv_at hl 2 rfl) ?_
                refine va_get (ci := 0) (v := .int ((va_up (va_up (va_up (va_up (va_up (va_up (va_up E 0 p0) 1 10201) 2 p1) 3 p2) 4 0) 5 101) 6 u173) 6)) (C := RX0) (T := TX0) (N := 8) hx hb hts (by decide +kernel) hown hK hP 40 cc_ext rfl 6 (by decide) (hts (.fieldLink RX0 30 "NumberFieldFactors$Extension" "mateOfT" "I") (by decide +kernel)) (fun _ h9 => h9) rfl dX0_become_135 ?_
                obtain ⟨u175, g176, hf⟩ := Option.bind_eq_some_iff.mp hf
                try dsimp only at hf
                refine ct_call (va_runV (As := [.int ((va_up (va_up (va_up (va_up (va_up (va_up (va_up E 0 p0) 1 10201) 2 p1) 3 p2) 4 0) 5 101) 6 u173) 6), .int ((va_up (va_up (va_up (va_up (va_up (va_up (va_up E 0 p0) 1 10201) 2 p1) 3 p2) 4 0) 5 101) 6 u173) 6)]) (rest := [.ref (ad 40)]) ⟨hx, hb, hml, hown, hts⟩ (C_X0_times l D tys nw hn hnw hj htI htR (res := u175) g176) (cwV 2 hts gX0_become_X0_times rfl rfl rfl (by decide +kernel) ⟨Nat.le_of_ble_eq_true rfl, Nat.le_of_ble_eq_true rfl⟩) (ct_preV hn hP hK hN (ci := 0) (k := 40) rfl (by decide) rfl) rfl rfl hl.1 rfl (lv_room (Nat.le_of_ble_eq_true rfl)) dX0_become_138 ⟨Nat.zero_le _, Nat.zero_le _⟩) hS (fun H locs hP hS => ?_)
                refine va_put (ci := 0) (v := .int u175) (ty := .int) (C := RX0) (T := TX0) (N := 8) hx hb hts (by decide +kernel) tyX0 tyX0_ok nmX0 hown hK hP (ww_D hj) hS 40 cc_ext rfl 7 (by decide) (hts (.fieldLink RX0 33 "NumberFieldFactors$Extension" "mateOfTSquared" "I") (by decide +kernel)) (fun _ h9 => h9) rfl (by decide +kernel) rfl rfl (Nat.le_of_ble_eq_true rfl) dX0_become_141 (fun H locs hP hD hS => ?_)
                have hP := cs_E7 hP
                refine lv_iconst (v := 1) hx hb dX0_become_144 (by decide) ?_
                obtain rfl := Option.some.inj hf
                exact W.zret (v := 1) (ty := .boolean) hx hb hr (by decide) (fun t ht hW => ⟨rfl, by rw [ht]; exact hP, hS.F ht⟩) hS.2.2 dX0_become_145
              · rw [if_pos c172] at hf
                refine lv_bipush (v := 101) hx hb dX0_become_99 (by decide) ?_
                refine lv_iload_n hx hb dX0_become_101 rfl (lv_at hl 4 rfl) ?_
                refine lv_isub hx hb dX0_become_102 ?_
                refine lv_bipush (v := 101) hx hb dX0_become_103 (by decide) ?_
                refine jv_irem hx hb dX0_become_105 (by decide) ?_
                refine lv_goto (tgt := 111) hx hb dX0_become_106 (by decide) ?_
                refine va_put (ci := 0) (v := .int (jrem (101 - p1) 101)) (ty := .int) (C := RX0) (T := TX0) (N := 8) hx hb hts (by decide +kernel) tyX0 tyX0_ok nmX0 hown hK hP (ww_D hj) hS 40 cc_ext rfl 5 (by decide) (hts (.fieldLink RX0 27 "NumberFieldFactors$Extension" "t" "I") (by decide +kernel)) (fun _ h9 => h9) rfl (by decide +kernel) rfl rfl (Nat.le_of_ble_eq_true rfl) dX0_become_111 (fun H locs hP hD hS => ?_)
                have hP := cs_E5 hP
                refine lv_aload_n hx hb dX0_become_114 rfl (lv_at hl 2 rfl) ?_
                refine lv_aload_n hx hb dX0_become_115 rfl (lv_at hl 2 rfl) ?_
                refine lv_aload_n hx hb dX0_become_116 rfl (lv_at hl 2 rfl) ?_
                refine va_get (ci := 0) (v := .int ((va_up (va_up (va_up (va_up (va_up (va_up E 0 p0) 1 10201) 2 p1) 3 p2) 4 0) 5 (jrem (101 - p1) 101)) 5)) (C := RX0) (T := TX0) (N := 8) hx hb hts (by decide +kernel) hown hK hP 40 cc_ext rfl 5 (by decide) (hts (.fieldLink RX0 27 "NumberFieldFactors$Extension" "t" "I") (by decide +kernel)) (fun _ h9 => h9) rfl dX0_become_117 ?_
                refine lv_bipush (v := 101) hx hb dX0_become_120 (by decide) ?_
                obtain ⟨u177, g178, hf⟩ := Option.bind_eq_some_iff.mp hf
                try dsimp only at hf
                refine ct_call (va_runV (As := [.int ((va_up (va_up (va_up (va_up (va_up (va_up E 0 p0) 1 10201) 2 p1) 3 p2) 4 0) 5 (jrem (101 - p1) 101)) 5), .int 101]) (rest := [.ref (ad 40)]) ⟨hx, hb, hml, hown, hts⟩ (C_X0_power l D tys nw hn hnw hj htI htR (res := u177) g178) (cwV 2 hts gX0_become_X0_power rfl rfl rfl (by decide +kernel) ⟨Nat.le_of_ble_eq_true rfl, Nat.le_of_ble_eq_true rfl⟩) (ct_preV hn hP hK hN (ci := 0) (k := 40) rfl (by decide) rfl) rfl rfl hl.1 rfl (lv_room (Nat.le_of_ble_eq_true rfl)) dX0_become_122 ⟨Nat.zero_le _, Nat.zero_le _⟩) hS (fun H locs hP hS => ?_)
                refine va_put (ci := 0) (v := .int u177) (ty := .int) (C := RX0) (T := TX0) (N := 8) hx hb hts (by decide +kernel) tyX0 tyX0_ok nmX0 hown hK hP (ww_D hj) hS 40 cc_ext rfl 6 (by decide) (hts (.fieldLink RX0 30 "NumberFieldFactors$Extension" "mateOfT" "I") (by decide +kernel)) (fun _ h9 => h9) rfl (by decide +kernel) rfl rfl (Nat.le_of_ble_eq_true rfl) dX0_become_125 (fun H locs hP hD hS => ?_)
                have hP := cs_E6 hP
                refine lv_aload_n hx hb dX0_become_128 rfl (lv_at hl 2 rfl) ?_
                refine lv_aload_n hx hb dX0_become_129 rfl (lv_at hl 2 rfl) ?_
                refine lv_aload_n hx hb dX0_become_130 rfl (lv_at hl 2 rfl) ?_
                refine va_get (ci := 0) (v := .int ((va_up (va_up (va_up (va_up (va_up (va_up (va_up E 0 p0) 1 10201) 2 p1) 3 p2) 4 0) 5 (jrem (101 - p1) 101)) 6 u177) 6)) (C := RX0) (T := TX0) (N := 8) hx hb hts (by decide +kernel) hown hK hP 40 cc_ext rfl 6 (by decide) (hts (.fieldLink RX0 30 "NumberFieldFactors$Extension" "mateOfT" "I") (by decide +kernel)) (fun _ h9 => h9) rfl dX0_become_131 ?_
                refine lv_aload_n hx hb dX0_become_134 rfl (lv_at hl 2 rfl) ?_
                refine va_get (ci := 0) (v := .int ((va_up (va_up (va_up (va_up (va_up (va_up (va_up E 0 p0) 1 10201) 2 p1) 3 p2) 4 0) 5 (jrem (101 - p1) 101)) 6 u177) 6)) (C := RX0) (T := TX0) (N := 8) hx hb hts (by decide +kernel) hown hK hP 40 cc_ext rfl 6 (by decide) (hts (.fieldLink RX0 30 "NumberFieldFactors$Extension" "mateOfT" "I") (by decide +kernel)) (fun _ h9 => h9) rfl dX0_become_135 ?_
                obtain ⟨u179, g180, hf⟩ := Option.bind_eq_some_iff.mp hf
                try dsimp only at hf
                refine ct_call (va_runV (As := [.int ((va_up (va_up (va_up (va_up (va_up (va_up (va_up E 0 p0) 1 10201) 2 p1) 3 p2) 4 0) 5 (jrem (101 - p1) 101)) 6 u177) 6), .int ((va_up (va_up (va_up (va_up (va_up (va_up (va_up E 0 p0) 1 10201) 2 p1) 3 p2) 4 0) 5 (jrem (101 - p1) 101)) 6 u177) 6)]) (rest := [.ref (ad 40)]) ⟨hx, hb, hml, hown, hts⟩ (C_X0_times l D tys nw hn hnw hj htI htR (res := u179) g180) (cwV 2 hts gX0_become_X0_times rfl rfl rfl (by decide +kernel) ⟨Nat.le_of_ble_eq_true rfl, Nat.le_of_ble_eq_true rfl⟩) (ct_preV hn hP hK hN (ci := 0) (k := 40) rfl (by decide) rfl) rfl rfl hl.1 rfl (lv_room (Nat.le_of_ble_eq_true rfl)) dX0_become_138 ⟨Nat.zero_le _, Nat.zero_le _⟩) hS (fun H locs hP hS => ?_)
                refine va_put (ci := 0) (v := .int u179) (ty := .int) (C := RX0) (T := TX0) (N := 8) hx hb hts (by decide +kernel) tyX0 tyX0_ok nmX0 hown hK hP (ww_D hj) hS 40 cc_ext rfl 7 (by decide) (hts (.fieldLink RX0 33 "NumberFieldFactors$Extension" "mateOfTSquared" "I") (by decide +kernel)) (fun _ h9 => h9) rfl (by decide +kernel) rfl rfl (Nat.le_of_ble_eq_true rfl) dX0_become_141 (fun H locs hP hD hS => ?_)
                have hP := cs_E7 hP
                refine lv_iconst (v := 1) hx hb dX0_become_144 (by decide) ?_
                obtain rfl := Option.some.inj hf
                exact W.zret (v := 1) (ty := .boolean) hx hb hr (by decide) (fun t ht hW => ⟨rfl, by rw [ht]; exact hP, hS.F ht⟩) hS.2.2 dX0_become_145
          · rw [if_pos c161] at hf
            refine lv_bipush (v := 101) hx hb dX0_become_55 (by decide) ?_
            refine lv_goto (tgt := 73) hx hb dX0_become_57 (by decide) ?_
            refine va_put (ci := 0) (v := .int 101) (ty := .int) (C := RX0) (T := TX0) (N := 8) hx hb hts (by decide +kernel) tyX0 tyX0_ok nmX0 hown hK hP (ww_D hj) hS 40 cc_ext rfl 1 (by decide) (hts (.fieldLink RX0 15 "NumberFieldFactors$Extension" "size" "I") (by decide +kernel)) (fun _ h9 => h9) rfl (by decide +kernel) rfl rfl (Nat.le_of_ble_eq_true rfl) dX0_become_73 (fun H locs hP hD hS => ?_)
            have hP := cs_E1 hP
            refine lv_aload_n hx hb dX0_become_76 rfl (lv_at hl 2 rfl) ?_
            refine lv_iload_n hx hb dX0_become_77 rfl (lv_at hl 4 rfl) ?_
            refine va_put (ci := 0) (v := .int p1) (ty := .int) (C := RX0) (T := TX0) (N := 8) hx hb hts (by decide +kernel) tyX0 tyX0_ok nmX0 hown hK hP (ww_D hj) hS 40 cc_ext rfl 2 (by decide) (hts (.fieldLink RX0 18 "NumberFieldFactors$Extension" "low0" "I") (by decide +kernel)) (fun _ h9 => h9) rfl (by decide +kernel) rfl rfl (Nat.le_of_ble_eq_true rfl) dX0_become_78 (fun H locs hP hD hS => ?_)
            have hP := cs_E2 hP
            refine lv_aload_n hx hb dX0_become_81 rfl (lv_at hl 2 rfl) ?_
            refine lv_iload hx hb dX0_become_82 (lv_at hl 1 rfl) ?_
            refine va_put (ci := 0) (v := .int p2) (ty := .int) (C := RX0) (T := TX0) (N := 8) hx hb hts (by decide +kernel) tyX0 tyX0_ok nmX0 hown hK hP (ww_D hj) hS 40 cc_ext rfl 3 (by decide) (hts (.fieldLink RX0 21 "NumberFieldFactors$Extension" "low1" "I") (by decide +kernel)) (fun _ h9 => h9) rfl (by decide +kernel) rfl rfl (Nat.le_of_ble_eq_true rfl) dX0_become_84 (fun H locs hP hD hS => ?_)
            have hP := cs_E3 hP
            refine lv_aload_n hx hb dX0_become_87 rfl (lv_at hl 2 rfl) ?_
            refine lv_iload hx hb dX0_become_88 (lv_at hl 0 rfl) ?_
            refine va_put (ci := 0) (v := .int 0) (ty := .int) (C := RX0) (T := TX0) (N := 8) hx hb hts (by decide +kernel) tyX0 tyX0_ok nmX0 hown hK hP (ww_D hj) hS 40 cc_ext rfl 4 (by decide) (hts (.fieldLink RX0 24 "NumberFieldFactors$Extension" "low2" "I") (by decide +kernel)) (fun _ h9 => h9) rfl (by decide +kernel) rfl rfl (Nat.le_of_ble_eq_true rfl) dX0_become_90 (fun H locs hP hD hS => ?_)
            have hP := cs_E4 hP
            refine lv_aload_n hx hb dX0_become_93 rfl (lv_at hl 2 rfl) ?_
            refine lv_iload_n hx hb dX0_become_94 rfl (lv_at hl 3 rfl) ?_
            refine lv_iconst (v := 1) hx hb dX0_become_95 (by decide) ?_
            refine lv_icmp_ne (tgt := 109) hx hb dX0_become_96 (by decide) (fun c181 => ?_) (fun c181 => ?_)
            · rw [if_neg c181] at hf
              refine lv_bipush (v := 101) hx hb dX0_become_109 (by decide) ?_
              refine va_put (ci := 0) (v := .int 101) (ty := .int) (C := RX0) (T := TX0) (N := 8) hx hb hts (by decide +kernel) tyX0 tyX0_ok nmX0 hown hK hP (ww_D hj) hS 40 cc_ext rfl 5 (by decide) (hts (.fieldLink RX0 27 "NumberFieldFactors$Extension" "t" "I") (by decide +kernel)) (fun _ h9 => h9) rfl (by decide +kernel) rfl rfl (Nat.le_of_ble_eq_true rfl) dX0_become_111 (fun H locs hP hD hS => ?_)
              have hP := cs_E5 hP
              refine lv_aload_n hx hb dX0_become_114 rfl (lv_at hl 2 rfl) ?_
              refine lv_aload_n hx hb dX0_become_115 rfl (lv_at hl 2 rfl) ?_
              refine lv_aload_n hx hb dX0_become_116 rfl (lv_at hl 2 rfl) ?_
              refine va_get (ci := 0) (v := .int ((va_up (va_up (va_up (va_up (va_up (va_up E 0 p0) 1 101) 2 p1) 3 p2) 4 0) 5 101) 5)) (C := RX0) (T := TX0) (N := 8) hx hb hts (by decide +kernel) hown hK hP 40 cc_ext rfl 5 (by decide) (hts (.fieldLink RX0 27 "NumberFieldFactors$Extension" "t" "I") (by decide +kernel)) (fun _ h9 => h9) rfl dX0_become_117 ?_
              refine lv_bipush (v := 101) hx hb dX0_become_120 (by decide) ?_
              obtain ⟨u182, g183, hf⟩ := Option.bind_eq_some_iff.mp hf
              try dsimp only at hf
              refine ct_call (va_runV (As := [.int ((va_up (va_up (va_up (va_up (va_up (va_up E 0 p0) 1 101) 2 p1) 3 p2) 4 0) 5 101) 5), .int 101]) (rest := [.ref (ad 40)]) ⟨hx, hb, hml, hown, hts⟩ (C_X0_power l D tys nw hn hnw hj htI htR (res := u182) g183) (cwV 2 hts gX0_become_X0_power rfl rfl rfl (by decide +kernel) ⟨Nat.le_of_ble_eq_true rfl, Nat.le_of_ble_eq_true rfl⟩) (ct_preV hn hP hK hN (ci := 0) (k := 40) rfl (by decide) rfl) rfl rfl hl.1 rfl (lv_room (Nat.le_of_ble_eq_true rfl)) dX0_become_122 ⟨Nat.zero_le _, Nat.zero_le _⟩) hS (fun H locs hP hS => ?_)
              refine va_put (ci := 0) (v := .int u182) (ty := .int) (C := RX0) (T := TX0) (N := 8) hx hb hts (by decide +kernel) tyX0 tyX0_ok nmX0 hown hK hP (ww_D hj) hS 40 cc_ext rfl 6 (by decide) (hts (.fieldLink RX0 30 "NumberFieldFactors$Extension" "mateOfT" "I") (by decide +kernel)) (fun _ h9 => h9) rfl (by decide +kernel) rfl rfl (Nat.le_of_ble_eq_true rfl) dX0_become_125 (fun H locs hP hD hS => ?_)
              have hP := cs_E6 hP
              refine lv_aload_n hx hb dX0_become_128 rfl (lv_at hl 2 rfl) ?_
              refine lv_aload_n hx hb dX0_become_129 rfl (lv_at hl 2 rfl) ?_
              refine lv_aload_n hx hb dX0_become_130 rfl (lv_at hl 2 rfl) ?_
              refine va_get (ci := 0) (v := .int ((va_up (va_up (va_up (va_up (va_up (va_up (va_up E 0 p0) 1 101) 2 p1) 3 p2) 4 0) 5 101) 6 u182) 6)) (C := RX0) (T := TX0) (N := 8) hx hb hts (by decide +kernel) hown hK hP 40 cc_ext rfl 6 (by decide) (hts (.fieldLink RX0 30 "NumberFieldFactors$Extension" "mateOfT" "I") (by decide +kernel)) (fun _ h9 => h9) rfl dX0_become_131 ?_
              refine lv_aload_n hx hb dX0_become_134 rfl (lv_at hl 2 rfl) ?_
              refine va_get (ci := 0) (v := .int ((va_up (va_up (va_up (va_up (va_up (va_up (va_up E 0 p0) 1 101) 2 p1) 3 p2) 4 0) 5 101) 6 u182) 6)) (C := RX0) (T := TX0) (N := 8) hx hb hts (by decide +kernel) hown hK hP 40 cc_ext rfl 6 (by decide) (hts (.fieldLink RX0 30 "NumberFieldFactors$Extension" "mateOfT" "I") (by decide +kernel)) (fun _ h9 => h9) rfl dX0_become_135 ?_
              obtain ⟨u184, g185, hf⟩ := Option.bind_eq_some_iff.mp hf
              try dsimp only at hf
              refine ct_call (va_runV (As := [.int ((va_up (va_up (va_up (va_up (va_up (va_up (va_up E 0 p0) 1 101) 2 p1) 3 p2) 4 0) 5 101) 6 u182) 6), .int ((va_up (va_up (va_up (va_up (va_up (va_up (va_up E 0 p0) 1 101) 2 p1) 3 p2) 4 0) 5 101) 6 u182) 6)]) (rest := [.ref (ad 40)]) ⟨hx, hb, hml, hown, hts⟩ (C_X0_times l D tys nw hn hnw hj htI htR (res := u184) g185) (cwV 2 hts gX0_become_X0_times rfl rfl rfl (by decide +kernel) ⟨Nat.le_of_ble_eq_true rfl, Nat.le_of_ble_eq_true rfl⟩) (ct_preV hn hP hK hN (ci := 0) (k := 40) rfl (by decide) rfl) rfl rfl hl.1 rfl (lv_room (Nat.le_of_ble_eq_true rfl)) dX0_become_138 ⟨Nat.zero_le _, Nat.zero_le _⟩) hS (fun H locs hP hS => ?_)
              refine va_put (ci := 0) (v := .int u184) (ty := .int) (C := RX0) (T := TX0) (N := 8) hx hb hts (by decide +kernel) tyX0 tyX0_ok nmX0 hown hK hP (ww_D hj) hS 40 cc_ext rfl 7 (by decide) (hts (.fieldLink RX0 33 "NumberFieldFactors$Extension" "mateOfTSquared" "I") (by decide +kernel)) (fun _ h9 => h9) rfl (by decide +kernel) rfl rfl (Nat.le_of_ble_eq_true rfl) dX0_become_141 (fun H locs hP hD hS => ?_)
              have hP := cs_E7 hP
              refine lv_iconst (v := 1) hx hb dX0_become_144 (by decide) ?_
              obtain rfl := Option.some.inj hf
              exact W.zret (v := 1) (ty := .boolean) hx hb hr (by decide) (fun t ht hW => ⟨rfl, by rw [ht]; exact hP, hS.F ht⟩) hS.2.2 dX0_become_145
            · rw [if_pos c181] at hf
              refine lv_bipush (v := 101) hx hb dX0_become_99 (by decide) ?_
              refine lv_iload_n hx hb dX0_become_101 rfl (lv_at hl 4 rfl) ?_
              refine lv_isub hx hb dX0_become_102 ?_
              refine lv_bipush (v := 101) hx hb dX0_become_103 (by decide) ?_
              refine jv_irem hx hb dX0_become_105 (by decide) ?_
              refine lv_goto (tgt := 111) hx hb dX0_become_106 (by decide) ?_
              refine va_put (ci := 0) (v := .int (jrem (101 - p1) 101)) (ty := .int) (C := RX0) (T := TX0) (N := 8) hx hb hts (by decide +kernel) tyX0 tyX0_ok nmX0 hown hK hP (ww_D hj) hS 40 cc_ext rfl 5 (by decide) (hts (.fieldLink RX0 27 "NumberFieldFactors$Extension" "t" "I") (by decide +kernel)) (fun _ h9 => h9) rfl (by decide +kernel) rfl rfl (Nat.le_of_ble_eq_true rfl) dX0_become_111 (fun H locs hP hD hS => ?_)
              have hP := cs_E5 hP
              refine lv_aload_n hx hb dX0_become_114 rfl (lv_at hl 2 rfl) ?_
              refine lv_aload_n hx hb dX0_become_115 rfl (lv_at hl 2 rfl) ?_
              refine lv_aload_n hx hb dX0_become_116 rfl (lv_at hl 2 rfl) ?_
              refine va_get (ci := 0) (v := .int ((va_up (va_up (va_up (va_up (va_up (va_up E 0 p0) 1 101) 2 p1) 3 p2) 4 0) 5 (jrem (101 - p1) 101)) 5)) (C := RX0) (T := TX0) (N := 8) hx hb hts (by decide +kernel) hown hK hP 40 cc_ext rfl 5 (by decide) (hts (.fieldLink RX0 27 "NumberFieldFactors$Extension" "t" "I") (by decide +kernel)) (fun _ h9 => h9) rfl dX0_become_117 ?_
              refine lv_bipush (v := 101) hx hb dX0_become_120 (by decide) ?_
              obtain ⟨u186, g187, hf⟩ := Option.bind_eq_some_iff.mp hf
              try dsimp only at hf
              refine ct_call (va_runV (As := [.int ((va_up (va_up (va_up (va_up (va_up (va_up E 0 p0) 1 101) 2 p1) 3 p2) 4 0) 5 (jrem (101 - p1) 101)) 5), .int 101]) (rest := [.ref (ad 40)]) ⟨hx, hb, hml, hown, hts⟩ (C_X0_power l D tys nw hn hnw hj htI htR (res := u186) g187) (cwV 2 hts gX0_become_X0_power rfl rfl rfl (by decide +kernel) ⟨Nat.le_of_ble_eq_true rfl, Nat.le_of_ble_eq_true rfl⟩) (ct_preV hn hP hK hN (ci := 0) (k := 40) rfl (by decide) rfl) rfl rfl hl.1 rfl (lv_room (Nat.le_of_ble_eq_true rfl)) dX0_become_122 ⟨Nat.zero_le _, Nat.zero_le _⟩) hS (fun H locs hP hS => ?_)
              refine va_put (ci := 0) (v := .int u186) (ty := .int) (C := RX0) (T := TX0) (N := 8) hx hb hts (by decide +kernel) tyX0 tyX0_ok nmX0 hown hK hP (ww_D hj) hS 40 cc_ext rfl 6 (by decide) (hts (.fieldLink RX0 30 "NumberFieldFactors$Extension" "mateOfT" "I") (by decide +kernel)) (fun _ h9 => h9) rfl (by decide +kernel) rfl rfl (Nat.le_of_ble_eq_true rfl) dX0_become_125 (fun H locs hP hD hS => ?_)
              have hP := cs_E6 hP
              refine lv_aload_n hx hb dX0_become_128 rfl (lv_at hl 2 rfl) ?_
              refine lv_aload_n hx hb dX0_become_129 rfl (lv_at hl 2 rfl) ?_
              refine lv_aload_n hx hb dX0_become_130 rfl (lv_at hl 2 rfl) ?_
              refine va_get (ci := 0) (v := .int ((va_up (va_up (va_up (va_up (va_up (va_up (va_up E 0 p0) 1 101) 2 p1) 3 p2) 4 0) 5 (jrem (101 - p1) 101)) 6 u186) 6)) (C := RX0) (T := TX0) (N := 8) hx hb hts (by decide +kernel) hown hK hP 40 cc_ext rfl 6 (by decide) (hts (.fieldLink RX0 30 "NumberFieldFactors$Extension" "mateOfT" "I") (by decide +kernel)) (fun _ h9 => h9) rfl dX0_become_131 ?_
              refine lv_aload_n hx hb dX0_become_134 rfl (lv_at hl 2 rfl) ?_
              refine va_get (ci := 0) (v := .int ((va_up (va_up (va_up (va_up (va_up (va_up (va_up E 0 p0) 1 101) 2 p1) 3 p2) 4 0) 5 (jrem (101 - p1) 101)) 6 u186) 6)) (C := RX0) (T := TX0) (N := 8) hx hb hts (by decide +kernel) hown hK hP 40 cc_ext rfl 6 (by decide) (hts (.fieldLink RX0 30 "NumberFieldFactors$Extension" "mateOfT" "I") (by decide +kernel)) (fun _ h9 => h9) rfl dX0_become_135 ?_
              obtain ⟨u188, g189, hf⟩ := Option.bind_eq_some_iff.mp hf
              try dsimp only at hf
              refine ct_call (va_runV (As := [.int ((va_up (va_up (va_up (va_up (va_up (va_up (va_up E 0 p0) 1 101) 2 p1) 3 p2) 4 0) 5 (jrem (101 - p1) 101)) 6 u186) 6), .int ((va_up (va_up (va_up (va_up (va_up (va_up (va_up E 0 p0) 1 101) 2 p1) 3 p2) 4 0) 5 (jrem (101 - p1) 101)) 6 u186) 6)]) (rest := [.ref (ad 40)]) ⟨hx, hb, hml, hown, hts⟩ (C_X0_times l D tys nw hn hnw hj htI htR (res := u188) g189) (cwV 2 hts gX0_become_X0_times rfl rfl rfl (by decide +kernel) ⟨Nat.le_of_ble_eq_true rfl, Nat.le_of_ble_eq_true rfl⟩) (ct_preV hn hP hK hN (ci := 0) (k := 40) rfl (by decide) rfl) rfl rfl hl.1 rfl (lv_room (Nat.le_of_ble_eq_true rfl)) dX0_become_138 ⟨Nat.zero_le _, Nat.zero_le _⟩) hS (fun H locs hP hS => ?_)
              refine va_put (ci := 0) (v := .int u188) (ty := .int) (C := RX0) (T := TX0) (N := 8) hx hb hts (by decide +kernel) tyX0 tyX0_ok nmX0 hown hK hP (ww_D hj) hS 40 cc_ext rfl 7 (by decide) (hts (.fieldLink RX0 33 "NumberFieldFactors$Extension" "mateOfTSquared" "I") (by decide +kernel)) (fun _ h9 => h9) rfl (by decide +kernel) rfl rfl (Nat.le_of_ble_eq_true rfl) dX0_become_141 (fun H locs hP hD hS => ?_)
              have hP := cs_E7 hP
              refine lv_iconst (v := 1) hx hb dX0_become_144 (by decide) ?_
              obtain rfl := Option.some.inj hf
              exact W.zret (v := 1) (ty := .boolean) hx hb hr (by decide) (fun t ht hW => ⟨rfl, by rw [ht]; exact hP, hS.F ht⟩) hS.2.2 dX0_become_145
        · rw [if_neg c160] at hf
          refine lv_iconst (v := 0) hx hb dX0_become_42 (by decide) ?_
          obtain rfl := Option.some.inj hf
          exact W.zret (v := 0) (ty := .boolean) hx hb hr (by decide) (fun t ht hW => ⟨rfl, by rw [ht]; exact hP, hS.F ht⟩) hS.2.2 dX0_become_43
    · rw [if_neg c127] at hf
      refine lv_iload hx hb dX0_become_17 (lv_at hl 5 rfl) ?_
      refine lv_goto (tgt := 23) hx hb dX0_become_19 (by decide) ?_
      refine lv_istore (lv' := [(6, .int p3), (5, .int p2), (0, .ref (ad 40)), (1, .int p0), (2, .int p1), (3, .int p2), (4, .int p3)]) hx hb dX0_become_23 hl (by decide) rfl (fun ls hl => ?_)
      refine lv_iload_n hx hb dX0_become_25 rfl (lv_at hl 3 rfl) ?_
      refine lv_iconst (v := 1) hx hb dX0_become_26 (by decide) ?_
      refine lv_icmp_le (tgt := 44) hx hb dX0_become_27 (by decide) (fun c190 => ?_) (fun c190 => ?_)
      · rw [if_pos c190] at hf
        refine lv_aload_n hx hb dX0_become_44 rfl (lv_at hl 2 rfl) ?_
        refine lv_iload_n hx hb dX0_become_45 rfl (lv_at hl 3 rfl) ?_
        refine va_put (ci := 0) (v := .int p0) (ty := .int) (C := RX0) (T := TX0) (N := 8) hx hb hts (by decide +kernel) tyX0 tyX0_ok nmX0 hown hK hP (ww_D hj) hS 40 cc_ext rfl 0 (by decide) (hts (.fieldLink RX0 9 "NumberFieldFactors$Extension" "degree" "I") (by decide +kernel)) (fun _ h9 => h9) rfl (by decide +kernel) rfl rfl (Nat.le_of_ble_eq_true rfl) dX0_become_46 (fun H locs hP hD hS => ?_)
        have hP := cs_E0 hP
        refine lv_aload_n hx hb dX0_become_49 rfl (lv_at hl 2 rfl) ?_
        refine lv_iload_n hx hb dX0_become_50 rfl (lv_at hl 3 rfl) ?_
        refine lv_iconst (v := 1) hx hb dX0_become_51 (by decide) ?_
        refine lv_icmp_ne (tgt := 60) hx hb dX0_become_52 (by decide) (fun c191 => ?_) (fun c191 => ?_)
        · rw [if_neg c191] at hf
          refine lv_iload_n hx hb dX0_become_60 rfl (lv_at hl 3 rfl) ?_
          refine lv_iconst (v := 2) hx hb dX0_become_61 (by decide) ?_
          refine lv_icmp_ne (tgt := 71) hx hb dX0_become_62 (by decide) (fun c192 => ?_) (fun c192 => ?_)
          · rw [if_neg c192] at hf
            refine lv_ldc (v := 1030301) hx hb hown (hts (.constant RX0 40 (1030301)) (by decide +kernel)) dX0_become_71 ?_
            refine va_put (ci := 0) (v := .int 1030301) (ty := .int) (C := RX0) (T := TX0) (N := 8) hx hb hts (by decide +kernel) tyX0 tyX0_ok nmX0 hown hK hP (ww_D hj) hS 40 cc_ext rfl 1 (by decide) (hts (.fieldLink RX0 15 "NumberFieldFactors$Extension" "size" "I") (by decide +kernel)) (fun _ h9 => h9) rfl (by decide +kernel) rfl rfl (Nat.le_of_ble_eq_true rfl) dX0_become_73 (fun H locs hP hD hS => ?_)
            have hP := cs_E1 hP
            refine lv_aload_n hx hb dX0_become_76 rfl (lv_at hl 2 rfl) ?_
            refine lv_iload_n hx hb dX0_become_77 rfl (lv_at hl 4 rfl) ?_
            refine va_put (ci := 0) (v := .int p1) (ty := .int) (C := RX0) (T := TX0) (N := 8) hx hb hts (by decide +kernel) tyX0 tyX0_ok nmX0 hown hK hP (ww_D hj) hS 40 cc_ext rfl 2 (by decide) (hts (.fieldLink RX0 18 "NumberFieldFactors$Extension" "low0" "I") (by decide +kernel)) (fun _ h9 => h9) rfl (by decide +kernel) rfl rfl (Nat.le_of_ble_eq_true rfl) dX0_become_78 (fun H locs hP hD hS => ?_)
            have hP := cs_E2 hP
            refine lv_aload_n hx hb dX0_become_81 rfl (lv_at hl 2 rfl) ?_
            refine lv_iload hx hb dX0_become_82 (lv_at hl 1 rfl) ?_
            refine va_put (ci := 0) (v := .int p2) (ty := .int) (C := RX0) (T := TX0) (N := 8) hx hb hts (by decide +kernel) tyX0 tyX0_ok nmX0 hown hK hP (ww_D hj) hS 40 cc_ext rfl 3 (by decide) (hts (.fieldLink RX0 21 "NumberFieldFactors$Extension" "low1" "I") (by decide +kernel)) (fun _ h9 => h9) rfl (by decide +kernel) rfl rfl (Nat.le_of_ble_eq_true rfl) dX0_become_84 (fun H locs hP hD hS => ?_)
            have hP := cs_E3 hP
            refine lv_aload_n hx hb dX0_become_87 rfl (lv_at hl 2 rfl) ?_
            refine lv_iload hx hb dX0_become_88 (lv_at hl 0 rfl) ?_
            refine va_put (ci := 0) (v := .int p3) (ty := .int) (C := RX0) (T := TX0) (N := 8) hx hb hts (by decide +kernel) tyX0 tyX0_ok nmX0 hown hK hP (ww_D hj) hS 40 cc_ext rfl 4 (by decide) (hts (.fieldLink RX0 24 "NumberFieldFactors$Extension" "low2" "I") (by decide +kernel)) (fun _ h9 => h9) rfl (by decide +kernel) rfl rfl (Nat.le_of_ble_eq_true rfl) dX0_become_90 (fun H locs hP hD hS => ?_)
            have hP := cs_E4 hP
            refine lv_aload_n hx hb dX0_become_93 rfl (lv_at hl 2 rfl) ?_
            refine lv_iload_n hx hb dX0_become_94 rfl (lv_at hl 3 rfl) ?_
            refine lv_iconst (v := 1) hx hb dX0_become_95 (by decide) ?_
            refine lv_icmp_ne (tgt := 109) hx hb dX0_become_96 (by decide) (fun c193 => ?_) (fun c193 => ?_)
            · rw [if_neg c193] at hf
              refine lv_bipush (v := 101) hx hb dX0_become_109 (by decide) ?_
              refine va_put (ci := 0) (v := .int 101) (ty := .int) (C := RX0) (T := TX0) (N := 8) hx hb hts (by decide +kernel) tyX0 tyX0_ok nmX0 hown hK hP (ww_D hj) hS 40 cc_ext rfl 5 (by decide) (hts (.fieldLink RX0 27 "NumberFieldFactors$Extension" "t" "I") (by decide +kernel)) (fun _ h9 => h9) rfl (by decide +kernel) rfl rfl (Nat.le_of_ble_eq_true rfl) dX0_become_111 (fun H locs hP hD hS => ?_)
              have hP := cs_E5 hP
              refine lv_aload_n hx hb dX0_become_114 rfl (lv_at hl 2 rfl) ?_
              refine lv_aload_n hx hb dX0_become_115 rfl (lv_at hl 2 rfl) ?_
              refine lv_aload_n hx hb dX0_become_116 rfl (lv_at hl 2 rfl) ?_
              refine va_get (ci := 0) (v := .int ((va_up (va_up (va_up (va_up (va_up (va_up E 0 p0) 1 1030301) 2 p1) 3 p2) 4 p3) 5 101) 5)) (C := RX0) (T := TX0) (N := 8) hx hb hts (by decide +kernel) hown hK hP 40 cc_ext rfl 5 (by decide) (hts (.fieldLink RX0 27 "NumberFieldFactors$Extension" "t" "I") (by decide +kernel)) (fun _ h9 => h9) rfl dX0_become_117 ?_
              refine lv_bipush (v := 101) hx hb dX0_become_120 (by decide) ?_
              obtain ⟨u194, g195, hf⟩ := Option.bind_eq_some_iff.mp hf
              try dsimp only at hf
              refine ct_call (va_runV (As := [.int ((va_up (va_up (va_up (va_up (va_up (va_up E 0 p0) 1 1030301) 2 p1) 3 p2) 4 p3) 5 101) 5), .int 101]) (rest := [.ref (ad 40)]) ⟨hx, hb, hml, hown, hts⟩ (C_X0_power l D tys nw hn hnw hj htI htR (res := u194) g195) (cwV 2 hts gX0_become_X0_power rfl rfl rfl (by decide +kernel) ⟨Nat.le_of_ble_eq_true rfl, Nat.le_of_ble_eq_true rfl⟩) (ct_preV hn hP hK hN (ci := 0) (k := 40) rfl (by decide) rfl) rfl rfl hl.1 rfl (lv_room (Nat.le_of_ble_eq_true rfl)) dX0_become_122 ⟨Nat.zero_le _, Nat.zero_le _⟩) hS (fun H locs hP hS => ?_)
              refine va_put (ci := 0) (v := .int u194) (ty := .int) (C := RX0) (T := TX0) (N := 8) hx hb hts (by decide +kernel) tyX0 tyX0_ok nmX0 hown hK hP (ww_D hj) hS 40 cc_ext rfl 6 (by decide) (hts (.fieldLink RX0 30 "NumberFieldFactors$Extension" "mateOfT" "I") (by decide +kernel)) (fun _ h9 => h9) rfl (by decide +kernel) rfl rfl (Nat.le_of_ble_eq_true rfl) dX0_become_125 (fun H locs hP hD hS => ?_)
              have hP := cs_E6 hP
              refine lv_aload_n hx hb dX0_become_128 rfl (lv_at hl 2 rfl) ?_
              refine lv_aload_n hx hb dX0_become_129 rfl (lv_at hl 2 rfl) ?_
              refine lv_aload_n hx hb dX0_become_130 rfl (lv_at hl 2 rfl) ?_
              refine va_get (ci := 0) (v := .int ((va_up (va_up (va_up (va_up (va_up (va_up (va_up E 0 p0) 1 1030301) 2 p1) 3 p2) 4 p3) 5 101) 6 u194) 6)) (C := RX0) (T := TX0) (N := 8) hx hb hts (by decide +kernel) hown hK hP 40 cc_ext rfl 6 (by decide) (hts (.fieldLink RX0 30 "NumberFieldFactors$Extension" "mateOfT" "I") (by decide +kernel)) (fun _ h9 => h9) rfl dX0_become_131 ?_
              refine lv_aload_n hx hb dX0_become_134 rfl (lv_at hl 2 rfl) ?_
              refine va_get (ci := 0) (v := .int ((va_up (va_up (va_up (va_up (va_up (va_up (va_up E 0 p0) 1 1030301) 2 p1) 3 p2) 4 p3) 5 101) 6 u194) 6)) (C := RX0) (T := TX0) (N := 8) hx hb hts (by decide +kernel) hown hK hP 40 cc_ext rfl 6 (by decide) (hts (.fieldLink RX0 30 "NumberFieldFactors$Extension" "mateOfT" "I") (by decide +kernel)) (fun _ h9 => h9) rfl dX0_become_135 ?_
              obtain ⟨u196, g197, hf⟩ := Option.bind_eq_some_iff.mp hf
              try dsimp only at hf
              refine ct_call (va_runV (As := [.int ((va_up (va_up (va_up (va_up (va_up (va_up (va_up E 0 p0) 1 1030301) 2 p1) 3 p2) 4 p3) 5 101) 6 u194) 6), .int ((va_up (va_up (va_up (va_up (va_up (va_up (va_up E 0 p0) 1 1030301) 2 p1) 3 p2) 4 p3) 5 101) 6 u194) 6)]) (rest := [.ref (ad 40)]) ⟨hx, hb, hml, hown, hts⟩ (C_X0_times l D tys nw hn hnw hj htI htR (res := u196) g197) (cwV 2 hts gX0_become_X0_times rfl rfl rfl (by decide +kernel) ⟨Nat.le_of_ble_eq_true rfl, Nat.le_of_ble_eq_true rfl⟩) (ct_preV hn hP hK hN (ci := 0) (k := 40) rfl (by decide) rfl) rfl rfl hl.1 rfl (lv_room (Nat.le_of_ble_eq_true rfl)) dX0_become_138 ⟨Nat.zero_le _, Nat.zero_le _⟩) hS (fun H locs hP hS => ?_)
              refine va_put (ci := 0) (v := .int u196) (ty := .int) (C := RX0) (T := TX0) (N := 8) hx hb hts (by decide +kernel) tyX0 tyX0_ok nmX0 hown hK hP (ww_D hj) hS 40 cc_ext rfl 7 (by decide) (hts (.fieldLink RX0 33 "NumberFieldFactors$Extension" "mateOfTSquared" "I") (by decide +kernel)) (fun _ h9 => h9) rfl (by decide +kernel) rfl rfl (Nat.le_of_ble_eq_true rfl) dX0_become_141 (fun H locs hP hD hS => ?_)
              have hP := cs_E7 hP
              refine lv_iconst (v := 1) hx hb dX0_become_144 (by decide) ?_
              obtain rfl := Option.some.inj hf
              exact W.zret (v := 1) (ty := .boolean) hx hb hr (by decide) (fun t ht hW => ⟨rfl, by rw [ht]; exact hP, hS.F ht⟩) hS.2.2 dX0_become_145
            · rw [if_pos c193] at hf
              refine lv_bipush (v := 101) hx hb dX0_become_99 (by decide) ?_
              refine lv_iload_n hx hb dX0_become_101 rfl (lv_at hl 4 rfl) ?_
              refine lv_isub hx hb dX0_become_102 ?_
              refine lv_bipush (v := 101) hx hb dX0_become_103 (by decide) ?_
              refine jv_irem hx hb dX0_become_105 (by decide) ?_
              refine lv_goto (tgt := 111) hx hb dX0_become_106 (by decide) ?_
              refine va_put (ci := 0) (v := .int (jrem (101 - p1) 101)) (ty := .int) (C := RX0) (T := TX0) (N := 8) hx hb hts (by decide +kernel) tyX0 tyX0_ok nmX0 hown hK hP (ww_D hj) hS 40 cc_ext rfl 5 (by decide) (hts (.fieldLink RX0 27 "NumberFieldFactors$Extension" "t" "I") (by decide +kernel)) (fun _ h9 => h9) rfl (by decide +kernel) rfl rfl (Nat.le_of_ble_eq_true rfl) dX0_become_111 (fun H locs hP hD hS => ?_)
              have hP := cs_E5 hP
              refine lv_aload_n hx hb dX0_become_114 rfl (lv_at hl 2 rfl) ?_
              refine lv_aload_n hx hb dX0_become_115 rfl (lv_at hl 2 rfl) ?_
              refine lv_aload_n hx hb dX0_become_116 rfl (lv_at hl 2 rfl) ?_
              refine va_get (ci := 0) (v := .int ((va_up (va_up (va_up (va_up (va_up (va_up E 0 p0) 1 1030301) 2 p1) 3 p2) 4 p3) 5 (jrem (101 - p1) 101)) 5)) (C := RX0) (T := TX0) (N := 8) hx hb hts (by decide +kernel) hown hK hP 40 cc_ext rfl 5 (by decide) (hts (.fieldLink RX0 27 "NumberFieldFactors$Extension" "t" "I") (by decide +kernel)) (fun _ h9 => h9) rfl dX0_become_117 ?_
              refine lv_bipush (v := 101) hx hb dX0_become_120 (by decide) ?_
              obtain ⟨u198, g199, hf⟩ := Option.bind_eq_some_iff.mp hf
              try dsimp only at hf
              refine ct_call (va_runV (As := [.int ((va_up (va_up (va_up (va_up (va_up (va_up E 0 p0) 1 1030301) 2 p1) 3 p2) 4 p3) 5 (jrem (101 - p1) 101)) 5), .int 101]) (rest := [.ref (ad 40)]) ⟨hx, hb, hml, hown, hts⟩ (C_X0_power l D tys nw hn hnw hj htI htR (res := u198) g199) (cwV 2 hts gX0_become_X0_power rfl rfl rfl (by decide +kernel) ⟨Nat.le_of_ble_eq_true rfl, Nat.le_of_ble_eq_true rfl⟩) (ct_preV hn hP hK hN (ci := 0) (k := 40) rfl (by decide) rfl) rfl rfl hl.1 rfl (lv_room (Nat.le_of_ble_eq_true rfl)) dX0_become_122 ⟨Nat.zero_le _, Nat.zero_le _⟩) hS (fun H locs hP hS => ?_)
              refine va_put (ci := 0) (v := .int u198) (ty := .int) (C := RX0) (T := TX0) (N := 8) hx hb hts (by decide +kernel) tyX0 tyX0_ok nmX0 hown hK hP (ww_D hj) hS 40 cc_ext rfl 6 (by decide) (hts (.fieldLink RX0 30 "NumberFieldFactors$Extension" "mateOfT" "I") (by decide +kernel)) (fun _ h9 => h9) rfl (by decide +kernel) rfl rfl (Nat.le_of_ble_eq_true rfl) dX0_become_125 (fun H locs hP hD hS => ?_)
              have hP := cs_E6 hP
              refine lv_aload_n hx hb dX0_become_128 rfl (lv_at hl 2 rfl) ?_
              refine lv_aload_n hx hb dX0_become_129 rfl (lv_at hl 2 rfl) ?_
              refine lv_aload_n hx hb dX0_become_130 rfl (lv_at hl 2 rfl) ?_
              refine va_get (ci := 0) (v := .int ((va_up (va_up (va_up (va_up (va_up (va_up (va_up E 0 p0) 1 1030301) 2 p1) 3 p2) 4 p3) 5 (jrem (101 - p1) 101)) 6 u198) 6)) (C := RX0) (T := TX0) (N := 8) hx hb hts (by decide +kernel) hown hK hP 40 cc_ext rfl 6 (by decide) (hts (.fieldLink RX0 30 "NumberFieldFactors$Extension" "mateOfT" "I") (by decide +kernel)) (fun _ h9 => h9) rfl dX0_become_131 ?_
              refine lv_aload_n hx hb dX0_become_134 rfl (lv_at hl 2 rfl) ?_
              refine va_get (ci := 0) (v := .int ((va_up (va_up (va_up (va_up (va_up (va_up (va_up E 0 p0) 1 1030301) 2 p1) 3 p2) 4 p3) 5 (jrem (101 - p1) 101)) 6 u198) 6)) (C := RX0) (T := TX0) (N := 8) hx hb hts (by decide +kernel) hown hK hP 40 cc_ext rfl 6 (by decide) (hts (.fieldLink RX0 30 "NumberFieldFactors$Extension" "mateOfT" "I") (by decide +kernel)) (fun _ h9 => h9) rfl dX0_become_135 ?_
              obtain ⟨u200, g201, hf⟩ := Option.bind_eq_some_iff.mp hf
              try dsimp only at hf
              refine ct_call (va_runV (As := [.int ((va_up (va_up (va_up (va_up (va_up (va_up (va_up E 0 p0) 1 1030301) 2 p1) 3 p2) 4 p3) 5 (jrem (101 - p1) 101)) 6 u198) 6), .int ((va_up (va_up (va_up (va_up (va_up (va_up (va_up E 0 p0) 1 1030301) 2 p1) 3 p2) 4 p3) 5 (jrem (101 - p1) 101)) 6 u198) 6)]) (rest := [.ref (ad 40)]) ⟨hx, hb, hml, hown, hts⟩ (C_X0_times l D tys nw hn hnw hj htI htR (res := u200) g201) (cwV 2 hts gX0_become_X0_times rfl rfl rfl (by decide +kernel) ⟨Nat.le_of_ble_eq_true rfl, Nat.le_of_ble_eq_true rfl⟩) (ct_preV hn hP hK hN (ci := 0) (k := 40) rfl (by decide) rfl) rfl rfl hl.1 rfl (lv_room (Nat.le_of_ble_eq_true rfl)) dX0_become_138 ⟨Nat.zero_le _, Nat.zero_le _⟩) hS (fun H locs hP hS => ?_)
              refine va_put (ci := 0) (v := .int u200) (ty := .int) (C := RX0) (T := TX0) (N := 8) hx hb hts (by decide +kernel) tyX0 tyX0_ok nmX0 hown hK hP (ww_D hj) hS 40 cc_ext rfl 7 (by decide) (hts (.fieldLink RX0 33 "NumberFieldFactors$Extension" "mateOfTSquared" "I") (by decide +kernel)) (fun _ h9 => h9) rfl (by decide +kernel) rfl rfl (Nat.le_of_ble_eq_true rfl) dX0_become_141 (fun H locs hP hD hS => ?_)
              have hP := cs_E7 hP
              refine lv_iconst (v := 1) hx hb dX0_become_144 (by decide) ?_
              obtain rfl := Option.some.inj hf
              exact W.zret (v := 1) (ty := .boolean) hx hb hr (by decide) (fun t ht hW => ⟨rfl, by rw [ht]; exact hP, hS.F ht⟩) hS.2.2 dX0_become_145
          · rw [if_pos c192] at hf
            refine lv_sipush (v := 10201) hx hb dX0_become_65 (by decide) ?_
            refine lv_goto (tgt := 73) hx hb dX0_become_68 (by decide) ?_
            refine va_put (ci := 0) (v := .int 10201) (ty := .int) (C := RX0) (T := TX0) (N := 8) hx hb hts (by decide +kernel) tyX0 tyX0_ok nmX0 hown hK hP (ww_D hj) hS 40 cc_ext rfl 1 (by decide) (hts (.fieldLink RX0 15 "NumberFieldFactors$Extension" "size" "I") (by decide +kernel)) (fun _ h9 => h9) rfl (by decide +kernel) rfl rfl (Nat.le_of_ble_eq_true rfl) dX0_become_73 (fun H locs hP hD hS => ?_)
            have hP := cs_E1 hP
            refine lv_aload_n hx hb dX0_become_76 rfl (lv_at hl 2 rfl) ?_
            refine lv_iload_n hx hb dX0_become_77 rfl (lv_at hl 4 rfl) ?_
            refine va_put (ci := 0) (v := .int p1) (ty := .int) (C := RX0) (T := TX0) (N := 8) hx hb hts (by decide +kernel) tyX0 tyX0_ok nmX0 hown hK hP (ww_D hj) hS 40 cc_ext rfl 2 (by decide) (hts (.fieldLink RX0 18 "NumberFieldFactors$Extension" "low0" "I") (by decide +kernel)) (fun _ h9 => h9) rfl (by decide +kernel) rfl rfl (Nat.le_of_ble_eq_true rfl) dX0_become_78 (fun H locs hP hD hS => ?_)
            have hP := cs_E2 hP
            refine lv_aload_n hx hb dX0_become_81 rfl (lv_at hl 2 rfl) ?_
            refine lv_iload hx hb dX0_become_82 (lv_at hl 1 rfl) ?_
            refine va_put (ci := 0) (v := .int p2) (ty := .int) (C := RX0) (T := TX0) (N := 8) hx hb hts (by decide +kernel) tyX0 tyX0_ok nmX0 hown hK hP (ww_D hj) hS 40 cc_ext rfl 3 (by decide) (hts (.fieldLink RX0 21 "NumberFieldFactors$Extension" "low1" "I") (by decide +kernel)) (fun _ h9 => h9) rfl (by decide +kernel) rfl rfl (Nat.le_of_ble_eq_true rfl) dX0_become_84 (fun H locs hP hD hS => ?_)
            have hP := cs_E3 hP
            refine lv_aload_n hx hb dX0_become_87 rfl (lv_at hl 2 rfl) ?_
            refine lv_iload hx hb dX0_become_88 (lv_at hl 0 rfl) ?_
            refine va_put (ci := 0) (v := .int p3) (ty := .int) (C := RX0) (T := TX0) (N := 8) hx hb hts (by decide +kernel) tyX0 tyX0_ok nmX0 hown hK hP (ww_D hj) hS 40 cc_ext rfl 4 (by decide) (hts (.fieldLink RX0 24 "NumberFieldFactors$Extension" "low2" "I") (by decide +kernel)) (fun _ h9 => h9) rfl (by decide +kernel) rfl rfl (Nat.le_of_ble_eq_true rfl) dX0_become_90 (fun H locs hP hD hS => ?_)
            have hP := cs_E4 hP
            refine lv_aload_n hx hb dX0_become_93 rfl (lv_at hl 2 rfl) ?_
            refine lv_iload_n hx hb dX0_become_94 rfl (lv_at hl 3 rfl) ?_
            refine lv_iconst (v := 1) hx hb dX0_become_95 (by decide) ?_
            refine lv_icmp_ne (tgt := 109) hx hb dX0_become_96 (by decide) (fun c202 => ?_) (fun c202 => ?_)
            · rw [if_neg c202] at hf
              refine lv_bipush (v := 101) hx hb dX0_become_109 (by decide) ?_
              refine va_put (ci := 0) (v := .int 101) (ty := .int) (C := RX0) (T := TX0) (N := 8) hx hb hts (by decide +kernel) tyX0 tyX0_ok nmX0 hown hK hP (ww_D hj) hS 40 cc_ext rfl 5 (by decide) (hts (.fieldLink RX0 27 "NumberFieldFactors$Extension" "t" "I") (by decide +kernel)) (fun _ h9 => h9) rfl (by decide +kernel) rfl rfl (Nat.le_of_ble_eq_true rfl) dX0_become_111 (fun H locs hP hD hS => ?_)
              have hP := cs_E5 hP
              refine lv_aload_n hx hb dX0_become_114 rfl (lv_at hl 2 rfl) ?_
              refine lv_aload_n hx hb dX0_become_115 rfl (lv_at hl 2 rfl) ?_
              refine lv_aload_n hx hb dX0_become_116 rfl (lv_at hl 2 rfl) ?_
              refine va_get (ci := 0) (v := .int ((va_up (va_up (va_up (va_up (va_up (va_up E 0 p0) 1 10201) 2 p1) 3 p2) 4 p3) 5 101) 5)) (C := RX0) (T := TX0) (N := 8) hx hb hts (by decide +kernel) hown hK hP 40 cc_ext rfl 5 (by decide) (hts (.fieldLink RX0 27 "NumberFieldFactors$Extension" "t" "I") (by decide +kernel)) (fun _ h9 => h9) rfl dX0_become_117 ?_
              refine lv_bipush (v := 101) hx hb dX0_become_120 (by decide) ?_
              obtain ⟨u203, g204, hf⟩ := Option.bind_eq_some_iff.mp hf
              try dsimp only at hf
              refine ct_call (va_runV (As := [.int ((va_up (va_up (va_up (va_up (va_up (va_up E 0 p0) 1 10201) 2 p1) 3 p2) 4 p3) 5 101) 5), .int 101]) (rest := [.ref (ad 40)]) ⟨hx, hb, hml, hown, hts⟩ (C_X0_power l D tys nw hn hnw hj htI htR (res := u203) g204) (cwV 2 hts gX0_become_X0_power rfl rfl rfl (by decide +kernel) ⟨Nat.le_of_ble_eq_true rfl, Nat.le_of_ble_eq_true rfl⟩) (ct_preV hn hP hK hN (ci := 0) (k := 40) rfl (by decide) rfl) rfl rfl hl.1 rfl (lv_room (Nat.le_of_ble_eq_true rfl)) dX0_become_122 ⟨Nat.zero_le _, Nat.zero_le _⟩) hS (fun H locs hP hS => ?_)
              refine va_put (ci := 0) (v := .int u203) (ty := .int) (C := RX0) (T := TX0) (N := 8) hx hb hts (by decide +kernel) tyX0 tyX0_ok nmX0 hown hK hP (ww_D hj) hS 40 cc_ext rfl 6 (by decide) (hts (.fieldLink RX0 30 "NumberFieldFactors$Extension" "mateOfT" "I") (by decide +kernel)) (fun _ h9 => h9) rfl (by decide +kernel) rfl rfl (Nat.le_of_ble_eq_true rfl) dX0_become_125 (fun H locs hP hD hS => ?_)
              have hP := cs_E6 hP
              refine lv_aload_n hx hb dX0_become_128 rfl (lv_at hl 2 rfl) ?_
              refine lv_aload_n hx hb dX0_become_129 rfl (lv_at hl 2 rfl) ?_
              refine lv_aload_n hx hb dX0_become_130 rfl (lv_at hl 2 rfl) ?_
              refine va_get (ci := 0) (v := .int ((va_up (va_up (va_up (va_up (va_up (va_up (va_up E 0 p0) 1 10201) 2 p1) 3 p2) 4 p3) 5 101) 6 u203) 6)) (C := RX0) (T := TX0) (N := 8) hx hb hts (by decide +kernel) hown hK hP 40 cc_ext rfl 6 (by decide) (hts (.fieldLink RX0 30 "NumberFieldFactors$Extension" "mateOfT" "I") (by decide +kernel)) (fun _ h9 => h9) rfl dX0_become_131 ?_
              refine lv_aload_n hx hb dX0_become_134 rfl (lv_at hl 2 rfl) ?_
              refine va_get (ci := 0) (v := .int ((va_up (va_up (va_up (va_up (va_up (va_up (va_up E 0 p0) 1 10201) 2 p1) 3 p2) 4 p3) 5 101) 6 u203) 6)) (C := RX0) (T := TX0) (N := 8) hx hb hts (by decide +kernel) hown hK hP 40 cc_ext rfl 6 (by decide) (hts (.fieldLink RX0 30 "NumberFieldFactors$Extension" "mateOfT" "I") (by decide +kernel)) (fun _ h9 => h9) rfl dX0_become_135 ?_
              obtain ⟨u205, g206, hf⟩ := Option.bind_eq_some_iff.mp hf
              try dsimp only at hf
              refine ct_call (va_runV (As := [.int ((va_up (va_up (va_up (va_up (va_up (va_up (va_up E 0 p0) 1 10201) 2 p1) 3 p2) 4 p3) 5 101) 6 u203) 6), .int ((va_up (va_up (va_up (va_up (va_up (va_up (va_up E 0 p0) 1 10201) 2 p1) 3 p2) 4 p3) 5 101) 6 u203) 6)]) (rest := [.ref (ad 40)]) ⟨hx, hb, hml, hown, hts⟩ (C_X0_times l D tys nw hn hnw hj htI htR (res := u205) g206) (cwV 2 hts gX0_become_X0_times rfl rfl rfl (by decide +kernel) ⟨Nat.le_of_ble_eq_true rfl, Nat.le_of_ble_eq_true rfl⟩) (ct_preV hn hP hK hN (ci := 0) (k := 40) rfl (by decide) rfl) rfl rfl hl.1 rfl (lv_room (Nat.le_of_ble_eq_true rfl)) dX0_become_138 ⟨Nat.zero_le _, Nat.zero_le _⟩) hS (fun H locs hP hS => ?_)
              refine va_put (ci := 0) (v := .int u205) (ty := .int) (C := RX0) (T := TX0) (N := 8) hx hb hts (by decide +kernel) tyX0 tyX0_ok nmX0 hown hK hP (ww_D hj) hS 40 cc_ext rfl 7 (by decide) (hts (.fieldLink RX0 33 "NumberFieldFactors$Extension" "mateOfTSquared" "I") (by decide +kernel)) (fun _ h9 => h9) rfl (by decide +kernel) rfl rfl (Nat.le_of_ble_eq_true rfl) dX0_become_141 (fun H locs hP hD hS => ?_)
              have hP := cs_E7 hP
              refine lv_iconst (v := 1) hx hb dX0_become_144 (by decide) ?_
              obtain rfl := Option.some.inj hf
              exact W.zret (v := 1) (ty := .boolean) hx hb hr (by decide) (fun t ht hW => ⟨rfl, by rw [ht]; exact hP, hS.F ht⟩) hS.2.2 dX0_become_145
            · rw [if_pos c202] at hf
              refine lv_bipush (v := 101) hx hb dX0_become_99 (by decide) ?_
              refine lv_iload_n hx hb dX0_become_101 rfl (lv_at hl 4 rfl) ?_
              refine lv_isub hx hb dX0_become_102 ?_
              refine lv_bipush (v := 101) hx hb dX0_become_103 (by decide) ?_
              refine jv_irem hx hb dX0_become_105 (by decide) ?_
              refine lv_goto (tgt := 111) hx hb dX0_become_106 (by decide) ?_
              refine va_put (ci := 0) (v := .int (jrem (101 - p1) 101)) (ty := .int) (C := RX0) (T := TX0) (N := 8) hx hb hts (by decide +kernel) tyX0 tyX0_ok nmX0 hown hK hP (ww_D hj) hS 40 cc_ext rfl 5 (by decide) (hts (.fieldLink RX0 27 "NumberFieldFactors$Extension" "t" "I") (by decide +kernel)) (fun _ h9 => h9) rfl (by decide +kernel) rfl rfl (Nat.le_of_ble_eq_true rfl) dX0_become_111 (fun H locs hP hD hS => ?_)
              have hP := cs_E5 hP
              refine lv_aload_n hx hb dX0_become_114 rfl (lv_at hl 2 rfl) ?_
              refine lv_aload_n hx hb dX0_become_115 rfl (lv_at hl 2 rfl) ?_
              refine lv_aload_n hx hb dX0_become_116 rfl (lv_at hl 2 rfl) ?_
              refine va_get (ci := 0) (v := .int ((va_up (va_up (va_up (va_up (va_up (va_up E 0 p0) 1 10201) 2 p1) 3 p2) 4 p3) 5 (jrem (101 - p1) 101)) 5)) (C := RX0) (T := TX0) (N := 8) hx hb hts (by decide +kernel) hown hK hP 40 cc_ext rfl 5 (by decide) (hts (.fieldLink RX0 27 "NumberFieldFactors$Extension" "t" "I") (by decide +kernel)) (fun _ h9 => h9) rfl dX0_become_117 ?_
              refine lv_bipush (v := 101) hx hb dX0_become_120 (by decide) ?_
              obtain ⟨u207, g208, hf⟩ := Option.bind_eq_some_iff.mp hf
              try dsimp only at hf
              refine ct_call (va_runV (As := [.int ((va_up (va_up (va_up (va_up (va_up (va_up E 0 p0) 1 10201) 2 p1) 3 p2) 4 p3) 5 (jrem (101 - p1) 101)) 5), .int 101]) (rest := [.ref (ad 40)]) ⟨hx, hb, hml, hown, hts⟩ (C_X0_power l D tys nw hn hnw hj htI htR (res := u207) g208) (cwV 2 hts gX0_become_X0_power rfl rfl rfl (by decide +kernel) ⟨Nat.le_of_ble_eq_true rfl, Nat.le_of_ble_eq_true rfl⟩) (ct_preV hn hP hK hN (ci := 0) (k := 40) rfl (by decide) rfl) rfl rfl hl.1 rfl (lv_room (Nat.le_of_ble_eq_true rfl)) dX0_become_122 ⟨Nat.zero_le _, Nat.zero_le _⟩) hS (fun H locs hP hS => ?_)
              refine va_put (ci := 0) (v := .int u207) (ty := .int) (C := RX0) (T := TX0) (N := 8) hx hb hts (by decide +kernel) tyX0 tyX0_ok nmX0 hown hK hP (ww_D hj) hS 40 cc_ext rfl 6 (by decide) (hts (.fieldLink RX0 30 "NumberFieldFactors$Extension" "mateOfT" "I") (by decide +kernel)) (fun _ h9 => h9) rfl (by decide +kernel) rfl rfl (Nat.le_of_ble_eq_true rfl) dX0_become_125 (fun H locs hP hD hS => ?_)
              have hP := cs_E6 hP
              refine lv_aload_n hx hb dX0_become_128 rfl (lv_at hl 2 rfl) ?_
              refine lv_aload_n hx hb dX0_become_129 rfl (lv_at hl 2 rfl) ?_
              refine lv_aload_n hx hb dX0_become_130 rfl (lv_at hl 2 rfl) ?_
              refine va_get (ci := 0) (v := .int ((va_up (va_up (va_up (va_up (va_up (va_up (va_up E 0 p0) 1 10201) 2 p1) 3 p2) 4 p3) 5 (jrem (101 - p1) 101)) 6 u207) 6)) (C := RX0) (T := TX0) (N := 8) hx hb hts (by decide +kernel) hown hK hP 40 cc_ext rfl 6 (by decide) (hts (.fieldLink RX0 30 "NumberFieldFactors$Extension" "mateOfT" "I") (by decide +kernel)) (fun _ h9 => h9) rfl dX0_become_131 ?_
              refine lv_aload_n hx hb dX0_become_134 rfl (lv_at hl 2 rfl) ?_
              refine va_get (ci := 0) (v := .int ((va_up (va_up (va_up (va_up (va_up (va_up (va_up E 0 p0) 1 10201) 2 p1) 3 p2) 4 p3) 5 (jrem (101 - p1) 101)) 6 u207) 6)) (C := RX0) (T := TX0) (N := 8) hx hb hts (by decide +kernel) hown hK hP 40 cc_ext rfl 6 (by decide) (hts (.fieldLink RX0 30 "NumberFieldFactors$Extension" "mateOfT" "I") (by decide +kernel)) (fun _ h9 => h9) rfl dX0_become_135 ?_
              obtain ⟨u209, g210, hf⟩ := Option.bind_eq_some_iff.mp hf
              try dsimp only at hf
              refine ct_call (va_runV (As := [.int ((va_up (va_up (va_up (va_up (va_up (va_up (va_up E 0 p0) 1 10201) 2 p1) 3 p2) 4 p3) 5 (jrem (101 - p1) 101)) 6 u207) 6), .int ((va_up (va_up (va_up (va_up (va_up (va_up (va_up E 0 p0) 1 10201) 2 p1) 3 p2) 4 p3) 5 (jrem (101 - p1) 101)) 6 u207) 6)]) (rest := [.ref (ad 40)]) ⟨hx, hb, hml, hown, hts⟩ (C_X0_times l D tys nw hn hnw hj htI htR (res := u209) g210) (cwV 2 hts gX0_become_X0_times rfl rfl rfl (by decide +kernel) ⟨Nat.le_of_ble_eq_true rfl, Nat.le_of_ble_eq_true rfl⟩) (ct_preV hn hP hK hN (ci := 0) (k := 40) rfl (by decide) rfl) rfl rfl hl.1 rfl (lv_room (Nat.le_of_ble_eq_true rfl)) dX0_become_138 ⟨Nat.zero_le _, Nat.zero_le _⟩) hS (fun H locs hP hS => ?_)
              refine va_put (ci := 0) (v := .int u209) (ty := .int) (C := RX0) (T := TX0) (N := 8) hx hb hts (by decide +kernel) tyX0 tyX0_ok nmX0 hown hK hP (ww_D hj) hS 40 cc_ext rfl 7 (by decide) (hts (.fieldLink RX0 33 "NumberFieldFactors$Extension" "mateOfTSquared" "I") (by decide +kernel)) (fun _ h9 => h9) rfl (by decide +kernel) rfl rfl (Nat.le_of_ble_eq_true rfl) dX0_become_141 (fun H locs hP hD hS => ?_)
              have hP := cs_E7 hP
              refine lv_iconst (v := 1) hx hb dX0_become_144 (by decide) ?_
              obtain rfl := Option.some.inj hf
              exact W.zret (v := 1) (ty := .boolean) hx hb hr (by decide) (fun t ht hW => ⟨rfl, by rw [ht]; exact hP, hS.F ht⟩) hS.2.2 dX0_become_145
        · rw [if_pos c191] at hf
          refine lv_bipush (v := 101) hx hb dX0_become_55 (by decide) ?_
          refine lv_goto (tgt := 73) hx hb dX0_become_57 (by decide) ?_
          refine va_put (ci := 0) (v := .int 101) (ty := .int) (C := RX0) (T := TX0) (N := 8) hx hb hts (by decide +kernel) tyX0 tyX0_ok nmX0 hown hK hP (ww_D hj) hS 40 cc_ext rfl 1 (by decide) (hts (.fieldLink RX0 15 "NumberFieldFactors$Extension" "size" "I") (by decide +kernel)) (fun _ h9 => h9) rfl (by decide +kernel) rfl rfl (Nat.le_of_ble_eq_true rfl) dX0_become_73 (fun H locs hP hD hS => ?_)
          have hP := cs_E1 hP
          refine lv_aload_n hx hb dX0_become_76 rfl (lv_at hl 2 rfl) ?_
          refine lv_iload_n hx hb dX0_become_77 rfl (lv_at hl 4 rfl) ?_
          refine va_put (ci := 0) (v := .int p1) (ty := .int) (C := RX0) (T := TX0) (N := 8) hx hb hts (by decide +kernel) tyX0 tyX0_ok nmX0 hown hK hP (ww_D hj) hS 40 cc_ext rfl 2 (by decide) (hts (.fieldLink RX0 18 "NumberFieldFactors$Extension" "low0" "I") (by decide +kernel)) (fun _ h9 => h9) rfl (by decide +kernel) rfl rfl (Nat.le_of_ble_eq_true rfl) dX0_become_78 (fun H locs hP hD hS => ?_)
          have hP := cs_E2 hP
          refine lv_aload_n hx hb dX0_become_81 rfl (lv_at hl 2 rfl) ?_
          refine lv_iload hx hb dX0_become_82 (lv_at hl 1 rfl) ?_
          refine va_put (ci := 0) (v := .int p2) (ty := .int) (C := RX0) (T := TX0) (N := 8) hx hb hts (by decide +kernel) tyX0 tyX0_ok nmX0 hown hK hP (ww_D hj) hS 40 cc_ext rfl 3 (by decide) (hts (.fieldLink RX0 21 "NumberFieldFactors$Extension" "low1" "I") (by decide +kernel)) (fun _ h9 => h9) rfl (by decide +kernel) rfl rfl (Nat.le_of_ble_eq_true rfl) dX0_become_84 (fun H locs hP hD hS => ?_)
          have hP := cs_E3 hP
          refine lv_aload_n hx hb dX0_become_87 rfl (lv_at hl 2 rfl) ?_
          refine lv_iload hx hb dX0_become_88 (lv_at hl 0 rfl) ?_
          refine va_put (ci := 0) (v := .int p3) (ty := .int) (C := RX0) (T := TX0) (N := 8) hx hb hts (by decide +kernel) tyX0 tyX0_ok nmX0 hown hK hP (ww_D hj) hS 40 cc_ext rfl 4 (by decide) (hts (.fieldLink RX0 24 "NumberFieldFactors$Extension" "low2" "I") (by decide +kernel)) (fun _ h9 => h9) rfl (by decide +kernel) rfl rfl (Nat.le_of_ble_eq_true rfl) dX0_become_90 (fun H locs hP hD hS => ?_)
          have hP := cs_E4 hP
          refine lv_aload_n hx hb dX0_become_93 rfl (lv_at hl 2 rfl) ?_
          refine lv_iload_n hx hb dX0_become_94 rfl (lv_at hl 3 rfl) ?_
          refine lv_iconst (v := 1) hx hb dX0_become_95 (by decide) ?_
          refine lv_icmp_ne (tgt := 109) hx hb dX0_become_96 (by decide) (fun c211 => ?_) (fun c211 => ?_)
          · rw [if_neg c211] at hf
            refine lv_bipush (v := 101) hx hb dX0_become_109 (by decide) ?_
            refine va_put (ci := 0) (v := .int 101) (ty := .int) (C := RX0) (T := TX0) (N := 8) hx hb hts (by decide +kernel) tyX0 tyX0_ok nmX0 hown hK hP (ww_D hj) hS 40 cc_ext rfl 5 (by decide) (hts (.fieldLink RX0 27 "NumberFieldFactors$Extension" "t" "I") (by decide +kernel)) (fun _ h9 => h9) rfl (by decide +kernel) rfl rfl (Nat.le_of_ble_eq_true rfl) dX0_become_111 (fun H locs hP hD hS => ?_)
            have hP := cs_E5 hP
            refine lv_aload_n hx hb dX0_become_114 rfl (lv_at hl 2 rfl) ?_
            refine lv_aload_n hx hb dX0_become_115 rfl (lv_at hl 2 rfl) ?_
            refine lv_aload_n hx hb dX0_become_116 rfl (lv_at hl 2 rfl) ?_
            refine va_get (ci := 0) (v := .int ((va_up (va_up (va_up (va_up (va_up (va_up E 0 p0) 1 101) 2 p1) 3 p2) 4 p3) 5 101) 5)) (C := RX0) (T := TX0) (N := 8) hx hb hts (by decide +kernel) hown hK hP 40 cc_ext rfl 5 (by decide) (hts (.fieldLink RX0 27 "NumberFieldFactors$Extension" "t" "I") (by decide +kernel)) (fun _ h9 => h9) rfl dX0_become_117 ?_
            refine lv_bipush (v := 101) hx hb dX0_become_120 (by decide) ?_
            obtain ⟨u212, g213, hf⟩ := Option.bind_eq_some_iff.mp hf
            try dsimp only at hf
            refine ct_call (va_runV (As := [.int ((va_up (va_up (va_up (va_up (va_up (va_up E 0 p0) 1 101) 2 p1) 3 p2) 4 p3) 5 101) 5), .int 101]) (rest := [.ref (ad 40)]) ⟨hx, hb, hml, hown, hts⟩ (C_X0_power l D tys nw hn hnw hj htI htR (res := u212) g213) (cwV 2 hts gX0_become_X0_power rfl rfl rfl (by decide +kernel) ⟨Nat.le_of_ble_eq_true rfl, Nat.le_of_ble_eq_true rfl⟩) (ct_preV hn hP hK hN (ci := 0) (k := 40) rfl (by decide) rfl) rfl rfl hl.1 rfl (lv_room (Nat.le_of_ble_eq_true rfl)) dX0_become_122 ⟨Nat.zero_le _, Nat.zero_le _⟩) hS (fun H locs hP hS => ?_)
            refine va_put (ci := 0) (v := .int u212) (ty := .int) (C := RX0) (T := TX0) (N := 8) hx hb hts (by decide +kernel) tyX0 tyX0_ok nmX0 hown hK hP (ww_D hj) hS 40 cc_ext rfl 6 (by decide) (hts (.fieldLink RX0 30 "NumberFieldFactors$Extension" "mateOfT" "I") (by decide +kernel)) (fun _ h9 => h9) rfl (by decide +kernel) rfl rfl (Nat.le_of_ble_eq_true rfl) dX0_become_125 (fun H locs hP hD hS => ?_)
            have hP := cs_E6 hP
            refine lv_aload_n hx hb dX0_become_128 rfl (lv_at hl 2 rfl) ?_
            refine lv_aload_n hx hb dX0_become_129 rfl (lv_at hl 2 rfl) ?_
            refine lv_aload_n hx hb dX0_become_130 rfl (lv_at hl 2 rfl) ?_
            refine va_get (ci := 0) (v := .int ((va_up (va_up (va_up (va_up (va_up (va_up (va_up E 0 p0) 1 101) 2 p1) 3 p2) 4 p3) 5 101) 6 u212) 6)) (C := RX0) (T := TX0) (N := 8) hx hb hts (by decide +kernel) hown hK hP 40 cc_ext rfl 6 (by decide) (hts (.fieldLink RX0 30 "NumberFieldFactors$Extension" "mateOfT" "I") (by decide +kernel)) (fun _ h9 => h9) rfl dX0_become_131 ?_
            refine lv_aload_n hx hb dX0_become_134 rfl (lv_at hl 2 rfl) ?_
            refine va_get (ci := 0) (v := .int ((va_up (va_up (va_up (va_up (va_up (va_up (va_up E 0 p0) 1 101) 2 p1) 3 p2) 4 p3) 5 101) 6 u212) 6)) (C := RX0) (T := TX0) (N := 8) hx hb hts (by decide +kernel) hown hK hP 40 cc_ext rfl 6 (by decide) (hts (.fieldLink RX0 30 "NumberFieldFactors$Extension" "mateOfT" "I") (by decide +kernel)) (fun _ h9 => h9) rfl dX0_become_135 ?_
            obtain ⟨u214, g215, hf⟩ := Option.bind_eq_some_iff.mp hf
            try dsimp only at hf
            refine ct_call (va_runV (As := [.int ((va_up (va_up (va_up (va_up (va_up (va_up (va_up E 0 p0) 1 101) 2 p1) 3 p2) 4 p3) 5 101) 6 u212) 6), .int ((va_up (va_up (va_up (va_up (va_up (va_up (va_up E 0 p0) 1 101) 2 p1) 3 p2) 4 p3) 5 101) 6 u212) 6)]) (rest := [.ref (ad 40)]) ⟨hx, hb, hml, hown, hts⟩ (C_X0_times l D tys nw hn hnw hj htI htR (res := u214) g215) (cwV 2 hts gX0_become_X0_times rfl rfl rfl (by decide +kernel) ⟨Nat.le_of_ble_eq_true rfl, Nat.le_of_ble_eq_true rfl⟩) (ct_preV hn hP hK hN (ci := 0) (k := 40) rfl (by decide) rfl) rfl rfl hl.1 rfl (lv_room (Nat.le_of_ble_eq_true rfl)) dX0_become_138 ⟨Nat.zero_le _, Nat.zero_le _⟩) hS (fun H locs hP hS => ?_)
            refine va_put (ci := 0) (v := .int u214) (ty := .int) (C := RX0) (T := TX0) (N := 8) hx hb hts (by decide +kernel) tyX0 tyX0_ok nmX0 hown hK hP (ww_D hj) hS 40 cc_ext rfl 7 (by decide) (hts (.fieldLink RX0 33 "NumberFieldFactors$Extension" "mateOfTSquared" "I") (by decide +kernel)) (fun _ h9 => h9) rfl (by decide +kernel) rfl rfl (Nat.le_of_ble_eq_true rfl) dX0_become_141 (fun H locs hP hD hS => ?_)
            have hP := cs_E7 hP
            refine lv_iconst (v := 1) hx hb dX0_become_144 (by decide) ?_
            obtain rfl := Option.some.inj hf
            exact W.zret (v := 1) (ty := .boolean) hx hb hr (by decide) (fun t ht hW => ⟨rfl, by rw [ht]; exact hP, hS.F ht⟩) hS.2.2 dX0_become_145
          · rw [if_pos c211] at hf
            refine lv_bipush (v := 101) hx hb dX0_become_99 (by decide) ?_
            refine lv_iload_n hx hb dX0_become_101 rfl (lv_at hl 4 rfl) ?_
            refine lv_isub hx hb dX0_become_102 ?_
            refine lv_bipush (v := 101) hx hb dX0_become_103 (by decide) ?_
            refine jv_irem hx hb dX0_become_105 (by decide) ?_
            refine lv_goto (tgt := 111) hx hb dX0_become_106 (by decide) ?_
            refine va_put (ci := 0) (v := .int (jrem (101 - p1) 101)) (ty := .int) (C := RX0) (T := TX0) (N := 8) hx hb hts (by decide +kernel) tyX0 tyX0_ok nmX0 hown hK hP (ww_D hj) hS 40 cc_ext rfl 5 (by decide) (hts (.fieldLink RX0 27 "NumberFieldFactors$Extension" "t" "I") (by decide +kernel)) (fun _ h9 => h9) rfl (by decide +kernel) rfl rfl (Nat.le_of_ble_eq_true rfl) dX0_become_111 (fun H locs hP hD hS => ?_)
            have hP := cs_E5 hP
            refine lv_aload_n hx hb dX0_become_114 rfl (lv_at hl 2 rfl) ?_
            refine lv_aload_n hx hb dX0_become_115 rfl (lv_at hl 2 rfl) ?_
            refine lv_aload_n hx hb dX0_become_116 rfl (lv_at hl 2 rfl) ?_
            refine va_get (ci := 0) (v := .int ((va_up (va_up (va_up (va_up (va_up (va_up E 0 p0) 1 101) 2 p1) 3 p2) 4 p3) 5 (jrem (101 - p1) 101)) 5)) (C := RX0) (T := TX0) (N := 8) hx hb hts (by decide +kernel) hown hK hP 40 cc_ext rfl 5 (by decide) (hts (.fieldLink RX0 27 "NumberFieldFactors$Extension" "t" "I") (by decide +kernel)) (fun _ h9 => h9) rfl dX0_become_117 ?_
            refine lv_bipush (v := 101) hx hb dX0_become_120 (by decide) ?_
            obtain ⟨u216, g217, hf⟩ := Option.bind_eq_some_iff.mp hf
            try dsimp only at hf
            refine ct_call (va_runV (As := [.int ((va_up (va_up (va_up (va_up (va_up (va_up E 0 p0) 1 101) 2 p1) 3 p2) 4 p3) 5 (jrem (101 - p1) 101)) 5), .int 101]) (rest := [.ref (ad 40)]) ⟨hx, hb, hml, hown, hts⟩ (C_X0_power l D tys nw hn hnw hj htI htR (res := u216) g217) (cwV 2 hts gX0_become_X0_power rfl rfl rfl (by decide +kernel) ⟨Nat.le_of_ble_eq_true rfl, Nat.le_of_ble_eq_true rfl⟩) (ct_preV hn hP hK hN (ci := 0) (k := 40) rfl (by decide) rfl) rfl rfl hl.1 rfl (lv_room (Nat.le_of_ble_eq_true rfl)) dX0_become_122 ⟨Nat.zero_le _, Nat.zero_le _⟩) hS (fun H locs hP hS => ?_)
            refine va_put (ci := 0) (v := .int u216) (ty := .int) (C := RX0) (T := TX0) (N := 8) hx hb hts (by decide +kernel) tyX0 tyX0_ok nmX0 hown hK hP (ww_D hj) hS 40 cc_ext rfl 6 (by decide) (hts (.fieldLink RX0 30 "NumberFieldFactors$Extension" "mateOfT" "I") (by decide +kernel)) (fun _ h9 => h9) rfl (by decide +kernel) rfl rfl (Nat.le_of_ble_eq_true rfl) dX0_become_125 (fun H locs hP hD hS => ?_)
            have hP := cs_E6 hP
            refine lv_aload_n hx hb dX0_become_128 rfl (lv_at hl 2 rfl) ?_
            refine lv_aload_n hx hb dX0_become_129 rfl (lv_at hl 2 rfl) ?_
            refine lv_aload_n hx hb dX0_become_130 rfl (lv_at hl 2 rfl) ?_
            refine va_get (ci := 0) (v := .int ((va_up (va_up (va_up (va_up (va_up (va_up (va_up E 0 p0) 1 101) 2 p1) 3 p2) 4 p3) 5 (jrem (101 - p1) 101)) 6 u216) 6)) (C := RX0) (T := TX0) (N := 8) hx hb hts (by decide +kernel) hown hK hP 40 cc_ext rfl 6 (by decide) (hts (.fieldLink RX0 30 "NumberFieldFactors$Extension" "mateOfT" "I") (by decide +kernel)) (fun _ h9 => h9) rfl dX0_become_131 ?_
            refine lv_aload_n hx hb dX0_become_134 rfl (lv_at hl 2 rfl) ?_
            refine va_get (ci := 0) (v := .int ((va_up (va_up (va_up (va_up (va_up (va_up (va_up E 0 p0) 1 101) 2 p1) 3 p2) 4 p3) 5 (jrem (101 - p1) 101)) 6 u216) 6)) (C := RX0) (T := TX0) (N := 8) hx hb hts (by decide +kernel) hown hK hP 40 cc_ext rfl 6 (by decide) (hts (.fieldLink RX0 30 "NumberFieldFactors$Extension" "mateOfT" "I") (by decide +kernel)) (fun _ h9 => h9) rfl dX0_become_135 ?_
            obtain ⟨u218, g219, hf⟩ := Option.bind_eq_some_iff.mp hf
            try dsimp only at hf
            refine ct_call (va_runV (As := [.int ((va_up (va_up (va_up (va_up (va_up (va_up (va_up E 0 p0) 1 101) 2 p1) 3 p2) 4 p3) 5 (jrem (101 - p1) 101)) 6 u216) 6), .int ((va_up (va_up (va_up (va_up (va_up (va_up (va_up E 0 p0) 1 101) 2 p1) 3 p2) 4 p3) 5 (jrem (101 - p1) 101)) 6 u216) 6)]) (rest := [.ref (ad 40)]) ⟨hx, hb, hml, hown, hts⟩ (C_X0_times l D tys nw hn hnw hj htI htR (res := u218) g219) (cwV 2 hts gX0_become_X0_times rfl rfl rfl (by decide +kernel) ⟨Nat.le_of_ble_eq_true rfl, Nat.le_of_ble_eq_true rfl⟩) (ct_preV hn hP hK hN (ci := 0) (k := 40) rfl (by decide) rfl) rfl rfl hl.1 rfl (lv_room (Nat.le_of_ble_eq_true rfl)) dX0_become_138 ⟨Nat.zero_le _, Nat.zero_le _⟩) hS (fun H locs hP hS => ?_)
            refine va_put (ci := 0) (v := .int u218) (ty := .int) (C := RX0) (T := TX0) (N := 8) hx hb hts (by decide +kernel) tyX0 tyX0_ok nmX0 hown hK hP (ww_D hj) hS 40 cc_ext rfl 7 (by decide) (hts (.fieldLink RX0 33 "NumberFieldFactors$Extension" "mateOfTSquared" "I") (by decide +kernel)) (fun _ h9 => h9) rfl (by decide +kernel) rfl rfl (Nat.le_of_ble_eq_true rfl) dX0_become_141 (fun H locs hP hD hS => ?_)
            have hP := cs_E7 hP
            refine lv_iconst (v := 1) hx hb dX0_become_144 (by decide) ?_
            obtain rfl := Option.some.inj hf
            exact W.zret (v := 1) (ty := .boolean) hx hb hr (by decide) (fun t ht hW => ⟨rfl, by rw [ht]; exact hP, hS.F ht⟩) hS.2.2 dX0_become_145
      · rw [if_neg c190] at hf
        refine lv_iload_n hx hb dX0_become_30 rfl (lv_at hl 3 rfl) ?_
        refine lv_iload_n hx hb dX0_become_31 rfl (lv_at hl 4 rfl) ?_
        refine lv_iload hx hb dX0_become_32 (lv_at hl 1 rfl) ?_
        refine lv_iload hx hb dX0_become_34 (lv_at hl 0 rfl) ?_
        obtain ⟨u220, g221, hf⟩ := Option.bind_eq_some_iff.mp hf
        try dsimp only at hf
        refine ct_call (va_runS (As := [.int p0, .int p1, .int p2, .int p3]) (rest := []) ⟨hx, hb, hml, hown, hts⟩ (C_X0_hasRoot l D tys nw hn hnw hj htI htR (res := u220) g221) (cwS 4 hts gX0_become_X0_hasRoot rfl rfl rfl (by decide +kernel) ⟨Nat.le_of_ble_eq_true rfl, Nat.le_of_ble_eq_true rfl⟩) (ct_preS hn hP hK hN) rfl rfl hl.1 rfl (lv_room (Nat.le_of_ble_eq_true rfl)) dX0_become_36 ⟨Nat.zero_le _, Nat.zero_le _⟩) hS (fun H locs hP hS => ?_)
        refine lv_if_eq (tgt := 44) hx hb dX0_become_39 (by decide) (fun c222 => ?_) (fun c222 => ?_)
        · rw [if_pos c222] at hf
          refine lv_aload_n hx hb dX0_become_44 rfl (lv_at hl 2 rfl) ?_
          refine lv_iload_n hx hb dX0_become_45 rfl (lv_at hl 3 rfl) ?_
          refine va_put (ci := 0) (v := .int p0) (ty := .int) (C := RX0) (T := TX0) (N := 8) hx hb hts (by decide +kernel) tyX0 tyX0_ok nmX0 hown hK hP (ww_D hj) hS 40 cc_ext rfl 0 (by decide) (hts (.fieldLink RX0 9 "NumberFieldFactors$Extension" "degree" "I") (by decide +kernel)) (fun _ h9 => h9) rfl (by decide +kernel) rfl rfl (Nat.le_of_ble_eq_true rfl) dX0_become_46 (fun H locs hP hD hS => ?_)
          have hP := cs_E0 hP
          refine lv_aload_n hx hb dX0_become_49 rfl (lv_at hl 2 rfl) ?_
          refine lv_iload_n hx hb dX0_become_50 rfl (lv_at hl 3 rfl) ?_
          refine lv_iconst (v := 1) hx hb dX0_become_51 (by decide) ?_
          refine lv_icmp_ne (tgt := 60) hx hb dX0_become_52 (by decide) (fun c223 => ?_) (fun c223 => ?_)
          · rw [if_neg c223] at hf
            refine lv_iload_n hx hb dX0_become_60 rfl (lv_at hl 3 rfl) ?_
            refine lv_iconst (v := 2) hx hb dX0_become_61 (by decide) ?_
            refine lv_icmp_ne (tgt := 71) hx hb dX0_become_62 (by decide) (fun c224 => ?_) (fun c224 => ?_)
            · rw [if_neg c224] at hf
              refine lv_ldc (v := 1030301) hx hb hown (hts (.constant RX0 40 (1030301)) (by decide +kernel)) dX0_become_71 ?_
              refine va_put (ci := 0) (v := .int 1030301) (ty := .int) (C := RX0) (T := TX0) (N := 8) hx hb hts (by decide +kernel) tyX0 tyX0_ok nmX0 hown hK hP (ww_D hj) hS 40 cc_ext rfl 1 (by decide) (hts (.fieldLink RX0 15 "NumberFieldFactors$Extension" "size" "I") (by decide +kernel)) (fun _ h9 => h9) rfl (by decide +kernel) rfl rfl (Nat.le_of_ble_eq_true rfl) dX0_become_73 (fun H locs hP hD hS => ?_)
              have hP := cs_E1 hP
              refine lv_aload_n hx hb dX0_become_76 rfl (lv_at hl 2 rfl) ?_
              refine lv_iload_n hx hb dX0_become_77 rfl (lv_at hl 4 rfl) ?_
              refine va_put (ci := 0) (v := .int p1) (ty := .int) (C := RX0) (T := TX0) (N := 8) hx hb hts (by decide +kernel) tyX0 tyX0_ok nmX0 hown hK hP (ww_D hj) hS 40 cc_ext rfl 2 (by decide) (hts (.fieldLink RX0 18 "NumberFieldFactors$Extension" "low0" "I") (by decide +kernel)) (fun _ h9 => h9) rfl (by decide +kernel) rfl rfl (Nat.le_of_ble_eq_true rfl) dX0_become_78 (fun H locs hP hD hS => ?_)
              have hP := cs_E2 hP
              refine lv_aload_n hx hb dX0_become_81 rfl (lv_at hl 2 rfl) ?_
              refine lv_iload hx hb dX0_become_82 (lv_at hl 1 rfl) ?_
              refine va_put (ci := 0) (v := .int p2) (ty := .int) (C := RX0) (T := TX0) (N := 8) hx hb hts (by decide +kernel) tyX0 tyX0_ok nmX0 hown hK hP (ww_D hj) hS 40 cc_ext rfl 3 (by decide) (hts (.fieldLink RX0 21 "NumberFieldFactors$Extension" "low1" "I") (by decide +kernel)) (fun _ h9 => h9) rfl (by decide +kernel) rfl rfl (Nat.le_of_ble_eq_true rfl) dX0_become_84 (fun H locs hP hD hS => ?_)
              have hP := cs_E3 hP
              refine lv_aload_n hx hb dX0_become_87 rfl (lv_at hl 2 rfl) ?_
              refine lv_iload hx hb dX0_become_88 (lv_at hl 0 rfl) ?_
              refine va_put (ci := 0) (v := .int p3) (ty := .int) (C := RX0) (T := TX0) (N := 8) hx hb hts (by decide +kernel) tyX0 tyX0_ok nmX0 hown hK hP (ww_D hj) hS 40 cc_ext rfl 4 (by decide) (hts (.fieldLink RX0 24 "NumberFieldFactors$Extension" "low2" "I") (by decide +kernel)) (fun _ h9 => h9) rfl (by decide +kernel) rfl rfl (Nat.le_of_ble_eq_true rfl) dX0_become_90 (fun H locs hP hD hS => ?_)
              have hP := cs_E4 hP
              refine lv_aload_n hx hb dX0_become_93 rfl (lv_at hl 2 rfl) ?_
              refine lv_iload_n hx hb dX0_become_94 rfl (lv_at hl 3 rfl) ?_
              refine lv_iconst (v := 1) hx hb dX0_become_95 (by decide) ?_
              refine lv_icmp_ne (tgt := 109) hx hb dX0_become_96 (by decide) (fun c225 => ?_) (fun c225 => ?_)
              · rw [if_neg c225] at hf
                refine lv_bipush (v := 101) hx hb dX0_become_109 (by decide) ?_
                refine va_put (ci := 0) (v := .int 101) (ty := .int) (C := RX0) (T := TX0) (N := 8) hx hb hts (by decide +kernel) tyX0 tyX0_ok nmX0 hown hK hP (ww_D hj) hS 40 cc_ext rfl 5 (by decide) (hts (.fieldLink RX0 27 "NumberFieldFactors$Extension" "t" "I") (by decide +kernel)) (fun _ h9 => h9) rfl (by decide +kernel) rfl rfl (Nat.le_of_ble_eq_true rfl) dX0_become_111 (fun H locs hP hD hS => ?_)
                have hP := cs_E5 hP
                refine lv_aload_n hx hb dX0_become_114 rfl (lv_at hl 2 rfl) ?_
                refine lv_aload_n hx hb dX0_become_115 rfl (lv_at hl 2 rfl) ?_
                refine lv_aload_n hx hb dX0_become_116 rfl (lv_at hl 2 rfl) ?_
                refine va_get (ci := 0) (v := .int ((va_up (va_up (va_up (va_up (va_up (va_up E 0 p0) 1 1030301) 2 p1) 3 p2) 4 p3) 5 101) 5)) (C := RX0) (T := TX0) (N := 8) hx hb hts (by decide +kernel) hown hK hP 40 cc_ext rfl 5 (by decide) (hts (.fieldLink RX0 27 "NumberFieldFactors$Extension" "t" "I") (by decide +kernel)) (fun _ h9 => h9) rfl dX0_become_117 ?_
                refine lv_bipush (v := 101) hx hb dX0_become_120 (by decide) ?_
                obtain ⟨u226, g227, hf⟩ := Option.bind_eq_some_iff.mp hf
                try dsimp only at hf
                refine ct_call (va_runV (As := [.int ((va_up (va_up (va_up (va_up (va_up (va_up E 0 p0) 1 1030301) 2 p1) 3 p2) 4 p3) 5 101) 5), .int 101]) (rest := [.ref (ad 40)]) ⟨hx, hb, hml, hown, hts⟩ (C_X0_power l D tys nw hn hnw hj htI htR (res := u226) g227) (cwV 2 hts gX0_become_X0_power rfl rfl rfl (by decide +kernel) ⟨Nat.le_of_ble_eq_true rfl, Nat.le_of_ble_eq_true rfl⟩) (ct_preV hn hP hK hN (ci := 0) (k := 40) rfl (by decide) rfl) rfl rfl hl.1 rfl (lv_room (Nat.le_of_ble_eq_true rfl)) dX0_become_122 ⟨Nat.zero_le _, Nat.zero_le _⟩) hS (fun H locs hP hS => ?_)
                refine va_put (ci := 0) (v := .int u226) (ty := .int) (C := RX0) (T := TX0) (N := 8) hx hb hts (by decide +kernel) tyX0 tyX0_ok nmX0 hown hK hP (ww_D hj) hS 40 cc_ext rfl 6 (by decide) (hts (.fieldLink RX0 30 "NumberFieldFactors$Extension" "mateOfT" "I") (by decide +kernel)) (fun _ h9 => h9) rfl (by decide +kernel) rfl rfl (Nat.le_of_ble_eq_true rfl) dX0_become_125 (fun H locs hP hD hS => ?_)
                have hP := cs_E6 hP
                refine lv_aload_n hx hb dX0_become_128 rfl (lv_at hl 2 rfl) ?_
                refine lv_aload_n hx hb dX0_become_129 rfl (lv_at hl 2 rfl) ?_
                refine lv_aload_n hx hb dX0_become_130 rfl (lv_at hl 2 rfl) ?_
                refine va_get (ci := 0) (v := .int ((va_up (va_up (va_up (va_up (va_up (va_up (va_up E 0 p0) 1 1030301) 2 p1) 3 p2) 4 p3) 5 101) 6 u226) 6)) (C := RX0) (T := TX0) (N := 8) hx hb hts (by decide +kernel) hown hK hP 40 cc_ext rfl 6 (by decide) (hts (.fieldLink RX0 30 "NumberFieldFactors$Extension" "mateOfT" "I") (by decide +kernel)) (fun _ h9 => h9) rfl dX0_become_131 ?_
                refine lv_aload_n hx hb dX0_become_134 rfl (lv_at hl 2 rfl) ?_
                refine va_get (ci := 0) (v := .int ((va_up (va_up (va_up (va_up (va_up (va_up (va_up E 0 p0) 1 1030301) 2 p1) 3 p2) 4 p3) 5 101) 6 u226) 6)) (C := RX0) (T := TX0) (N := 8) hx hb hts (by decide +kernel) hown hK hP 40 cc_ext rfl 6 (by decide) (hts (.fieldLink RX0 30 "NumberFieldFactors$Extension" "mateOfT" "I") (by decide +kernel)) (fun _ h9 => h9) rfl dX0_become_135 ?_
                obtain ⟨u228, g229, hf⟩ := Option.bind_eq_some_iff.mp hf
                try dsimp only at hf
                refine ct_call (va_runV (As := [.int ((va_up (va_up (va_up (va_up (va_up (va_up (va_up E 0 p0) 1 1030301) 2 p1) 3 p2) 4 p3) 5 101) 6 u226) 6), .int ((va_up (va_up (va_up (va_up (va_up (va_up (va_up E 0 p0) 1 1030301) 2 p1) 3 p2) 4 p3) 5 101) 6 u226) 6)]) (rest := [.ref (ad 40)]) ⟨hx, hb, hml, hown, hts⟩ (C_X0_times l D tys nw hn hnw hj htI htR (res := u228) g229) (cwV 2 hts gX0_become_X0_times rfl rfl rfl (by decide +kernel) ⟨Nat.le_of_ble_eq_true rfl, Nat.le_of_ble_eq_true rfl⟩) (ct_preV hn hP hK hN (ci := 0) (k := 40) rfl (by decide) rfl) rfl rfl hl.1 rfl (lv_room (Nat.le_of_ble_eq_true rfl)) dX0_become_138 ⟨Nat.zero_le _, Nat.zero_le _⟩) hS (fun H locs hP hS => ?_)
                refine va_put (ci := 0) (v := .int u228) (ty := .int) (C := RX0) (T := TX0) (N := 8) hx hb hts (by decide +kernel) tyX0 tyX0_ok nmX0 hown hK hP (ww_D hj) hS 40 cc_ext rfl 7 (by decide) (hts (.fieldLink RX0 33 "NumberFieldFactors$Extension" "mateOfTSquared" "I") (by decide +kernel)) (fun _ h9 => h9) rfl (by decide +kernel) rfl rfl (Nat.le_of_ble_eq_true rfl) dX0_become_141 (fun H locs hP hD hS => ?_)
                have hP := cs_E7 hP
                refine lv_iconst (v := 1) hx hb dX0_become_144 (by decide) ?_
                obtain rfl := Option.some.inj hf
                exact W.zret (v := 1) (ty := .boolean) hx hb hr (by decide) (fun t ht hW => ⟨rfl, by rw [ht]; exact hP, hS.F ht⟩) hS.2.2 dX0_become_145
              · rw [if_pos c225] at hf
                refine lv_bipush (v := 101) hx hb dX0_become_99 (by decide) ?_
                refine lv_iload_n hx hb dX0_become_101 rfl (lv_at hl 4 rfl) ?_
                refine lv_isub hx hb dX0_become_102 ?_
                refine lv_bipush (v := 101) hx hb dX0_become_103 (by decide) ?_
                refine jv_irem hx hb dX0_become_105 (by decide) ?_
                refine lv_goto (tgt := 111) hx hb dX0_become_106 (by decide) ?_
                refine va_put (ci := 0) (v := .int (jrem (101 - p1) 101)) (ty := .int) (C := RX0) (T := TX0) (N := 8) hx hb hts (by decide +kernel) tyX0 tyX0_ok nmX0 hown hK hP (ww_D hj) hS 40 cc_ext rfl 5 (by decide) (hts (.fieldLink RX0 27 "NumberFieldFactors$Extension" "t" "I") (by decide +kernel)) (fun _ h9 => h9) rfl (by decide +kernel) rfl rfl (Nat.le_of_ble_eq_true rfl) dX0_become_111 (fun H locs hP hD hS => ?_)
                have hP := cs_E5 hP
                refine lv_aload_n hx hb dX0_become_114 rfl (lv_at hl 2 rfl) ?_
                refine lv_aload_n hx hb dX0_become_115 rfl (lv_at hl 2 rfl) ?_
                refine lv_aload_n hx hb dX0_become_116 rfl (lv_at hl 2 rfl) ?_
                refine va_get (ci := 0) (v := .int ((va_up (va_up (va_up (va_up (va_up (va_up E 0 p0) 1 1030301) 2 p1) 3 p2) 4 p3) 5 (jrem (101 - p1) 101)) 5)) (C := RX0) (T := TX0) (N := 8) hx hb hts (by decide +kernel) hown hK hP 40 cc_ext rfl 5 (by decide) (hts (.fieldLink RX0 27 "NumberFieldFactors$Extension" "t" "I") (by decide +kernel)) (fun _ h9 => h9) rfl dX0_become_117 ?_
                refine lv_bipush (v := 101) hx hb dX0_become_120 (by decide) ?_
                obtain ⟨u230, g231, hf⟩ := Option.bind_eq_some_iff.mp hf
                try dsimp only at hf
                refine ct_call (va_runV (As := [.int ((va_up (va_up (va_up (va_up (va_up (va_up E 0 p0) 1 1030301) 2 p1) 3 p2) 4 p3) 5 (jrem (101 - p1) 101)) 5), .int 101]) (rest := [.ref (ad 40)]) ⟨hx, hb, hml, hown, hts⟩ (C_X0_power l D tys nw hn hnw hj htI htR (res := u230) g231) (cwV 2 hts gX0_become_X0_power rfl rfl rfl (by decide +kernel) ⟨Nat.le_of_ble_eq_true rfl, Nat.le_of_ble_eq_true rfl⟩) (ct_preV hn hP hK hN (ci := 0) (k := 40) rfl (by decide) rfl) rfl rfl hl.1 rfl (lv_room (Nat.le_of_ble_eq_true rfl)) dX0_become_122 ⟨Nat.zero_le _, Nat.zero_le _⟩) hS (fun H locs hP hS => ?_)
                refine va_put (ci := 0) (v := .int u230) (ty := .int) (C := RX0) (T := TX0) (N := 8) hx hb hts (by decide +kernel) tyX0 tyX0_ok nmX0 hown hK hP (ww_D hj) hS 40 cc_ext rfl 6 (by decide) (hts (.fieldLink RX0 30 "NumberFieldFactors$Extension" "mateOfT" "I") (by decide +kernel)) (fun _ h9 => h9) rfl (by decide +kernel) rfl rfl (Nat.le_of_ble_eq_true rfl) dX0_become_125 (fun H locs hP hD hS => ?_)
                have hP := cs_E6 hP
                refine lv_aload_n hx hb dX0_become_128 rfl (lv_at hl 2 rfl) ?_
                refine lv_aload_n hx hb dX0_become_129 rfl (lv_at hl 2 rfl) ?_
                refine lv_aload_n hx hb dX0_become_130 rfl (lv_at hl 2 rfl) ?_
                refine va_get (ci := 0) (v := .int ((va_up (va_up (va_up (va_up (va_up (va_up (va_up E 0 p0) 1 1030301) 2 p1) 3 p2) 4 p3) 5 (jrem (101 - p1) 101)) 6 u230) 6)) (C := RX0) (T := TX0) (N := 8) hx hb hts (by decide +kernel) hown hK hP 40 cc_ext rfl 6 (by decide) (hts (.fieldLink RX0 30 "NumberFieldFactors$Extension" "mateOfT" "I") (by decide +kernel)) (fun _ h9 => h9) rfl dX0_become_131 ?_
                refine lv_aload_n hx hb dX0_become_134 rfl (lv_at hl 2 rfl) ?_
                refine va_get (ci := 0) (v := .int ((va_up (va_up (va_up (va_up (va_up (va_up (va_up E 0 p0) 1 1030301) 2 p1) 3 p2) 4 p3) 5 (jrem (101 - p1) 101)) 6 u230) 6)) (C := RX0) (T := TX0) (N := 8) hx hb hts (by decide +kernel) hown hK hP 40 cc_ext rfl 6 (by decide) (hts (.fieldLink RX0 30 "NumberFieldFactors$Extension" "mateOfT" "I") (by decide +kernel)) (fun _ h9 => h9) rfl dX0_become_135 ?_
                obtain ⟨u232, g233, hf⟩ := Option.bind_eq_some_iff.mp hf
                try dsimp only at hf
                refine ct_call (va_runV (As := [.int ((va_up (va_up (va_up (va_up (va_up (va_up (va_up E 0 p0) 1 1030301) 2 p1) 3 p2) 4 p3) 5 (jrem (101 - p1) 101)) 6 u230) 6), .int ((va_up (va_up (va_up (va_up (va_up (va_up (va_up E 0 p0) 1 1030301) 2 p1) 3 p2) 4 p3) 5 (jrem (101 - p1) 101)) 6 u230) 6)]) (rest := [.ref (ad 40)]) ⟨hx, hb, hml, hown, hts⟩ (C_X0_times l D tys nw hn hnw hj htI htR (res := u232) g233) (cwV 2 hts gX0_become_X0_times rfl rfl rfl (by decide +kernel) ⟨Nat.le_of_ble_eq_true rfl, Nat.le_of_ble_eq_true rfl⟩) (ct_preV hn hP hK hN (ci := 0) (k := 40) rfl (by decide) rfl) rfl rfl hl.1 rfl (lv_room (Nat.le_of_ble_eq_true rfl)) dX0_become_138 ⟨Nat.zero_le _, Nat.zero_le _⟩) hS (fun H locs hP hS => ?_)
                refine va_put (ci := 0) (v := .int u232) (ty := .int) (C := RX0) (T := TX0) (N := 8) hx hb hts (by decide +kernel) tyX0 tyX0_ok nmX0 hown hK hP (ww_D hj) hS 40 cc_ext rfl 7 (by decide) (hts (.fieldLink RX0 33 "NumberFieldFactors$Extension" "mateOfTSquared" "I") (by decide +kernel)) (fun _ h9 => h9) rfl (by decide +kernel) rfl rfl (Nat.le_of_ble_eq_true rfl) dX0_become_141 (fun H locs hP hD hS => ?_)
                have hP := cs_E7 hP
                refine lv_iconst (v := 1) hx hb dX0_become_144 (by decide) ?_
                obtain rfl := Option.some.inj hf
                exact W.zret (v := 1) (ty := .boolean) hx hb hr (by decide) (fun t ht hW => ⟨rfl, by rw [ht]; exact hP, hS.F ht⟩) hS.2.2 dX0_become_145
            · rw [if_pos c224] at hf
              refine lv_sipush (v := 10201) hx hb dX0_become_65 (by decide) ?_
              refine lv_goto (tgt := 73) hx hb dX0_become_68 (by decide) ?_
              refine va_put (ci := 0) (v := .int 10201) (ty := .int) (C := RX0) (T := TX0) (N := 8) hx hb hts (by decide +kernel) tyX0 tyX0_ok nmX0 hown hK hP (ww_D hj) hS 40 cc_ext rfl 1 (by decide) (hts (.fieldLink RX0 15 "NumberFieldFactors$Extension" "size" "I") (by decide +kernel)) (fun _ h9 => h9) rfl (by decide +kernel) rfl rfl (Nat.le_of_ble_eq_true rfl) dX0_become_73 (fun H locs hP hD hS => ?_)
              have hP := cs_E1 hP
              refine lv_aload_n hx hb dX0_become_76 rfl (lv_at hl 2 rfl) ?_
              refine lv_iload_n hx hb dX0_become_77 rfl (lv_at hl 4 rfl) ?_
              refine va_put (ci := 0) (v := .int p1) (ty := .int) (C := RX0) (T := TX0) (N := 8) hx hb hts (by decide +kernel) tyX0 tyX0_ok nmX0 hown hK hP (ww_D hj) hS 40 cc_ext rfl 2 (by decide) (hts (.fieldLink RX0 18 "NumberFieldFactors$Extension" "low0" "I") (by decide +kernel)) (fun _ h9 => h9) rfl (by decide +kernel) rfl rfl (Nat.le_of_ble_eq_true rfl) dX0_become_78 (fun H locs hP hD hS => ?_)
              have hP := cs_E2 hP
              refine lv_aload_n hx hb dX0_become_81 rfl (lv_at hl 2 rfl) ?_
              refine lv_iload hx hb dX0_become_82 (lv_at hl 1 rfl) ?_
              refine va_put (ci := 0) (v := .int p2) (ty := .int) (C := RX0) (T := TX0) (N := 8) hx hb hts (by decide +kernel) tyX0 tyX0_ok nmX0 hown hK hP (ww_D hj) hS 40 cc_ext rfl 3 (by decide) (hts (.fieldLink RX0 21 "NumberFieldFactors$Extension" "low1" "I") (by decide +kernel)) (fun _ h9 => h9) rfl (by decide +kernel) rfl rfl (Nat.le_of_ble_eq_true rfl) dX0_become_84 (fun H locs hP hD hS => ?_)
              have hP := cs_E3 hP
              refine lv_aload_n hx hb dX0_become_87 rfl (lv_at hl 2 rfl) ?_
              refine lv_iload hx hb dX0_become_88 (lv_at hl 0 rfl) ?_
              refine va_put (ci := 0) (v := .int p3) (ty := .int) (C := RX0) (T := TX0) (N := 8) hx hb hts (by decide +kernel) tyX0 tyX0_ok nmX0 hown hK hP (ww_D hj) hS 40 cc_ext rfl 4 (by decide) (hts (.fieldLink RX0 24 "NumberFieldFactors$Extension" "low2" "I") (by decide +kernel)) (fun _ h9 => h9) rfl (by decide +kernel) rfl rfl (Nat.le_of_ble_eq_true rfl) dX0_become_90 (fun H locs hP hD hS => ?_)
              have hP := cs_E4 hP
              refine lv_aload_n hx hb dX0_become_93 rfl (lv_at hl 2 rfl) ?_
              refine lv_iload_n hx hb dX0_become_94 rfl (lv_at hl 3 rfl) ?_
              refine lv_iconst (v := 1) hx hb dX0_become_95 (by decide) ?_
              refine lv_icmp_ne (tgt := 109) hx hb dX0_become_96 (by decide) (fun c234 => ?_) (fun c234 => ?_)
              · rw [if_neg c234] at hf
                refine lv_bipush (v := 101) hx hb dX0_become_109 (by decide) ?_
                refine va_put (ci := 0) (v := .int 101) (ty := .int) (C := RX0) (T := TX0) (N := 8) hx hb hts (by decide +kernel) tyX0 tyX0_ok nmX0 hown hK hP (ww_D hj) hS 40 cc_ext rfl 5 (by decide) (hts (.fieldLink RX0 27 "NumberFieldFactors$Extension" "t" "I") (by decide +kernel)) (fun _ h9 => h9) rfl (by decide +kernel) rfl rfl (Nat.le_of_ble_eq_true rfl) dX0_become_111 (fun H locs hP hD hS => ?_)
                have hP := cs_E5 hP
                refine lv_aload_n hx hb dX0_become_114 rfl (lv_at hl 2 rfl) ?_
                refine lv_aload_n hx hb dX0_become_115 rfl (lv_at hl 2 rfl) ?_
                refine lv_aload_n hx hb dX0_become_116 rfl (lv_at hl 2 rfl) ?_
                refine va_get (ci := 0) (v := .int ((va_up (va_up (va_up (va_up (va_up (va_up E 0 p0) 1 10201) 2 p1) 3 p2) 4 p3) 5 101) 5)) (C := RX0) (T := TX0) (N := 8) hx hb hts (by decide +kernel) hown hK hP 40 cc_ext rfl 5 (by decide) (hts (.fieldLink RX0 27 "NumberFieldFactors$Extension" "t" "I") (by decide +kernel)) (fun _ h9 => h9) rfl dX0_become_117 ?_
                refine lv_bipush (v := 101) hx hb dX0_become_120 (by decide) ?_
                obtain ⟨u235, g236, hf⟩ := Option.bind_eq_some_iff.mp hf
                try dsimp only at hf
                refine ct_call (va_runV (As := [.int ((va_up (va_up (va_up (va_up (va_up (va_up E 0 p0) 1 10201) 2 p1) 3 p2) 4 p3) 5 101) 5), .int 101]) (rest := [.ref (ad 40)]) ⟨hx, hb, hml, hown, hts⟩ (C_X0_power l D tys nw hn hnw hj htI htR (res := u235) g236) (cwV 2 hts gX0_become_X0_power rfl rfl rfl (by decide +kernel) ⟨Nat.le_of_ble_eq_true rfl, Nat.le_of_ble_eq_true rfl⟩) (ct_preV hn hP hK hN (ci := 0) (k := 40) rfl (by decide) rfl) rfl rfl hl.1 rfl (lv_room (Nat.le_of_ble_eq_true rfl)) dX0_become_122 ⟨Nat.zero_le _, Nat.zero_le _⟩) hS (fun H locs hP hS => ?_)
                refine va_put (ci := 0) (v := .int u235) (ty := .int) (C := RX0) (T := TX0) (N := 8) hx hb hts (by decide +kernel) tyX0 tyX0_ok nmX0 hown hK hP (ww_D hj) hS 40 cc_ext rfl 6 (by decide) (hts (.fieldLink RX0 30 "NumberFieldFactors$Extension" "mateOfT" "I") (by decide +kernel)) (fun _ h9 => h9) rfl (by decide +kernel) rfl rfl (Nat.le_of_ble_eq_true rfl) dX0_become_125 (fun H locs hP hD hS => ?_)
                have hP := cs_E6 hP
                refine lv_aload_n hx hb dX0_become_128 rfl (lv_at hl 2 rfl) ?_
                refine lv_aload_n hx hb dX0_become_129 rfl (lv_at hl 2 rfl) ?_
                refine lv_aload_n hx hb dX0_become_130 rfl (lv_at hl 2 rfl) ?_
                refine va_get (ci := 0) (v := .int ((va_up (va_up (va_up (va_up (va_up (va_up (va_up E 0 p0) 1 10201) 2 p1) 3 p2) 4 p3) 5 101) 6 u235) 6)) (C := RX0) (T := TX0) (N := 8) hx hb hts (by decide +kernel) hown hK hP 40 cc_ext rfl 6 (by decide) (hts (.fieldLink RX0 30 "NumberFieldFactors$Extension" "mateOfT" "I") (by decide +kernel)) (fun _ h9 => h9) rfl dX0_become_131 ?_
                refine lv_aload_n hx hb dX0_become_134 rfl (lv_at hl 2 rfl) ?_
                refine va_get (ci := 0) (v := .int ((va_up (va_up (va_up (va_up (va_up (va_up (va_up E 0 p0) 1 10201) 2 p1) 3 p2) 4 p3) 5 101) 6 u235) 6)) (C := RX0) (T := TX0) (N := 8) hx hb hts (by decide +kernel) hown hK hP 40 cc_ext rfl 6 (by decide) (hts (.fieldLink RX0 30 "NumberFieldFactors$Extension" "mateOfT" "I") (by decide +kernel)) (fun _ h9 => h9) rfl dX0_become_135 ?_
                obtain ⟨u237, g238, hf⟩ := Option.bind_eq_some_iff.mp hf
                try dsimp only at hf
                refine ct_call (va_runV (As := [.int ((va_up (va_up (va_up (va_up (va_up (va_up (va_up E 0 p0) 1 10201) 2 p1) 3 p2) 4 p3) 5 101) 6 u235) 6), .int ((va_up (va_up (va_up (va_up (va_up (va_up (va_up E 0 p0) 1 10201) 2 p1) 3 p2) 4 p3) 5 101) 6 u235) 6)]) (rest := [.ref (ad 40)]) ⟨hx, hb, hml, hown, hts⟩ (C_X0_times l D tys nw hn hnw hj htI htR (res := u237) g238) (cwV 2 hts gX0_become_X0_times rfl rfl rfl (by decide +kernel) ⟨Nat.le_of_ble_eq_true rfl, Nat.le_of_ble_eq_true rfl⟩) (ct_preV hn hP hK hN (ci := 0) (k := 40) rfl (by decide) rfl) rfl rfl hl.1 rfl (lv_room (Nat.le_of_ble_eq_true rfl)) dX0_become_138 ⟨Nat.zero_le _, Nat.zero_le _⟩) hS (fun H locs hP hS => ?_)
                refine va_put (ci := 0) (v := .int u237) (ty := .int) (C := RX0) (T := TX0) (N := 8) hx hb hts (by decide +kernel) tyX0 tyX0_ok nmX0 hown hK hP (ww_D hj) hS 40 cc_ext rfl 7 (by decide) (hts (.fieldLink RX0 33 "NumberFieldFactors$Extension" "mateOfTSquared" "I") (by decide +kernel)) (fun _ h9 => h9) rfl (by decide +kernel) rfl rfl (Nat.le_of_ble_eq_true rfl) dX0_become_141 (fun H locs hP hD hS => ?_)
                have hP := cs_E7 hP
                refine lv_iconst (v := 1) hx hb dX0_become_144 (by decide) ?_
                obtain rfl := Option.some.inj hf
                exact W.zret (v := 1) (ty := .boolean) hx hb hr (by decide) (fun t ht hW => ⟨rfl, by rw [ht]; exact hP, hS.F ht⟩) hS.2.2 dX0_become_145
              · rw [if_pos c234] at hf
                refine lv_bipush (v := 101) hx hb dX0_become_99 (by decide) ?_
                refine lv_iload_n hx hb dX0_become_101 rfl (lv_at hl 4 rfl) ?_
                refine lv_isub hx hb dX0_become_102 ?_
                refine lv_bipush (v := 101) hx hb dX0_become_103 (by decide) ?_
                refine jv_irem hx hb dX0_become_105 (by decide) ?_
                refine lv_goto (tgt := 111) hx hb dX0_become_106 (by decide) ?_
                refine va_put (ci := 0) (v := .int (jrem (101 - p1) 101)) (ty := .int) (C := RX0) (T := TX0) (N := 8) hx hb hts (by decide +kernel) tyX0 tyX0_ok nmX0 hown hK hP (ww_D hj) hS 40 cc_ext rfl 5 (by decide) (hts (.fieldLink RX0 27 "NumberFieldFactors$Extension" "t" "I") (by decide +kernel)) (fun _ h9 => h9) rfl (by decide +kernel) rfl rfl (Nat.le_of_ble_eq_true rfl) dX0_become_111 (fun H locs hP hD hS => ?_)
                have hP := cs_E5 hP
                refine lv_aload_n hx hb dX0_become_114 rfl (lv_at hl 2 rfl) ?_
                refine lv_aload_n hx hb dX0_become_115 rfl (lv_at hl 2 rfl) ?_
                refine lv_aload_n hx hb dX0_become_116 rfl (lv_at hl 2 rfl) ?_
                refine va_get (ci := 0) (v := .int ((va_up (va_up (va_up (va_up (va_up (va_up E 0 p0) 1 10201) 2 p1) 3 p2) 4 p3) 5 (jrem (101 - p1) 101)) 5)) (C := RX0) (T := TX0) (N := 8) hx hb hts (by decide +kernel) hown hK hP 40 cc_ext rfl 5 (by decide) (hts (.fieldLink RX0 27 "NumberFieldFactors$Extension" "t" "I") (by decide +kernel)) (fun _ h9 => h9) rfl dX0_become_117 ?_
                refine lv_bipush (v := 101) hx hb dX0_become_120 (by decide) ?_
                obtain ⟨u239, g240, hf⟩ := Option.bind_eq_some_iff.mp hf
                try dsimp only at hf
                refine ct_call (va_runV (As := [.int ((va_up (va_up (va_up (va_up (va_up (va_up E 0 p0) 1 10201) 2 p1) 3 p2) 4 p3) 5 (jrem (101 - p1) 101)) 5), .int 101]) (rest := [.ref (ad 40)]) ⟨hx, hb, hml, hown, hts⟩ (C_X0_power l D tys nw hn hnw hj htI htR (res := u239) g240) (cwV 2 hts gX0_become_X0_power rfl rfl rfl (by decide +kernel) ⟨Nat.le_of_ble_eq_true rfl, Nat.le_of_ble_eq_true rfl⟩) (ct_preV hn hP hK hN (ci := 0) (k := 40) rfl (by decide) rfl) rfl rfl hl.1 rfl (lv_room (Nat.le_of_ble_eq_true rfl)) dX0_become_122 ⟨Nat.zero_le _, Nat.zero_le _⟩) hS (fun H locs hP hS => ?_)
                refine va_put (ci := 0) (v := .int u239) (ty := .int) (C := RX0) (T := TX0) (N := 8) hx hb hts (by decide +kernel) tyX0 tyX0_ok nmX0 hown hK hP (ww_D hj) hS 40 cc_ext rfl 6 (by decide) (hts (.fieldLink RX0 30 "NumberFieldFactors$Extension" "mateOfT" "I") (by decide +kernel)) (fun _ h9 => h9) rfl (by decide +kernel) rfl rfl (Nat.le_of_ble_eq_true rfl) dX0_become_125 (fun H locs hP hD hS => ?_)
                have hP := cs_E6 hP
                refine lv_aload_n hx hb dX0_become_128 rfl (lv_at hl 2 rfl) ?_
                refine lv_aload_n hx hb dX0_become_129 rfl (lv_at hl 2 rfl) ?_
                refine lv_aload_n hx hb dX0_become_130 rfl (lv_at hl 2 rfl) ?_
                refine va_get (ci := 0) (v := .int ((va_up (va_up (va_up (va_up (va_up (va_up (va_up E 0 p0) 1 10201) 2 p1) 3 p2) 4 p3) 5 (jrem (101 - p1) 101)) 6 u239) 6)) (C := RX0) (T := TX0) (N := 8) hx hb hts (by decide +kernel) hown hK hP 40 cc_ext rfl 6 (by decide) (hts (.fieldLink RX0 30 "NumberFieldFactors$Extension" "mateOfT" "I") (by decide +kernel)) (fun _ h9 => h9) rfl dX0_become_131 ?_
                refine lv_aload_n hx hb dX0_become_134 rfl (lv_at hl 2 rfl) ?_
                refine va_get (ci := 0) (v := .int ((va_up (va_up (va_up (va_up (va_up (va_up (va_up E 0 p0) 1 10201) 2 p1) 3 p2) 4 p3) 5 (jrem (101 - p1) 101)) 6 u239) 6)) (C := RX0) (T := TX0) (N := 8) hx hb hts (by decide +kernel) hown hK hP 40 cc_ext rfl 6 (by decide) (hts (.fieldLink RX0 30 "NumberFieldFactors$Extension" "mateOfT" "I") (by decide +kernel)) (fun _ h9 => h9) rfl dX0_become_135 ?_
                obtain ⟨u241, g242, hf⟩ := Option.bind_eq_some_iff.mp hf
                try dsimp only at hf
                refine ct_call (va_runV (As := [.int ((va_up (va_up (va_up (va_up (va_up (va_up (va_up E 0 p0) 1 10201) 2 p1) 3 p2) 4 p3) 5 (jrem (101 - p1) 101)) 6 u239) 6), .int ((va_up (va_up (va_up (va_up (va_up (va_up (va_up E 0 p0) 1 10201) 2 p1) 3 p2) 4 p3) 5 (jrem (101 - p1) 101)) 6 u239) 6)]) (rest := [.ref (ad 40)]) ⟨hx, hb, hml, hown, hts⟩ (C_X0_times l D tys nw hn hnw hj htI htR (res := u241) g242) (cwV 2 hts gX0_become_X0_times rfl rfl rfl (by decide +kernel) ⟨Nat.le_of_ble_eq_true rfl, Nat.le_of_ble_eq_true rfl⟩) (ct_preV hn hP hK hN (ci := 0) (k := 40) rfl (by decide) rfl) rfl rfl hl.1 rfl (lv_room (Nat.le_of_ble_eq_true rfl)) dX0_become_138 ⟨Nat.zero_le _, Nat.zero_le _⟩) hS (fun H locs hP hS => ?_)
                refine va_put (ci := 0) (v := .int u241) (ty := .int) (C := RX0) (T := TX0) (N := 8) hx hb hts (by decide +kernel) tyX0 tyX0_ok nmX0 hown hK hP (ww_D hj) hS 40 cc_ext rfl 7 (by decide) (hts (.fieldLink RX0 33 "NumberFieldFactors$Extension" "mateOfTSquared" "I") (by decide +kernel)) (fun _ h9 => h9) rfl (by decide +kernel) rfl rfl (Nat.le_of_ble_eq_true rfl) dX0_become_141 (fun H locs hP hD hS => ?_)
                have hP := cs_E7 hP
                refine lv_iconst (v := 1) hx hb dX0_become_144 (by decide) ?_
                obtain rfl := Option.some.inj hf
                exact W.zret (v := 1) (ty := .boolean) hx hb hr (by decide) (fun t ht hW => ⟨rfl, by rw [ht]; exact hP, hS.F ht⟩) hS.2.2 dX0_become_145
          · rw [if_pos c223] at hf
            refine lv_bipush (v := 101) hx hb dX0_become_55 (by decide) ?_
            refine lv_goto (tgt := 73) hx hb dX0_become_57 (by decide) ?_
            refine va_put (ci := 0) (v := .int 101) (ty := .int) (C := RX0) (T := TX0) (N := 8) hx hb hts (by decide +kernel) tyX0 tyX0_ok nmX0 hown hK hP (ww_D hj) hS 40 cc_ext rfl 1 (by decide) (hts (.fieldLink RX0 15 "NumberFieldFactors$Extension" "size" "I") (by decide +kernel)) (fun _ h9 => h9) rfl (by decide +kernel) rfl rfl (Nat.le_of_ble_eq_true rfl) dX0_become_73 (fun H locs hP hD hS => ?_)
            have hP := cs_E1 hP
            refine lv_aload_n hx hb dX0_become_76 rfl (lv_at hl 2 rfl) ?_
            refine lv_iload_n hx hb dX0_become_77 rfl (lv_at hl 4 rfl) ?_
            refine va_put (ci := 0) (v := .int p1) (ty := .int) (C := RX0) (T := TX0) (N := 8) hx hb hts (by decide +kernel) tyX0 tyX0_ok nmX0 hown hK hP (ww_D hj) hS 40 cc_ext rfl 2 (by decide) (hts (.fieldLink RX0 18 "NumberFieldFactors$Extension" "low0" "I") (by decide +kernel)) (fun _ h9 => h9) rfl (by decide +kernel) rfl rfl (Nat.le_of_ble_eq_true rfl) dX0_become_78 (fun H locs hP hD hS => ?_)
            have hP := cs_E2 hP
            refine lv_aload_n hx hb dX0_become_81 rfl (lv_at hl 2 rfl) ?_
            refine lv_iload hx hb dX0_become_82 (lv_at hl 1 rfl) ?_
            refine va_put (ci := 0) (v := .int p2) (ty := .int) (C := RX0) (T := TX0) (N := 8) hx hb hts (by decide +kernel) tyX0 tyX0_ok nmX0 hown hK hP (ww_D hj) hS 40 cc_ext rfl 3 (by decide) (hts (.fieldLink RX0 21 "NumberFieldFactors$Extension" "low1" "I") (by decide +kernel)) (fun _ h9 => h9) rfl (by decide +kernel) rfl rfl (Nat.le_of_ble_eq_true rfl) dX0_become_84 (fun H locs hP hD hS => ?_)
            have hP := cs_E3 hP
            refine lv_aload_n hx hb dX0_become_87 rfl (lv_at hl 2 rfl) ?_
            refine lv_iload hx hb dX0_become_88 (lv_at hl 0 rfl) ?_
            refine va_put (ci := 0) (v := .int p3) (ty := .int) (C := RX0) (T := TX0) (N := 8) hx hb hts (by decide +kernel) tyX0 tyX0_ok nmX0 hown hK hP (ww_D hj) hS 40 cc_ext rfl 4 (by decide) (hts (.fieldLink RX0 24 "NumberFieldFactors$Extension" "low2" "I") (by decide +kernel)) (fun _ h9 => h9) rfl (by decide +kernel) rfl rfl (Nat.le_of_ble_eq_true rfl) dX0_become_90 (fun H locs hP hD hS => ?_)
            have hP := cs_E4 hP
            refine lv_aload_n hx hb dX0_become_93 rfl (lv_at hl 2 rfl) ?_
            refine lv_iload_n hx hb dX0_become_94 rfl (lv_at hl 3 rfl) ?_
            refine lv_iconst (v := 1) hx hb dX0_become_95 (by decide) ?_
            refine lv_icmp_ne (tgt := 109) hx hb dX0_become_96 (by decide) (fun c243 => ?_) (fun c243 => ?_)
            · rw [if_neg c243] at hf
              refine lv_bipush (v := 101) hx hb dX0_become_109 (by decide) ?_
              refine va_put (ci := 0) (v := .int 101) (ty := .int) (C := RX0) (T := TX0) (N := 8) hx hb hts (by decide +kernel) tyX0 tyX0_ok nmX0 hown hK hP (ww_D hj) hS 40 cc_ext rfl 5 (by decide) (hts (.fieldLink RX0 27 "NumberFieldFactors$Extension" "t" "I") (by decide +kernel)) (fun _ h9 => h9) rfl (by decide +kernel) rfl rfl (Nat.le_of_ble_eq_true rfl) dX0_become_111 (fun H locs hP hD hS => ?_)
              have hP := cs_E5 hP
              refine lv_aload_n hx hb dX0_become_114 rfl (lv_at hl 2 rfl) ?_
              refine lv_aload_n hx hb dX0_become_115 rfl (lv_at hl 2 rfl) ?_
              refine lv_aload_n hx hb dX0_become_116 rfl (lv_at hl 2 rfl) ?_
              refine va_get (ci := 0) (v := .int ((va_up (va_up (va_up (va_up (va_up (va_up E 0 p0) 1 101) 2 p1) 3 p2) 4 p3) 5 101) 5)) (C := RX0) (T := TX0) (N := 8) hx hb hts (by decide +kernel) hown hK hP 40 cc_ext rfl 5 (by decide) (hts (.fieldLink RX0 27 "NumberFieldFactors$Extension" "t" "I") (by decide +kernel)) (fun _ h9 => h9) rfl dX0_become_117 ?_
              refine lv_bipush (v := 101) hx hb dX0_become_120 (by decide) ?_
              obtain ⟨u244, g245, hf⟩ := Option.bind_eq_some_iff.mp hf
              try dsimp only at hf
              refine ct_call (va_runV (As := [.int ((va_up (va_up (va_up (va_up (va_up (va_up E 0 p0) 1 101) 2 p1) 3 p2) 4 p3) 5 101) 5), .int 101]) (rest := [.ref (ad 40)]) ⟨hx, hb, hml, hown, hts⟩ (C_X0_power l D tys nw hn hnw hj htI htR (res := u244) g245) (cwV 2 hts gX0_become_X0_power rfl rfl rfl (by decide +kernel) ⟨Nat.le_of_ble_eq_true rfl, Nat.le_of_ble_eq_true rfl⟩) (ct_preV hn hP hK hN (ci := 0) (k := 40) rfl (by decide) rfl) rfl rfl hl.1 rfl (lv_room (Nat.le_of_ble_eq_true rfl)) dX0_become_122 ⟨Nat.zero_le _, Nat.zero_le _⟩) hS (fun H locs hP hS => ?_)
              refine va_put (ci := 0) (v := .int u244) (ty := .int) (C := RX0) (T := TX0) (N := 8) hx hb hts (by decide +kernel) tyX0 tyX0_ok nmX0 hown hK hP (ww_D hj) hS 40 cc_ext rfl 6 (by decide) (hts (.fieldLink RX0 30 "NumberFieldFactors$Extension" "mateOfT" "I") (by decide +kernel)) (fun _ h9 => h9) rfl (by decide +kernel) rfl rfl (Nat.le_of_ble_eq_true rfl) dX0_become_125 (fun H locs hP hD hS => ?_)
              have hP := cs_E6 hP
              refine lv_aload_n hx hb dX0_become_128 rfl (lv_at hl 2 rfl) ?_
              refine lv_aload_n hx hb dX0_become_129 rfl (lv_at hl 2 rfl) ?_
              refine lv_aload_n hx hb dX0_become_130 rfl (lv_at hl 2 rfl) ?_
              refine va_get (ci := 0) (v := .int ((va_up (va_up (va_up (va_up (va_up (va_up (va_up E 0 p0) 1 101) 2 p1) 3 p2) 4 p3) 5 101) 6 u244) 6)) (C := RX0) (T := TX0) (N := 8) hx hb hts (by decide +kernel) hown hK hP 40 cc_ext rfl 6 (by decide) (hts (.fieldLink RX0 30 "NumberFieldFactors$Extension" "mateOfT" "I") (by decide +kernel)) (fun _ h9 => h9) rfl dX0_become_131 ?_
              refine lv_aload_n hx hb dX0_become_134 rfl (lv_at hl 2 rfl) ?_
              refine va_get (ci := 0) (v := .int ((va_up (va_up (va_up (va_up (va_up (va_up (va_up E 0 p0) 1 101) 2 p1) 3 p2) 4 p3) 5 101) 6 u244) 6)) (C := RX0) (T := TX0) (N := 8) hx hb hts (by decide +kernel) hown hK hP 40 cc_ext rfl 6 (by decide) (hts (.fieldLink RX0 30 "NumberFieldFactors$Extension" "mateOfT" "I") (by decide +kernel)) (fun _ h9 => h9) rfl dX0_become_135 ?_
              obtain ⟨u246, g247, hf⟩ := Option.bind_eq_some_iff.mp hf
              try dsimp only at hf
              refine ct_call (va_runV (As := [.int ((va_up (va_up (va_up (va_up (va_up (va_up (va_up E 0 p0) 1 101) 2 p1) 3 p2) 4 p3) 5 101) 6 u244) 6), .int ((va_up (va_up (va_up (va_up (va_up (va_up (va_up E 0 p0) 1 101) 2 p1) 3 p2) 4 p3) 5 101) 6 u244) 6)]) (rest := [.ref (ad 40)]) ⟨hx, hb, hml, hown, hts⟩ (C_X0_times l D tys nw hn hnw hj htI htR (res := u246) g247) (cwV 2 hts gX0_become_X0_times rfl rfl rfl (by decide +kernel) ⟨Nat.le_of_ble_eq_true rfl, Nat.le_of_ble_eq_true rfl⟩) (ct_preV hn hP hK hN (ci := 0) (k := 40) rfl (by decide) rfl) rfl rfl hl.1 rfl (lv_room (Nat.le_of_ble_eq_true rfl)) dX0_become_138 ⟨Nat.zero_le _, Nat.zero_le _⟩) hS (fun H locs hP hS => ?_)
              refine va_put (ci := 0) (v := .int u246) (ty := .int) (C := RX0) (T := TX0) (N := 8) hx hb hts (by decide +kernel) tyX0 tyX0_ok nmX0 hown hK hP (ww_D hj) hS 40 cc_ext rfl 7 (by decide) (hts (.fieldLink RX0 33 "NumberFieldFactors$Extension" "mateOfTSquared" "I") (by decide +kernel)) (fun _ h9 => h9) rfl (by decide +kernel) rfl rfl (Nat.le_of_ble_eq_true rfl) dX0_become_141 (fun H locs hP hD hS => ?_)
              have hP := cs_E7 hP
              refine lv_iconst (v := 1) hx hb dX0_become_144 (by decide) ?_
              obtain rfl := Option.some.inj hf
              exact W.zret (v := 1) (ty := .boolean) hx hb hr (by decide) (fun t ht hW => ⟨rfl, by rw [ht]; exact hP, hS.F ht⟩) hS.2.2 dX0_become_145
            · rw [if_pos c243] at hf
              refine lv_bipush (v := 101) hx hb dX0_become_99 (by decide) ?_
              refine lv_iload_n hx hb dX0_become_101 rfl (lv_at hl 4 rfl) ?_
              refine lv_isub hx hb dX0_become_102 ?_
              refine lv_bipush (v := 101) hx hb dX0_become_103 (by decide) ?_
              refine jv_irem hx hb dX0_become_105 (by decide) ?_
              refine lv_goto (tgt := 111) hx hb dX0_become_106 (by decide) ?_
              refine va_put (ci := 0) (v := .int (jrem (101 - p1) 101)) (ty := .int) (C := RX0) (T := TX0) (N := 8) hx hb hts (by decide +kernel) tyX0 tyX0_ok nmX0 hown hK hP (ww_D hj) hS 40 cc_ext rfl 5 (by decide) (hts (.fieldLink RX0 27 "NumberFieldFactors$Extension" "t" "I") (by decide +kernel)) (fun _ h9 => h9) rfl (by decide +kernel) rfl rfl (Nat.le_of_ble_eq_true rfl) dX0_become_111 (fun H locs hP hD hS => ?_)
              have hP := cs_E5 hP
              refine lv_aload_n hx hb dX0_become_114 rfl (lv_at hl 2 rfl) ?_
              refine lv_aload_n hx hb dX0_become_115 rfl (lv_at hl 2 rfl) ?_
              refine lv_aload_n hx hb dX0_become_116 rfl (lv_at hl 2 rfl) ?_
              refine va_get (ci := 0) (v := .int ((va_up (va_up (va_up (va_up (va_up (va_up E 0 p0) 1 101) 2 p1) 3 p2) 4 p3) 5 (jrem (101 - p1) 101)) 5)) (C := RX0) (T := TX0) (N := 8) hx hb hts (by decide +kernel) hown hK hP 40 cc_ext rfl 5 (by decide) (hts (.fieldLink RX0 27 "NumberFieldFactors$Extension" "t" "I") (by decide +kernel)) (fun _ h9 => h9) rfl dX0_become_117 ?_
              refine lv_bipush (v := 101) hx hb dX0_become_120 (by decide) ?_
              obtain ⟨u248, g249, hf⟩ := Option.bind_eq_some_iff.mp hf
              try dsimp only at hf
              refine ct_call (va_runV (As := [.int ((va_up (va_up (va_up (va_up (va_up (va_up E 0 p0) 1 101) 2 p1) 3 p2) 4 p3) 5 (jrem (101 - p1) 101)) 5), .int 101]) (rest := [.ref (ad 40)]) ⟨hx, hb, hml, hown, hts⟩ (C_X0_power l D tys nw hn hnw hj htI htR (res := u248) g249) (cwV 2 hts gX0_become_X0_power rfl rfl rfl (by decide +kernel) ⟨Nat.le_of_ble_eq_true rfl, Nat.le_of_ble_eq_true rfl⟩) (ct_preV hn hP hK hN (ci := 0) (k := 40) rfl (by decide) rfl) rfl rfl hl.1 rfl (lv_room (Nat.le_of_ble_eq_true rfl)) dX0_become_122 ⟨Nat.zero_le _, Nat.zero_le _⟩) hS (fun H locs hP hS => ?_)
              refine va_put (ci := 0) (v := .int u248) (ty := .int) (C := RX0) (T := TX0) (N := 8) hx hb hts (by decide +kernel) tyX0 tyX0_ok nmX0 hown hK hP (ww_D hj) hS 40 cc_ext rfl 6 (by decide) (hts (.fieldLink RX0 30 "NumberFieldFactors$Extension" "mateOfT" "I") (by decide +kernel)) (fun _ h9 => h9) rfl (by decide +kernel) rfl rfl (Nat.le_of_ble_eq_true rfl) dX0_become_125 (fun H locs hP hD hS => ?_)
              have hP := cs_E6 hP
              refine lv_aload_n hx hb dX0_become_128 rfl (lv_at hl 2 rfl) ?_
              refine lv_aload_n hx hb dX0_become_129 rfl (lv_at hl 2 rfl) ?_
              refine lv_aload_n hx hb dX0_become_130 rfl (lv_at hl 2 rfl) ?_
              refine va_get (ci := 0) (v := .int ((va_up (va_up (va_up (va_up (va_up (va_up (va_up E 0 p0) 1 101) 2 p1) 3 p2) 4 p3) 5 (jrem (101 - p1) 101)) 6 u248) 6)) (C := RX0) (T := TX0) (N := 8) hx hb hts (by decide +kernel) hown hK hP 40 cc_ext rfl 6 (by decide) (hts (.fieldLink RX0 30 "NumberFieldFactors$Extension" "mateOfT" "I") (by decide +kernel)) (fun _ h9 => h9) rfl dX0_become_131 ?_
              refine lv_aload_n hx hb dX0_become_134 rfl (lv_at hl 2 rfl) ?_
              refine va_get (ci := 0) (v := .int ((va_up (va_up (va_up (va_up (va_up (va_up (va_up E 0 p0) 1 101) 2 p1) 3 p2) 4 p3) 5 (jrem (101 - p1) 101)) 6 u248) 6)) (C := RX0) (T := TX0) (N := 8) hx hb hts (by decide +kernel) hown hK hP 40 cc_ext rfl 6 (by decide) (hts (.fieldLink RX0 30 "NumberFieldFactors$Extension" "mateOfT" "I") (by decide +kernel)) (fun _ h9 => h9) rfl dX0_become_135 ?_
              obtain ⟨u250, g251, hf⟩ := Option.bind_eq_some_iff.mp hf
              try dsimp only at hf
              refine ct_call (va_runV (As := [.int ((va_up (va_up (va_up (va_up (va_up (va_up (va_up E 0 p0) 1 101) 2 p1) 3 p2) 4 p3) 5 (jrem (101 - p1) 101)) 6 u248) 6), .int ((va_up (va_up (va_up (va_up (va_up (va_up (va_up E 0 p0) 1 101) 2 p1) 3 p2) 4 p3) 5 (jrem (101 - p1) 101)) 6 u248) 6)]) (rest := [.ref (ad 40)]) ⟨hx, hb, hml, hown, hts⟩ (C_X0_times l D tys nw hn hnw hj htI htR (res := u250) g251) (cwV 2 hts gX0_become_X0_times rfl rfl rfl (by decide +kernel) ⟨Nat.le_of_ble_eq_true rfl, Nat.le_of_ble_eq_true rfl⟩) (ct_preV hn hP hK hN (ci := 0) (k := 40) rfl (by decide) rfl) rfl rfl hl.1 rfl (lv_room (Nat.le_of_ble_eq_true rfl)) dX0_become_138 ⟨Nat.zero_le _, Nat.zero_le _⟩) hS (fun H locs hP hS => ?_)
              refine va_put (ci := 0) (v := .int u250) (ty := .int) (C := RX0) (T := TX0) (N := 8) hx hb hts (by decide +kernel) tyX0 tyX0_ok nmX0 hown hK hP (ww_D hj) hS 40 cc_ext rfl 7 (by decide) (hts (.fieldLink RX0 33 "NumberFieldFactors$Extension" "mateOfTSquared" "I") (by decide +kernel)) (fun _ h9 => h9) rfl (by decide +kernel) rfl rfl (Nat.le_of_ble_eq_true rfl) dX0_become_141 (fun H locs hP hD hS => ?_)
              have hP := cs_E7 hP
              refine lv_iconst (v := 1) hx hb dX0_become_144 (by decide) ?_
              obtain rfl := Option.some.inj hf
              exact W.zret (v := 1) (ty := .boolean) hx hb hr (by decide) (fun t ht hW => ⟨rfl, by rw [ht]; exact hP, hS.F ht⟩) hS.2.2 dX0_become_145
        · rw [if_neg c222] at hf
          refine lv_iconst (v := 0) hx hb dX0_become_42 (by decide) ?_
          obtain rfl := Option.some.inj hf
          exact W.zret (v := 0) (ty := .boolean) hx hb hr (by decide) (fun t ht hW => ⟨rfl, by rw [ht]; exact hP, hS.F ht⟩) hS.2.2 dX0_become_43
end
