/-! ===== BEGIN words of one list among another's, by their places ===== -/
theorem goodIn_r {big : List Cond} (ws : List Cond) (ps : List Nat) (hp : ws = ps.filterMap (fun i => big[i]?)) (h : ws.all goodWord = true) : GoodIn big ws := by
  intro w hw
  have h1 := List.all_eq_true.mp h w hw
  rw [hp] at hw
  obtain ⟨i, -, hi⟩ := List.mem_filterMap.mp hw
  have hm : w ∈ big := by first | exact List.mem_of_getElem? hi | exact List.getElem?_mem hi
  exact ⟨hm, good_of_word h1⟩
theorem goodIn_app {big a b : List Cond} (ha : GoodIn big a) (hb : GoodIn big b) : GoodIn big (a ++ b) := fun w h => (List.mem_append.mp h).elim (ha w) (hb w)
theorem goodIn_ca {big a b : List Cond} {c : Cond} (ha : GoodIn big (c :: a)) (hb : GoodIn big b) : GoodIn big (c :: (a ++ b)) := fun w h => (List.mem_cons.mp h).elim (fun e => ha w (List.mem_cons.mpr (Or.inl e))) (fun h => (List.mem_append.mp h).elim (fun h => ha w (List.mem_cons.mpr (Or.inr h))) (hb w))
theorem goodIn_sub {big ws : List Cond} (hm : ∀ w ∈ ws, w ∈ big) (h : ws.all goodWord = true) : GoodIn big ws := fun w hw => ⟨hm w hw, good_of_word (List.all_eq_true.mp h w hw)⟩
/-! ===== END ===== -/

def RX0 : String := "NumberFieldFactors$Extension"
def TX0 : u_T := fun k => match k with
  | 0 => ("NumberFieldFactors$Extension", "degree", "I", false)
  | 1 => ("NumberFieldFactors$Extension", "size", "I", false)
  | 2 => ("NumberFieldFactors$Extension", "low0", "I", false)
  | 3 => ("NumberFieldFactors$Extension", "low1", "I", false)
  | 4 => ("NumberFieldFactors$Extension", "low2", "I", false)
  | 5 => ("NumberFieldFactors$Extension", "t", "I", false)
  | 6 => ("NumberFieldFactors$Extension", "mateOfT", "I", false)
  | _ => ("NumberFieldFactors$Extension", "mateOfTSquared", "I", false)
def tyX0 : Nat → FieldType := fun k => match k with
  | 0 => .int
  | 1 => .int
  | 2 => .int
  | 3 => .int
  | 4 => .int
  | 5 => .int
  | 6 => .int
  | _ => .int
abbrev wsX00 : List Cond := u_ws RX0 TX0 8
theorem nmX0 : ∀ a, a < 8 → ∀ b, b < 8 → a ≠ b → (TX0 a).2.1 ≠ (TX0 b).2.1 := by decide +kernel
theorem tyX0_ok : ∀ k, k < 8 → parseFieldDescriptor (TX0 k).2.2.1 = some (tyX0 k) := by decide +kernel
abbrev cX0_init : ByteArray := prog_2_method_1_code
def yX0_init : MethodName := ⟨RX0, "<init>", "()V"⟩
abbrev cX0_become : ByteArray := prog_2_method_2_code
def yX0_become : MethodName := ⟨RX0, "become", "(IIII)Z"⟩
abbrev cX0_hasRoot : ByteArray := prog_2_method_3_code
def yX0_hasRoot : MethodName := ⟨RX0, "hasRoot", "(IIII)Z"⟩
abbrev cX0_modulusAt : ByteArray := prog_2_method_4_code
def yX0_modulusAt : MethodName := ⟨RX0, "modulusAt", "(I)I"⟩
abbrev cX0_plus : ByteArray := prog_2_method_5_code
def yX0_plus : MethodName := ⟨RX0, "plus", "(II)I"⟩
abbrev cX0_minus : ByteArray := prog_2_method_6_code
def yX0_minus : MethodName := ⟨RX0, "minus", "(II)I"⟩
abbrev cX0_times : ByteArray := prog_2_method_7_code
def yX0_times : MethodName := ⟨RX0, "times", "(II)I"⟩
abbrev cX0_power : ByteArray := prog_2_method_8_code
def yX0_power : MethodName := ⟨RX0, "power", "(II)I"⟩
abbrev cX0_mate : ByteArray := prog_2_method_9_code
def yX0_mate : MethodName := ⟨RX0, "mate", "(I)I"⟩
abbrev cX0_isSquare : ByteArray := prog_2_method_10_code
def yX0_isSquare : MethodName := ⟨RX0, "isSquare", "(I)Z"⟩
abbrev cX0_matesProduct : ByteArray := prog_2_method_11_code
def yX0_matesProduct : MethodName := ⟨RX0, "matesProduct", "(I)I"⟩
abbrev cX0_matesSum : ByteArray := prog_2_method_12_code
def yX0_matesSum : MethodName := ⟨RX0, "matesSum", "(I)I"⟩
abbrev cX0_differentMates : ByteArray := prog_2_method_13_code
def yX0_differentMates : MethodName := ⟨RX0, "differentMates", "(I)I"⟩
def RX1 : String := "NumberFieldFactors$Ring"
def TX1 : u_T := fun k => match k with
  | 0 => ("NumberFieldFactors$Ring", "extension", "LNumberFieldFactors$Extension;", true)
  | 1 => ("NumberFieldFactors$Ring", "wide", "LNumberFieldFactors$Row;", true)
  | 2 => ("NumberFieldFactors$Ring", "quotient", "LNumberFieldFactors$Row;", true)
  | 3 => ("NumberFieldFactors$Ring", "older", "LNumberFieldFactors$Row;", true)
  | 4 => ("NumberFieldFactors$Ring", "newer", "LNumberFieldFactors$Row;", true)
  | 5 => ("NumberFieldFactors$Ring", "derived", "LNumberFieldFactors$Row;", true)
  | 6 => ("NumberFieldFactors$Ring", "mates", "LNumberFieldFactors$Row;", true)
  | 7 => ("NumberFieldFactors$Ring", "product", "LNumberFieldFactors$Row;", true)
  | 8 => ("NumberFieldFactors$Ring", "moved", "LNumberFieldFactors$Row;", true)
  | 9 => ("NumberFieldFactors$Ring", "least", "LNumberFieldFactors$Row;", true)
  | _ => ("NumberFieldFactors$Ring", "common", "LNumberFieldFactors$Row;", true)
def tyX1 : Nat → FieldType := fun k => match k with
  | 0 => .object "NumberFieldFactors$Extension"
  | 1 => .object "NumberFieldFactors$Row"
  | 2 => .object "NumberFieldFactors$Row"
  | 3 => .object "NumberFieldFactors$Row"
  | 4 => .object "NumberFieldFactors$Row"
  | 5 => .object "NumberFieldFactors$Row"
  | 6 => .object "NumberFieldFactors$Row"
  | 7 => .object "NumberFieldFactors$Row"
  | 8 => .object "NumberFieldFactors$Row"
  | 9 => .object "NumberFieldFactors$Row"
  | _ => .object "NumberFieldFactors$Row"
abbrev wsX10 : List Cond := u_ws RX1 TX1 11
theorem nmX1 : ∀ a, a < 11 → ∀ b, b < 11 → a ≠ b → (TX1 a).2.1 ≠ (TX1 b).2.1 := by decide +kernel
theorem tyX1_ok : ∀ k, k < 11 → parseFieldDescriptor (TX1 k).2.2.1 = some (tyX1 k) := by decide +kernel
abbrev cX1_init : ByteArray := prog_3_method_1_code
def yX1_init : MethodName := ⟨RX1, "<init>", "()V"⟩
abbrev cX1_valueOf : ByteArray := prog_3_method_2_code
def yX1_valueOf : MethodName := ⟨RX1, "valueOf", "(LNumberFieldFactors$Row;I)I"⟩
abbrev cX1_displace : ByteArray := prog_3_method_3_code
def yX1_displace : MethodName := ⟨RX1, "displace", "(LNumberFieldFactors$Row;I)V"⟩
abbrev cX1_multiply : ByteArray := prog_3_method_4_code
def yX1_multiply : MethodName := ⟨RX1, "multiply", "(LNumberFieldFactors$Row;LNumberFieldFactors$Row;)V"⟩
abbrev cX1_multiplyLinear : ByteArray := prog_3_method_5_code
def yX1_multiplyLinear : MethodName := ⟨RX1, "multiplyLinear", "(LNumberFieldFactors$Row;I)V"⟩
abbrev cX1_divide : ByteArray := prog_3_method_6_code
def yX1_divide : MethodName := ⟨RX1, "divide", "(LNumberFieldFactors$Row;LNumberFieldFactors$Row;)V"⟩
abbrev cX1_makeMonic : ByteArray := prog_3_method_7_code
def yX1_makeMonic : MethodName := ⟨RX1, "makeMonic", "(LNumberFieldFactors$Row;)V"⟩
abbrev cX1_findCommon : ByteArray := prog_3_method_8_code
def yX1_findCommon : MethodName := ⟨RX1, "findCommon", "(LNumberFieldFactors$Row;LNumberFieldFactors$Row;LNumberFieldFactors$Row;)V"⟩
abbrev cX1_findSquares : ByteArray := prog_3_method_9_code
def yX1_findSquares : MethodName := ⟨RX1, "findSquares", "(LNumberFieldFactors$Row;LNumberFieldFactors$Row;)V"⟩
abbrev cX1_raiseLinear : ByteArray := prog_3_method_10_code
def yX1_raiseLinear : MethodName := ⟨RX1, "raiseLinear", "(IJLNumberFieldFactors$Row;LNumberFieldFactors$Row;)V"⟩
abbrev cX1_normOf : ByteArray := prog_3_method_11_code
def yX1_normOf : MethodName := ⟨RX1, "normOf", "(LNumberFieldFactors$Row;)LNumberFieldFactors$Row;"⟩
abbrev cX1_leastPolynomial : ByteArray := prog_3_method_12_code
def yX1_leastPolynomial : MethodName := ⟨RX1, "leastPolynomial", "(I)LNumberFieldFactors$Row;"⟩
abbrev cX1_leastShift : ByteArray := prog_3_method_13_code
def yX1_leastShift : MethodName := ⟨RX1, "leastShift", "(LNumberFieldFactors$Row;)I"⟩
def RX2 : String := "NumberFieldFactors$Row"
def TX2 : u_T := fun k => match k with
  | _ => ("NumberFieldFactors$Row", "elements", "[I", true)
def tyX2 : Nat → FieldType := fun k => match k with
  | _ => .array .int
abbrev wsX20 : List Cond := u_ws RX2 TX2 1
theorem nmX2 : ∀ a, a < 1 → ∀ b, b < 1 → a ≠ b → (TX2 a).2.1 ≠ (TX2 b).2.1 := by decide +kernel
theorem tyX2_ok : ∀ k, k < 1 → parseFieldDescriptor (TX2 k).2.2.1 = some (tyX2 k) := by decide +kernel
abbrev cX2_init : ByteArray := prog_4_method_1_code
def yX2_init : MethodName := ⟨RX2, "<init>", "()V"⟩
abbrev cX2_get : ByteArray := prog_4_method_2_code
def yX2_get : MethodName := ⟨RX2, "get", "(I)I"⟩
abbrev cX2_set : ByteArray := prog_4_method_3_code
def yX2_set : MethodName := ⟨RX2, "set", "(II)V"⟩
abbrev cX2_degree : ByteArray := prog_4_method_4_code
def yX2_degree : MethodName := ⟨RX2, "degree", "()I"⟩
abbrev cX2_clear : ByteArray := prog_4_method_5_code
def yX2_clear : MethodName := ⟨RX2, "clear", "()V"⟩
abbrev cX2_copy : ByteArray := prog_4_method_6_code
def yX2_copy : MethodName := ⟨RX2, "copy", "(LNumberFieldFactors$Row;)V"⟩
abbrev cX2_becomeOne : ByteArray := prog_4_method_7_code
def yX2_becomeOne : MethodName := ⟨RX2, "becomeOne", "()V"⟩
abbrev cX2_isBefore : ByteArray := prog_4_method_8_code
def yX2_isBefore : MethodName := ⟨RX2, "isBefore", "(LNumberFieldFactors$Row;)Z"⟩
def RX3 : String := "NumberFieldFactors$Splitter"
def TX3 : u_T := fun k => match k with
  | 0 => ("NumberFieldFactors$Splitter", "parts", "[LNumberFieldFactors$Row;", true)
  | 1 => ("NumberFieldFactors$Splitter", "counts", "[I", true)
  | 2 => ("NumberFieldFactors$Splitter", "count", "I", false)
  | 3 => ("NumberFieldFactors$Splitter", "found", "Z", false)
  | 4 => ("NumberFieldFactors$Splitter", "root", "LNumberFieldFactors$Row;", true)
  | 5 => ("NumberFieldFactors$Splitter", "rest", "LNumberFieldFactors$Row;", true)
  | 6 => ("NumberFieldFactors$Splitter", "power", "LNumberFieldFactors$Row;", true)
  | _ => ("NumberFieldFactors$Splitter", "shared", "LNumberFieldFactors$Row;", true)
def tyX3 : Nat → FieldType := fun k => match k with
  | 0 => .array (.object "NumberFieldFactors$Row")
  | 1 => .array .int
  | 2 => .int
  | 3 => .boolean
  | 4 => .object "NumberFieldFactors$Row"
  | 5 => .object "NumberFieldFactors$Row"
  | 6 => .object "NumberFieldFactors$Row"
  | _ => .object "NumberFieldFactors$Row"
abbrev wsX30 : List Cond := u_ws RX3 TX3 8
theorem nmX3 : ∀ a, a < 8 → ∀ b, b < 8 → a ≠ b → (TX3 a).2.1 ≠ (TX3 b).2.1 := by decide +kernel
theorem tyX3_ok : ∀ k, k < 8 → parseFieldDescriptor (TX3 k).2.2.1 = some (tyX3 k) := by decide +kernel
abbrev cX3_init : ByteArray := prog_5_method_1_code
def yX3_init : MethodName := ⟨RX3, "<init>", "()V"⟩
abbrev cX3_forget : ByteArray := prog_5_method_2_code
def yX3_forget : MethodName := ⟨RX3, "forget", "()V"⟩
abbrev cX3_part : ByteArray := prog_5_method_3_code
def yX3_part : MethodName := ⟨RX3, "part", "(I)LNumberFieldFactors$Row;"⟩
abbrev cX3_timesOf : ByteArray := prog_5_method_4_code
def yX3_timesOf : MethodName := ⟨RX3, "timesOf", "(I)I"⟩
abbrev cX3_commonDegree : ByteArray := prog_5_method_5_code
def yX3_commonDegree : MethodName := ⟨RX3, "commonDegree", "()I"⟩
abbrev cX3_find : ByteArray := prog_5_method_6_code
def yX3_find : MethodName := ⟨RX3, "find", "(LNumberFieldFactors$Ring;LNumberFieldFactors$Row;)V"⟩
abbrev cX3_keepRoot : ByteArray := prog_5_method_7_code
def yX3_keepRoot : MethodName := ⟨RX3, "keepRoot", "(LNumberFieldFactors$Ring;LNumberFieldFactors$Row;)V"⟩
abbrev cX3_add : ByteArray := prog_5_method_8_code
def yX3_add : MethodName := ⟨RX3, "add", "(LNumberFieldFactors$Row;)V"⟩
abbrev cX3_sizeToThe : ByteArray := prog_5_method_9_code
def yX3_sizeToThe : MethodName := ⟨RX3, "sizeToThe", "(LNumberFieldFactors$Ring;I)J"⟩
abbrev cX3_collect : ByteArray := prog_5_method_10_code
def yX3_collect : MethodName := ⟨RX3, "collect", "(LNumberFieldFactors$Ring;I)V"⟩
abbrev cX3_separate : ByteArray := prog_5_method_11_code
def yX3_separate : MethodName := ⟨RX3, "separate", "(LNumberFieldFactors$Ring;II)V"⟩
abbrev cX3_sort : ByteArray := prog_5_method_12_code
def yX3_sort : MethodName := ⟨RX3, "sort", "()V"⟩
abbrev cX3_countTimes : ByteArray := prog_5_method_13_code
def yX3_countTimes : MethodName := ⟨RX3, "countTimes", "(LNumberFieldFactors$Ring;LNumberFieldFactors$Row;)V"⟩
def RX4 : String := "NumberFieldFactors"
def TX4 : u_T := fun k => match k with
  | 0 => ("NumberFieldFactors", "f", "LNumberFieldFactors$Row;", true)
  | 1 => ("NumberFieldFactors", "ring", "LNumberFieldFactors$Ring;", true)
  | _ => ("NumberFieldFactors", "splitter", "LNumberFieldFactors$Splitter;", true)
def tyX4 : Nat → FieldType := fun k => match k with
  | 0 => .object "NumberFieldFactors$Row"
  | 1 => .object "NumberFieldFactors$Ring"
  | _ => .object "NumberFieldFactors$Splitter"
abbrev wsX40 : List Cond := u_ws RX4 TX4 3
theorem nmX4 : ∀ a, a < 3 → ∀ b, b < 3 → a ≠ b → (TX4 a).2.1 ≠ (TX4 b).2.1 := by decide +kernel
theorem tyX4_ok : ∀ k, k < 3 → parseFieldDescriptor (TX4 k).2.2.1 = some (tyX4 k) := by decide +kernel
abbrev cX4_init : ByteArray := prog_1_method_1_code
def yX4_init : MethodName := ⟨RX4, "<init>", "()V"⟩
abbrev cX4_field : ByteArray := prog_1_method_2_code
def yX4_field : MethodName := ⟨RX4, "field", "(IJJJ)Z"⟩
abbrev cX4_modulus : ByteArray := prog_1_method_3_code
def yX4_modulus : MethodName := ⟨RX4, "modulus", "(I)I"⟩
abbrev cX4_put : ByteArray := prog_1_method_4_code
def yX4_put : MethodName := ⟨RX4, "put", "(II)Z"⟩
abbrev cX4_at : ByteArray := prog_1_method_5_code
def yX4_at : MethodName := ⟨RX4, "at", "(I)I"⟩
abbrev cX4_reckon : ByteArray := prog_1_method_6_code
def yX4_reckon : MethodName := ⟨RX4, "reckon", "(III)I"⟩
abbrev cX4_known : ByteArray := prog_1_method_7_code
def yX4_known : MethodName := ⟨RX4, "known", "(II)I"⟩
abbrev cX4_minimal : ByteArray := prog_1_method_8_code
def yX4_minimal : MethodName := ⟨RX4, "minimal", "(II)I"⟩
abbrev cX4_value : ByteArray := prog_1_method_9_code
def yX4_value : MethodName := ⟨RX4, "value", "(I)I"⟩
abbrev cX4_norm : ByteArray := prog_1_method_10_code
def yX4_norm : MethodName := ⟨RX4, "norm", "(I)I"⟩
abbrev cX4_shift : ByteArray := prog_1_method_11_code
def yX4_shift : MethodName := ⟨RX4, "shift", "()I"⟩
abbrev cX4_factors : ByteArray := prog_1_method_12_code
def yX4_factors : MethodName := ⟨RX4, "factors", "()I"⟩
abbrev cX4_factor : ByteArray := prog_1_method_13_code
def yX4_factor : MethodName := ⟨RX4, "factor", "(II)I"⟩
abbrev cX4_often : ByteArray := prog_1_method_14_code
def yX4_often : MethodName := ⟨RX4, "often", "(I)I"⟩
abbrev cX4_splitting : ByteArray := prog_1_method_15_code
def yX4_splitting : MethodName := ⟨RX4, "splitting", "()I"⟩
abbrev cX4_move : ByteArray := prog_1_method_16_code
def yX4_move : MethodName := ⟨RX4, "move", "(I)V"⟩
abbrev cX4_take : ByteArray := prog_1_method_17_code
def yX4_take : MethodName := ⟨RX4, "take", "(I)V"⟩
abbrev cX4_numberOf : ByteArray := prog_1_method_18_code
def yX4_numberOf : MethodName := ⟨RX4, "numberOf", "(J)I"⟩
abbrev cX4_requirePower : ByteArray := prog_1_method_19_code
def yX4_requirePower : MethodName := ⟨RX4, "requirePower", "(I)V"⟩
abbrev cX4_requireElement : ByteArray := prog_1_method_20_code
def yX4_requireElement : MethodName := ⟨RX4, "requireElement", "(I)V"⟩
abbrev cX4_requireSome : ByteArray := prog_1_method_21_code
def yX4_requireSome : MethodName := ⟨RX4, "requireSome", "()V"⟩
abbrev cX4_requireFactor : ByteArray := prog_1_method_22_code
def yX4_requireFactor : MethodName := ⟨RX4, "requireFactor", "(I)V"⟩
def RX5 : String := "NumberFieldFactorsModel"
def TX5 : u_T := fun k => match k with
  | 0 => ("NumberFieldFactorsModel", "thrown", "I", false)
  | 1 => ("NumberFieldFactorsModel", "k", "I", false)
  | 2 => ("NumberFieldFactorsModel", "many", "J", false)
  | 3 => ("NumberFieldFactorsModel", "modulus", "[I", true)
  | 4 => ("NumberFieldFactorsModel", "digits", "[I", true)
  | 5 => ("NumberFieldFactorsModel", "row", "[I", true)
  | 6 => ("NumberFieldFactorsModel", "degree", "[I", true)
  | 7 => ("NumberFieldFactorsModel", "known", "Z", false)
  | 8 => ("NumberFieldFactorsModel", "factors", "I", false)
  | _ => ("NumberFieldFactorsModel", "often", "[I", true)
def tyX5 : Nat → FieldType := fun k => match k with
  | 0 => .int
  | 1 => .int
  | 2 => .long
  | 3 => .array .int
  | 4 => .array .int
  | 5 => .array .int
  | 6 => .array .int
  | 7 => .boolean
  | 8 => .int
  | _ => .array .int
abbrev wsX50 : List Cond := u_ws RX5 TX5 10
theorem nmX5 : ∀ a, a < 10 → ∀ b, b < 10 → a ≠ b → (TX5 a).2.1 ≠ (TX5 b).2.1 := by decide +kernel
theorem tyX5_ok : ∀ k, k < 10 → parseFieldDescriptor (TX5 k).2.2.1 = some (tyX5 k) := by decide +kernel
abbrev cX5_init : ByteArray := prog_7_method_1_code
def yX5_init : MethodName := ⟨RX5, "<init>", "()V"⟩
abbrev cX5_thrown : ByteArray := prog_7_method_2_code
def yX5_thrown : MethodName := ⟨RX5, "thrown", "()I"⟩
abbrev cX5_fails : ByteArray := prog_7_method_3_code
def yX5_fails : MethodName := ⟨RX5, "fails", "(ZZ)Z"⟩
abbrev cX5_isElement : ByteArray := prog_7_method_4_code
def yX5_isElement : MethodName := ⟨RX5, "isElement", "(I)Z"⟩
abbrev cX5_digit : ByteArray := prog_7_method_5_code
def yX5_digit : MethodName := ⟨RX5, "digit", "(II)I"⟩
abbrev cX5_add : ByteArray := prog_7_method_6_code
def yX5_add : MethodName := ⟨RX5, "add", "(II)I"⟩
abbrev cX5_negative : ByteArray := prog_7_method_7_code
def yX5_negative : MethodName := ⟨RX5, "negative", "(I)I"⟩
abbrev cX5_less : ByteArray := prog_7_method_8_code
def yX5_less : MethodName := ⟨RX5, "less", "(II)I"⟩
abbrev cX5_times : ByteArray := prog_7_method_9_code
def yX5_times : MethodName := ⟨RX5, "times", "(II)I"⟩
abbrev cX5_power : ByteArray := prog_7_method_10_code
def yX5_power : MethodName := ⟨RX5, "power", "(IJ)I"⟩
abbrev cX5_inverse : ByteArray := prog_7_method_11_code
def yX5_inverse : MethodName := ⟨RX5, "inverse", "(I)I"⟩
abbrev cX5_mate : ByteArray := prog_7_method_12_code
def yX5_mate : MethodName := ⟨RX5, "mate", "(II)I"⟩
abbrev cX5_mates : ByteArray := prog_7_method_13_code
def yX5_mates : MethodName := ⟨RX5, "mates", "(I)I"⟩
abbrev cX5_number : ByteArray := prog_7_method_14_code
def yX5_number : MethodName := ⟨RX5, "number", "(J)I"⟩
abbrev cX5_field : ByteArray := prog_7_method_15_code
def yX5_field : MethodName := ⟨RX5, "field", "(IJJJ)Z"⟩
abbrev cX5_modulus : ByteArray := prog_7_method_16_code
def yX5_modulus : MethodName := ⟨RX5, "modulus", "(I)I"⟩
abbrev cX5_clear : ByteArray := prog_7_method_17_code
def yX5_clear : MethodName := ⟨RX5, "clear", "(I)V"⟩
abbrev cX5_copy : ByteArray := prog_7_method_18_code
def yX5_copy : MethodName := ⟨RX5, "copy", "(II)V"⟩
abbrev cX5_set : ByteArray := prog_7_method_19_code
def yX5_set : MethodName := ⟨RX5, "set", "(III)V"⟩
abbrev cX5_cell : ByteArray := prog_7_method_20_code
def yX5_cell : MethodName := ⟨RX5, "cell", "(II)I"⟩
abbrev cX5_product : ByteArray := prog_7_method_21_code
def yX5_product : MethodName := ⟨RX5, "product", "(III)V"⟩
abbrev cX5_divide : ByteArray := prog_7_method_22_code
def yX5_divide : MethodName := ⟨RX5, "divide", "(III)V"⟩
abbrev cX5_monic : ByteArray := prog_7_method_23_code
def yX5_monic : MethodName := ⟨RX5, "monic", "(I)V"⟩
abbrev cX5_divisor : ByteArray := prog_7_method_24_code
def yX5_divisor : MethodName := ⟨RX5, "divisor", "(II)V"⟩
abbrev cX5_slope : ByteArray := prog_7_method_25_code
def yX5_slope : MethodName := ⟨RX5, "slope", "(II)V"⟩
abbrev cX5_powers : ByteArray := prog_7_method_26_code
def yX5_powers : MethodName := ⟨RX5, "powers", "(IJII)V"⟩
abbrev cX5_moved : ByteArray := prog_7_method_27_code
def yX5_moved : MethodName := ⟨RX5, "moved", "(III)V"⟩
abbrev cX5_normOf : ByteArray := prog_7_method_28_code
def yX5_normOf : MethodName := ⟨RX5, "normOf", "(II)V"⟩
abbrev cX5_isPower : ByteArray := prog_7_method_29_code
def yX5_isPower : MethodName := ⟨RX5, "isPower", "(I)Z"⟩
abbrev cX5_put : ByteArray := prog_7_method_30_code
def yX5_put : MethodName := ⟨RX5, "put", "(II)Z"⟩
abbrev cX5_at : ByteArray := prog_7_method_31_code
def yX5_at : MethodName := ⟨RX5, "at", "(I)I"⟩
abbrev cX5_reckon : ByteArray := prog_7_method_32_code
def yX5_reckon : MethodName := ⟨RX5, "reckon", "(III)I"⟩
abbrev cX5_known : ByteArray := prog_7_method_33_code
def yX5_known : MethodName := ⟨RX5, "known", "(II)I"⟩
abbrev cX5_minimal : ByteArray := prog_7_method_34_code
def yX5_minimal : MethodName := ⟨RX5, "minimal", "(II)I"⟩
abbrev cX5_value : ByteArray := prog_7_method_35_code
def yX5_value : MethodName := ⟨RX5, "value", "(I)I"⟩
abbrev cX5_norm : ByteArray := prog_7_method_36_code
def yX5_norm : MethodName := ⟨RX5, "norm", "(I)I"⟩
abbrev cX5_root : ByteArray := prog_7_method_37_code
def yX5_root : MethodName := ⟨RX5, "root", "()V"⟩
abbrev cX5_found : ByteArray := prog_7_method_38_code
def yX5_found : MethodName := ⟨RX5, "found", "(I)V"⟩
abbrev cX5_parts : ByteArray := prog_7_method_39_code
def yX5_parts : MethodName := ⟨RX5, "parts", "(I)V"⟩
abbrev cX5_split : ByteArray := prog_7_method_40_code
def yX5_split : MethodName := ⟨RX5, "split", "()V"⟩
abbrev cX5_isAhead : ByteArray := prog_7_method_41_code
def yX5_isAhead : MethodName := ⟨RX5, "isAhead", "(II)Z"⟩
abbrev cX5_order : ByteArray := prog_7_method_42_code
def yX5_order : MethodName := ⟨RX5, "order", "()V"⟩
abbrev cX5_factorise : ByteArray := prog_7_method_43_code
def yX5_factorise : MethodName := ⟨RX5, "factorise", "()V"⟩
abbrev cX5_isNothing : ByteArray := prog_7_method_44_code
def yX5_isNothing : MethodName := ⟨RX5, "isNothing", "()Z"⟩
abbrev cX5_shift : ByteArray := prog_7_method_45_code
def yX5_shift : MethodName := ⟨RX5, "shift", "()I"⟩
abbrev cX5_factors : ByteArray := prog_7_method_46_code
def yX5_factors : MethodName := ⟨RX5, "factors", "()I"⟩
abbrev cX5_lacks : ByteArray := prog_7_method_47_code
def yX5_lacks : MethodName := ⟨RX5, "lacks", "(I)Z"⟩
abbrev cX5_factor : ByteArray := prog_7_method_48_code
def yX5_factor : MethodName := ⟨RX5, "factor", "(II)I"⟩
abbrev cX5_often : ByteArray := prog_7_method_49_code
def yX5_often : MethodName := ⟨RX5, "often", "(I)I"⟩
abbrev cX5_splitting : ByteArray := prog_7_method_50_code
def yX5_splitting : MethodName := ⟨RX5, "splitting", "()I"⟩
abbrev cX5_move : ByteArray := prog_7_method_51_code
def yX5_move : MethodName := ⟨RX5, "move", "(I)V"⟩
abbrev cX5_take : ByteArray := prog_7_method_52_code
def yX5_take : MethodName := ⟨RX5, "take", "(I)V"⟩
def RJ0 : String := "java/lang/String"
def TJ0 : u_T := fun k => match k with
  | _ => ("", "", "", false)
def tyJ0 : Nat → FieldType := fun k => match k with
  | _ => .int
abbrev wsJ00 : List Cond := u_ws RJ0 TJ0 0
theorem nmJ0 : ∀ a, a < 0 → ∀ b, b < 0 → a ≠ b → (TJ0 a).2.1 ≠ (TJ0 b).2.1 := by decide +kernel
theorem tyJ0_ok : ∀ k, k < 0 → parseFieldDescriptor (TJ0 k).2.2.1 = some (tyJ0 k) := by decide +kernel
def RL : String := "NumberFieldFactorsLaw"
abbrev cL_field : ByteArray := method_3_code
def yL_field : MethodName := ⟨RL, "field", "(LNumberFieldFactors;IJJJ[J)I"⟩
abbrev cL_modulus : ByteArray := method_4_code
def yL_modulus : MethodName := ⟨RL, "modulus", "(LNumberFieldFactors;I[J)I"⟩
abbrev cL_put : ByteArray := method_5_code
def yL_put : MethodName := ⟨RL, "put", "(LNumberFieldFactors;II[J)I"⟩
abbrev cL_at : ByteArray := method_6_code
def yL_at : MethodName := ⟨RL, "at", "(LNumberFieldFactors;I[J)I"⟩
abbrev cL_reckon : ByteArray := method_7_code
def yL_reckon : MethodName := ⟨RL, "reckon", "(LNumberFieldFactors;III[J)I"⟩
abbrev cL_known : ByteArray := method_8_code
def yL_known : MethodName := ⟨RL, "known", "(LNumberFieldFactors;II[J)I"⟩
abbrev cL_minimal : ByteArray := method_9_code
def yL_minimal : MethodName := ⟨RL, "minimal", "(LNumberFieldFactors;II[J)I"⟩
abbrev cL_value : ByteArray := method_10_code
def yL_value : MethodName := ⟨RL, "value", "(LNumberFieldFactors;I[J)I"⟩
abbrev cL_shift : ByteArray := method_11_code
def yL_shift : MethodName := ⟨RL, "shift", "(LNumberFieldFactors;[J)I"⟩
abbrev cL_factors : ByteArray := method_12_code
def yL_factors : MethodName := ⟨RL, "factors", "(LNumberFieldFactors;[J)I"⟩
abbrev cL_factor : ByteArray := method_13_code
def yL_factor : MethodName := ⟨RL, "factor", "(LNumberFieldFactors;II[J)I"⟩
abbrev cL_often : ByteArray := method_14_code
def yL_often : MethodName := ⟨RL, "often", "(LNumberFieldFactors;I[J)I"⟩
abbrev cL_splitting : ByteArray := method_15_code
def yL_splitting : MethodName := ⟨RL, "splitting", "(LNumberFieldFactors;[J)I"⟩
abbrev cL_move : ByteArray := method_16_code
def yL_move : MethodName := ⟨RL, "move", "(LNumberFieldFactors;I)I"⟩
abbrev cL_take : ByteArray := method_17_code
def yL_take : MethodName := ⟨RL, "take", "(LNumberFieldFactors;I)I"⟩
abbrev cL_law : ByteArray := code
def yL_law : MethodName := ⟨RL, "law", "([I)Z"⟩
abbrev vwCl : List vw_C := [(RX0, TX0, 8), (RX1, TX1, 11), (RX2, TX2, 1), (RX3, TX3, 8), (RX4, TX4, 3), (RX5, TX5, 10)]
def BW0 : List Cond := [.code yX0_init cX0_init 1 none, .methodLink RX0 3 objectInit, .instanceMethod objectInit, .code objectInit ⟨#[0xb1]⟩ 1 none, .fieldLink RX0 9 "NumberFieldFactors$Extension" "degree" "I", .fieldLink RX0 15 "NumberFieldFactors$Extension" "size" "I", .fieldLink RX0 18 "NumberFieldFactors$Extension" "low0" "I", .fieldLink RX0 21 "NumberFieldFactors$Extension" "low1" "I", .fieldLink RX0 24 "NumberFieldFactors$Extension" "low2" "I", .fieldLink RX0 27 "NumberFieldFactors$Extension" "t" "I", .fieldLink RX0 30 "NumberFieldFactors$Extension" "mateOfT" "I", .fieldLink RX0 33 "NumberFieldFactors$Extension" "mateOfTSquared" "I", .code yX0_hasRoot cX0_hasRoot 6 (some .boolean), .code yX0_times cX0_times 15 (some .int), .code yX0_power cX0_power 6 (some .int), .methodLink RX0 45 yX0_times, .instanceMethod yX0_times, .selects RX0 yX0_times yX0_times, .initialized RX0, .code yX0_become cX0_become 7 (some .boolean), .constant RX0 40 (1030301), .methodLink RX0 36 yX0_hasRoot, .static yX0_hasRoot, .methodLink RX0 41 yX0_power, .instanceMethod yX0_power, .selects RX0 yX0_power yX0_power, .code yX0_modulusAt cX0_modulusAt 2 (some .int), .code yX0_plus cX0_plus 6 (some .int), .code yX0_minus cX0_minus 6 (some .int), .code yX0_mate cX0_mate 4 (some .int), .methodLink RX0 48 yX0_plus, .instanceMethod yX0_plus, .selects RX0 yX0_plus yX0_plus, .code yX0_isSquare cX0_isSquare 2 (some .boolean), .code yX0_matesProduct cX0_matesProduct 5 (some .int), .methodLink RX0 51 yX0_mate, .instanceMethod yX0_mate, .selects RX0 yX0_mate yX0_mate, .code yX0_matesSum cX0_matesSum 5 (some .int), .code yX0_differentMates cX0_differentMates 2 (some .int), .code yX2_init cX2_init 1 none, .methodLink RX2 3 objectInit, .arrayClass .int, .fieldLink RX2 9 "NumberFieldFactors$Row" "elements" "[I", .methodLink RX1 3 objectInit, .classLink RX1 9 RX0, .instantiable RX0 8, .fieldLink RX1 12 "NumberFieldFactors$Ring" "extension" "LNumberFieldFactors$Extension;", .classLink RX1 18 RX2, .instantiable RX2 1, .initialized RX2, .fieldLink RX1 21 "NumberFieldFactors$Ring" "wide" "LNumberFieldFactors$Row;", .fieldLink RX1 25 "NumberFieldFactors$Ring" "quotient" "LNumberFieldFactors$Row;", .fieldLink RX1 28 "NumberFieldFactors$Ring" "older" "LNumberFieldFactors$Row;", .fieldLink RX1 31 "NumberFieldFactors$Ring" "newer" "LNumberFieldFactors$Row;", .fieldLink RX1 34 "NumberFieldFactors$Ring" "derived" "LNumberFieldFactors$Row;", .fieldLink RX1 37 "NumberFieldFactors$Ring" "mates" "LNumberFieldFactors$Row;", .fieldLink RX1 40 "NumberFieldFactors$Ring" "product" "LNumberFieldFactors$Row;", .fieldLink RX1 43 "NumberFieldFactors$Ring" "moved" "LNumberFieldFactors$Row;", .fieldLink RX1 46 "NumberFieldFactors$Ring" "least" "LNumberFieldFactors$Row;"]
def BW1 : List Cond := [.fieldLink RX1 49 "NumberFieldFactors$Ring" "common" "LNumberFieldFactors$Row;", .instanceMethod yX0_init, .instanceMethod yX2_init, .code yX1_init cX1_init 1 none, .code yX2_degree cX2_degree 2 (some .int), .code yX2_get cX2_get 2 (some .int), .code yX1_valueOf cX1_valueOf 5 (some .int), .methodLink RX1 52 yX2_degree, .instanceMethod yX2_degree, .selects RX2 yX2_degree yX2_degree, .methodLink RX1 56 yX0_times, .methodLink RX1 60 yX2_get, .instanceMethod yX2_get, .selects RX2 yX2_get yX2_get, .methodLink RX1 64 yX0_plus, .code yX2_set cX2_set 3 none, .methodLink RX1 67 yX2_set, .instanceMethod yX2_set, .selects RX2 yX2_set yX2_set, .code yX1_displace cX1_displace 6 none, .code yX2_clear cX2_clear 2 none, .code yX2_copy cX2_copy 3 none, .methodLink RX2 15 yX2_get, .methodLink RX1 71 yX2_clear, .instanceMethod yX2_clear, .selects RX2 yX2_clear yX2_clear, .methodLink RX1 74 yX2_copy, .instanceMethod yX2_copy, .selects RX2 yX2_copy yX2_copy, .code yX1_multiply cX1_multiply 8 none, .code yX1_multiplyLinear cX1_multiplyLinear 4 none, .methodLink RX1 78 yX0_minus, .instanceMethod yX0_minus, .selects RX0 yX0_minus yX0_minus, .code yX1_divide cX1_divide 8 none, .methodLink RX1 85 yX0_power, .code yX1_makeMonic cX1_makeMonic 6 none, .methodLink RX1 88 yX1_makeMonic, .instanceMethod yX1_makeMonic, .selects RX1 yX1_makeMonic yX1_makeMonic, .initialized RX1, .methodLink RX1 91 yX1_divide, .instanceMethod yX1_divide, .selects RX1 yX1_divide yX1_divide, .code yX1_findCommon cX1_findCommon 8 none, .methodLink RX1 95 yX1_findCommon, .instanceMethod yX1_findCommon, .selects RX1 yX1_findCommon yX1_findCommon, .code yX1_findSquares cX1_findSquares 4 none, .code yX2_becomeOne cX2_becomeOne 1 none, .methodLink RX2 19 yX2_clear, .methodLink RX2 22 yX2_set, .methodLink RX1 99 yX2_becomeOne, .instanceMethod yX2_becomeOne, .selects RX2 yX2_becomeOne yX2_becomeOne, .methodLink RX1 102 yX1_multiply, .instanceMethod yX1_multiply, .selects RX1 yX1_multiply yX1_multiply, .methodLink RX1 105 yX1_multiplyLinear, .instanceMethod yX1_multiplyLinear]
def BW2 : List Cond := [.selects RX1 yX1_multiplyLinear yX1_multiplyLinear, .code yX1_raiseLinear cX1_raiseLinear 7 none, .methodLink RX1 111 yX0_mate, .code yX1_normOf cX1_normOf 5 (some (.object "NumberFieldFactors$Row")), .methodLink RX1 114 yX0_differentMates, .instanceMethod yX0_differentMates, .selects RX0 yX0_differentMates yX0_differentMates, .code yX1_leastPolynomial cX1_leastPolynomial 5 (some (.object "NumberFieldFactors$Row")), .methodLink RX1 120 yX1_displace, .instanceMethod yX1_displace, .selects RX1 yX1_displace yX1_displace, .methodLink RX1 123 yX1_normOf, .instanceMethod yX1_normOf, .selects RX1 yX1_normOf yX1_normOf, .methodLink RX1 127 yX1_findSquares, .instanceMethod yX1_findSquares, .selects RX1 yX1_findSquares yX1_findSquares, .code yX1_leastShift cX1_leastShift 3 (some .int), .code yX2_isBefore cX2_isBefore 5 (some .boolean), .methodLink RX2 26 yX2_degree, .code yX3_init cX3_init 2 none, .methodLink RX3 3 objectInit, .classLink RX3 9 RX2, .fieldLink RX3 11 "NumberFieldFactors$Splitter" "parts" "[LNumberFieldFactors$Row;", .fieldLink RX3 17 "NumberFieldFactors$Splitter" "counts" "[I", .fieldLink RX3 21 "NumberFieldFactors$Splitter" "count" "I", .fieldLink RX3 25 "NumberFieldFactors$Splitter" "found" "Z", .fieldLink RX3 30 "NumberFieldFactors$Splitter" "root" "LNumberFieldFactors$Row;", .fieldLink RX3 34 "NumberFieldFactors$Splitter" "rest" "LNumberFieldFactors$Row;", .fieldLink RX3 37 "NumberFieldFactors$Splitter" "power" "LNumberFieldFactors$Row;", .fieldLink RX3 40 "NumberFieldFactors$Splitter" "shared" "LNumberFieldFactors$Row;", .code yX3_forget cX3_forget 1 none, .code yX3_part cX3_part 2 (some (.object "NumberFieldFactors$Row")), .code yX3_timesOf cX3_timesOf 2 (some .int), .code yX3_commonDegree cX3_commonDegree 5 (some .int), .methodLink RX3 43 yX3_part, .instanceMethod yX3_part, .selects RX3 yX3_part yX3_part, .initialized RX3, .methodLink RX3 47 yX2_degree, .methodLink RX3 61 yX2_copy, .methodLink RX3 82 yX1_divide, .methodLink RX3 88 yX1_makeMonic, .code yX3_keepRoot cX3_keepRoot 3 none, .code yX3_sizeToThe cX3_sizeToThe 4 (some .long), .code yX3_add cX3_add 2 none, .methodLink RX3 100 yX3_sizeToThe, .static yX3_sizeToThe, .methodLink RX3 104 yX1_raiseLinear, .instanceMethod yX1_raiseLinear, .selects RX1 yX1_raiseLinear yX1_raiseLinear, .methodLink RX3 108 yX2_get, .methodLink RX3 112 yX0_minus, .methodLink RX3 116 yX2_set, .methodLink RX3 120 yX1_findCommon, .methodLink RX3 73 yX3_add, .instanceMethod yX3_add, .selects RX3 yX3_add yX3_add, .code yX3_collect cX3_collect 3 none, .constantLong RX3 124 (2)]
def BW3 : List Cond := [.code yX3_separate cX3_separate 13 none, .code yX3_sort cX3_sort 4 none, .methodLink RX3 126 yX2_isBefore, .instanceMethod yX2_isBefore, .selects RX2 yX2_isBefore yX2_isBefore, .code yX3_countTimes cX3_countTimes 5 none, .methodLink RX3 51 yX1_findSquares, .methodLink RX3 57 yX3_keepRoot, .instanceMethod yX3_keepRoot, .selects RX3 yX3_keepRoot yX3_keepRoot, .methodLink RX3 65 yX3_collect, .instanceMethod yX3_collect, .selects RX3 yX3_collect yX3_collect, .methodLink RX3 69 yX3_separate, .instanceMethod yX3_separate, .selects RX3 yX3_separate yX3_separate, .methodLink RX3 76 yX3_sort, .instanceMethod yX3_sort, .selects RX3 yX3_sort yX3_sort, .methodLink RX3 79 yX3_countTimes, .instanceMethod yX3_countTimes, .selects RX3 yX3_countTimes yX3_countTimes, .code yX3_find cX3_find 5 none, .methodLink RX4 1 objectInit, .classLink RX4 7 RX2, .fieldLink RX4 10 "NumberFieldFactors" "f" "LNumberFieldFactors$Row;", .classLink RX4 16 RX1, .instantiable RX1 11, .fieldLink RX4 19 "NumberFieldFactors" "ring" "LNumberFieldFactors$Ring;", .classLink RX4 23 RX3, .instantiable RX3 8, .fieldLink RX4 26 "NumberFieldFactors" "splitter" "LNumberFieldFactors$Splitter;", .instanceMethod yX1_init, .methodLink RX4 25 yX3_init, .instanceMethod yX3_init, .code yX4_init cX4_init 1 none, .code yX4_numberOf cX4_numberOf 3 (some .int), .constantLong RX4 174 (101), .classLink RX4 30 "java/lang/IllegalArgumentException", .initialized "java/lang/IllegalArgumentException", .methodLink RX4 41 yX4_numberOf, .static yX4_numberOf, .initialized RX4, .methodLink RX4 45 yX0_become, .instanceMethod yX0_become, .selects RX0 yX0_become yX0_become, .methodLink RX4 51 yX2_clear, .methodLink RX4 54 yX3_forget, .instanceMethod yX3_forget, .selects RX3 yX3_forget yX3_forget, .code yX4_field cX4_field 8 (some .boolean), .code yX4_modulus cX4_modulus 2 (some .int), .classLink RX4 57 "java/lang/IndexOutOfBoundsException", .initialized "java/lang/IndexOutOfBoundsException", .methodLink RX4 62 yX0_modulusAt, .instanceMethod yX0_modulusAt, .selects RX0 yX0_modulusAt yX0_modulusAt, .code yX4_requirePower cX4_requirePower 1 none, .code yX4_requireElement cX4_requireElement 2 none, .methodLink RX4 66 yX4_requirePower]
def BW4 : List Cond := [.static yX4_requirePower, .methodLink RX4 70 yX4_requireElement, .instanceMethod yX4_requireElement, .selects RX4 yX4_requireElement yX4_requireElement, .methodLink RX4 73 yX2_get, .methodLink RX4 76 yX2_set, .code yX4_put cX4_put 3 (some .boolean), .code yX4_at cX4_at 2 (some .int), .classLink RX4 82 "java/lang/ArithmeticException", .initialized "java/lang/ArithmeticException", .methodLink RX4 87 yX0_plus, .methodLink RX4 91 yX0_minus, .methodLink RX4 94 yX0_times, .methodLink RX4 101 yX0_power, .code yX4_reckon cX4_reckon 5 (some .int), .methodLink RX4 106 yX0_isSquare, .instanceMethod yX0_isSquare, .selects RX0 yX0_isSquare yX0_isSquare, .methodLink RX4 110 yX0_matesProduct, .instanceMethod yX0_matesProduct, .selects RX0 yX0_matesProduct yX0_matesProduct, .methodLink RX4 113 yX0_matesSum, .instanceMethod yX0_matesSum, .selects RX0 yX0_matesSum yX0_matesSum, .methodLink RX4 116 yX0_mate, .methodLink RX4 119 yX0_differentMates, .code yX4_known cX4_known 4 (some .int), .methodLink RX4 124 yX1_leastPolynomial, .instanceMethod yX1_leastPolynomial, .selects RX1 yX1_leastPolynomial yX1_leastPolynomial, .code yX4_minimal cX4_minimal 3 (some .int), .methodLink RX4 128 yX1_valueOf, .instanceMethod yX1_valueOf, .selects RX1 yX1_valueOf yX1_valueOf, .code yX4_value cX4_value 2 (some .int), .methodLink RX4 132 yX1_normOf, .code yX4_norm cX4_norm 2 (some .int), .code yX4_requireSome cX4_requireSome 1 none, .classLink RX4 183 "java/lang/IllegalStateException", .initialized "java/lang/IllegalStateException", .methodLink RX4 180 yX2_degree, .methodLink RX4 136 yX4_requireSome, .instanceMethod yX4_requireSome, .selects RX4 yX4_requireSome yX4_requireSome, .methodLink RX4 139 yX3_find, .instanceMethod yX3_find, .selects RX3 yX3_find yX3_find, .methodLink RX4 146 yX1_leastShift, .instanceMethod yX1_leastShift, .selects RX1 yX1_leastShift yX1_leastShift, .code yX4_shift cX4_shift 1 (some .int), .code yX4_factors cX4_factors 1 (some .int), .code yX4_requireFactor cX4_requireFactor 2 none, .methodLink RX4 153 yX4_requireFactor, .instanceMethod yX4_requireFactor, .selects RX4 yX4_requireFactor yX4_requireFactor, .methodLink RX4 156 yX3_part, .code yX4_factor cX4_factor 3 (some .int), .methodLink RX4 159 yX3_timesOf, .instanceMethod yX3_timesOf]
def BW5 : List Cond := [.selects RX3 yX3_timesOf yX3_timesOf, .code yX4_often cX4_often 2 (some .int), .methodLink RX4 162 yX3_commonDegree, .instanceMethod yX3_commonDegree, .selects RX3 yX3_commonDegree yX3_commonDegree, .code yX4_splitting cX4_splitting 1 (some .int), .methodLink RX4 166 yX1_displace, .code yX4_move cX4_move 2 none, .methodLink RX4 170 yX2_copy, .code yX4_take cX4_take 2 none, .code yX5_init cX5_init 2 none, .methodLink RX5 1 objectInit, .fieldLink RX5 7 "NumberFieldFactorsModel" "k" "I", .constantLong RX5 13 (101), .fieldLink RX5 15 "NumberFieldFactorsModel" "many" "J", .fieldLink RX5 19 "NumberFieldFactorsModel" "modulus" "[I", .fieldLink RX5 23 "NumberFieldFactorsModel" "digits" "[I", .fieldLink RX5 26 "NumberFieldFactorsModel" "row" "[I", .fieldLink RX5 29 "NumberFieldFactorsModel" "degree" "[I", .fieldLink RX5 32 "NumberFieldFactorsModel" "often" "[I", .code yX5_thrown cX5_thrown 1 (some .int), .fieldLink RX5 35 "NumberFieldFactorsModel" "thrown" "I", .code yX5_fails cX5_fails 3 (some .boolean), .code yX5_isElement cX5_isElement 2 (some .boolean), .code yX5_digit cX5_digit 2 (some .int), .code yX5_add cX5_add 5 (some .int), .code yX5_negative cX5_negative 4 (some .int), .code yX5_less cX5_less 2 (some .int), .methodLink RX5 38 yX5_negative, .static yX5_negative, .initialized RX5, .methodLink RX5 42 yX5_add, .static yX5_add, .code yX5_times cX5_times 6 (some .int), .methodLink RX5 46 yX5_digit, .static yX5_digit, .code yX5_power cX5_power 8 (some .int), .methodLink RX5 49 yX5_times, .instanceMethod yX5_times, .selects RX5 yX5_times yX5_times, .code yX5_inverse cX5_inverse 2 (some .int), .constantLong RX5 52 (2), .methodLink RX5 54 yX5_power, .instanceMethod yX5_power, .selects RX5 yX5_power yX5_power, .code yX5_mate cX5_mate 5 (some .int), .code yX5_mates cX5_mates 3 (some .int), .methodLink RX5 58 yX5_mate, .instanceMethod yX5_mate, .selects RX5 yX5_mate yX5_mate, .code yX5_number cX5_number 3 (some .int), .code yX5_clear cX5_clear 3 none, .code yX5_field cX5_field 13 (some .boolean), .constantLong RX5 69 (10201), .constantLong RX5 71 (1030301), .fieldLink RX5 77 "NumberFieldFactorsModel" "known" "Z", .methodLink RX5 61 yX5_fails, .instanceMethod yX5_fails, .selects RX5 yX5_fails yX5_fails, .methodLink RX5 65 yX5_number]
def BW6 : List Cond := [.static yX5_number, .methodLink RX5 73 yX5_clear, .instanceMethod yX5_clear, .selects RX5 yX5_clear yX5_clear, .code yX5_modulus cX5_modulus 2 (some .int), .code yX5_copy cX5_copy 4 none, .code yX5_set cX5_set 5 none, .code yX5_cell cX5_cell 3 (some .int), .code yX5_product cX5_product 6 none, .methodLink RX5 81 yX5_cell, .instanceMethod yX5_cell, .selects RX5 yX5_cell yX5_cell, .methodLink RX5 84 yX5_inverse, .instanceMethod yX5_inverse, .selects RX5 yX5_inverse yX5_inverse, .methodLink RX5 87 yX5_less, .static yX5_less, .methodLink RX5 90 yX5_set, .instanceMethod yX5_set, .selects RX5 yX5_set yX5_set, .code yX5_divide cX5_divide 9 none, .code yX5_monic cX5_monic 4 none, .methodLink RX5 94 yX5_divide, .instanceMethod yX5_divide, .selects RX5 yX5_divide yX5_divide, .methodLink RX5 97 yX5_copy, .instanceMethod yX5_copy, .selects RX5 yX5_copy yX5_copy, .methodLink RX5 101 yX5_monic, .instanceMethod yX5_monic, .selects RX5 yX5_monic yX5_monic, .code yX5_divisor cX5_divisor 4 none, .code yX5_slope cX5_slope 4 none, .methodLink RX5 104 yX5_product, .instanceMethod yX5_product, .selects RX5 yX5_product yX5_product, .code yX5_powers cX5_powers 8 none, .code yX5_moved cX5_moved 6 none, .code yX5_normOf cX5_normOf 5 none, .code yX5_isPower cX5_isPower 2 (some .boolean), .methodLink RX5 107 yX5_isPower, .instanceMethod yX5_isPower, .selects RX5 yX5_isPower yX5_isPower, .methodLink RX5 111 yX5_isElement, .instanceMethod yX5_isElement, .selects RX5 yX5_isElement yX5_isElement, .code yX5_put cX5_put 4 (some .boolean), .code yX5_at cX5_at 2 (some .int), .code yX5_reckon cX5_reckon 5 (some .int), .methodLink RX5 114 yX5_mates, .instanceMethod yX5_mates, .selects RX5 yX5_mates yX5_mates, .code yX5_known cX5_known 6 (some .int), .code yX5_minimal cX5_minimal 5 (some .int), .code yX5_value cX5_value 4 (some .int), .methodLink RX5 117 yX5_normOf, .instanceMethod yX5_normOf, .selects RX5 yX5_normOf yX5_normOf, .code yX5_norm cX5_norm 2 (some .int), .methodLink RX5 120 yX5_slope]
def BW7 : List Cond := [.instanceMethod yX5_slope, .selects RX5 yX5_slope yX5_slope, .methodLink RX5 123 yX5_divisor, .instanceMethod yX5_divisor, .selects RX5 yX5_divisor yX5_divisor, .code yX5_root cX5_root 1 none, .code yX5_found cX5_found 2 none, .fieldLink RX5 126 "NumberFieldFactorsModel" "factors" "I", .methodLink RX5 129 yX5_found, .instanceMethod yX5_found, .selects RX5 yX5_found yX5_found, .methodLink RX5 132 yX5_powers, .instanceMethod yX5_powers, .selects RX5 yX5_powers yX5_powers, .code yX5_parts cX5_parts 7 none, .methodLink RX5 136 yX5_parts, .instanceMethod yX5_parts, .selects RX5 yX5_parts yX5_parts, .code yX5_split cX5_split 2 none, .code yX5_isAhead cX5_isAhead 4 (some .boolean), .code yX5_order cX5_order 3 none, .methodLink RX5 139 yX5_isAhead, .instanceMethod yX5_isAhead, .selects RX5 yX5_isAhead yX5_isAhead, .methodLink RX5 143 yX5_root, .instanceMethod yX5_root, .selects RX5 yX5_root yX5_root, .methodLink RX5 146 yX5_split, .instanceMethod yX5_split, .selects RX5 yX5_split yX5_split, .methodLink RX5 149 yX5_order, .instanceMethod yX5_order, .selects RX5 yX5_order yX5_order, .code yX5_factorise cX5_factorise 3 none, .code yX5_isNothing cX5_isNothing 1 (some .boolean), .methodLink RX5 152 yX5_isNothing, .instanceMethod yX5_isNothing, .selects RX5 yX5_isNothing yX5_isNothing, .methodLink RX5 156 yX5_moved, .instanceMethod yX5_moved, .selects RX5 yX5_moved yX5_moved, .code yX5_shift cX5_shift 4 (some .int), .methodLink RX5 159 yX5_factorise, .instanceMethod yX5_factorise, .selects RX5 yX5_factorise yX5_factorise, .code yX5_factors cX5_factors 1 (some .int), .code yX5_lacks cX5_lacks 2 (some .boolean), .methodLink RX5 162 yX5_lacks, .instanceMethod yX5_lacks, .selects RX5 yX5_lacks yX5_lacks, .code yX5_factor cX5_factor 3 (some .int), .code yX5_often cX5_often 2 (some .int), .code yX5_splitting cX5_splitting 4 (some .int), .code yX5_move cX5_move 2 none, .code yX5_take cX5_take 2 none, .classLink RL 13 "java/lang/IllegalArgumentException", .methodLink RL 7 yX4_field, .instanceMethod yX4_field, .selects RX4 yX4_field yX4_field, .codeWith yL_field cL_field 10 (some .int) [(0, 22, 25, 13)]]
def BW8 : List Cond := [.codeWith yL_modulus cL_modulus 4 (some .int) [(0, 9, 12, 19)], .classLink RL 19 "java/lang/IndexOutOfBoundsException", .methodLink RL 15 yX4_modulus, .instanceMethod yX4_modulus, .selects RX4 yX4_modulus yX4_modulus, .methodLink RL 21 yX4_put, .instanceMethod yX4_put, .selects RX4 yX4_put yX4_put, .codeWith yL_put cL_put 5 (some .int) [(0, 17, 20, 19), (0, 17, 24, 13)], .codeWith yL_at cL_at 4 (some .int) [(0, 9, 12, 19)], .methodLink RL 25 yX4_at, .instanceMethod yX4_at, .selects RX4 yX4_at yX4_at, .classLink RL 32 "java/lang/ArithmeticException", .methodLink RL 28 yX4_reckon, .instanceMethod yX4_reckon, .selects RX4 yX4_reckon yX4_reckon, .codeWith yL_reckon cL_reckon 6 (some .int) [(0, 12, 15, 13), (0, 12, 19, 32)], .methodLink RL 34 yX4_known, .instanceMethod yX4_known, .selects RX4 yX4_known yX4_known, .codeWith yL_known cL_known 5 (some .int) [(0, 10, 13, 13)], .methodLink RL 38 yX4_minimal, .instanceMethod yX4_minimal, .selects RX4 yX4_minimal yX4_minimal, .codeWith yL_minimal cL_minimal 5 (some .int) [(0, 10, 13, 19), (0, 10, 17, 13)], .methodLink RL 41 yX4_value, .instanceMethod yX4_value, .selects RX4 yX4_value yX4_value, .codeWith yL_value cL_value 4 (some .int) [(0, 9, 12, 13)], .classLink RL 48 "java/lang/IllegalStateException", .methodLink RL 44 yX4_shift, .instanceMethod yX4_shift, .selects RX4 yX4_shift yX4_shift, .codeWith yL_shift cL_shift 3 (some .int) [(0, 8, 11, 48)], .methodLink RL 50 yX4_factors, .instanceMethod yX4_factors, .selects RX4 yX4_factors yX4_factors, .codeWith yL_factors cL_factors 3 (some .int) [(0, 8, 11, 48)], .methodLink RL 53 yX4_factor, .instanceMethod yX4_factor, .selects RX4 yX4_factor yX4_factor, .codeWith yL_factor cL_factor 5 (some .int) [(0, 10, 13, 48), (0, 10, 17, 19)], .methodLink RL 56 yX4_often, .instanceMethod yX4_often, .selects RX4 yX4_often yX4_often, .codeWith yL_often cL_often 4 (some .int) [(0, 9, 12, 48), (0, 9, 15, 19)], .methodLink RL 59 yX4_splitting, .instanceMethod yX4_splitting, .selects RX4 yX4_splitting yX4_splitting, .codeWith yL_splitting cL_splitting 3 (some .int) [(0, 8, 11, 48)], .methodLink RL 62 yX4_move, .instanceMethod yX4_move, .selects RX4 yX4_move yX4_move, .codeWith yL_move cL_move 3 (some .int) [(0, 5, 8, 13)], .methodLink RL 66 yX4_take, .instanceMethod yX4_take, .selects RX4 yX4_take yX4_take, .codeWith yL_take cL_take 3 (some .int) [(0, 5, 8, 48), (0, 5, 11, 19)], .classLink RL 8 RX4]
def BW9 : List Cond := [.instantiable RX4 3, .classLink RL 70 RX5, .instantiable RX5 10, .arrayClass .long, .constantLong RL 73 (4294967295), .methodLink RL 69 yX4_init, .instanceMethod yX4_init, .methodLink RL 72 yX5_init, .instanceMethod yX5_init, .methodLink RL 75 yL_field, .static yL_field, .initialized RL, .methodLink RL 80 yX5_field, .instanceMethod yX5_field, .selects RX5 yX5_field yX5_field, .methodLink RL 81 yX5_thrown, .instanceMethod yX5_thrown, .selects RX5 yX5_thrown yX5_thrown, .methodLink RL 84 yL_modulus, .static yL_modulus, .methodLink RL 87 yX5_modulus, .instanceMethod yX5_modulus, .selects RX5 yX5_modulus yX5_modulus, .methodLink RL 88 yL_put, .static yL_put, .methodLink RL 91 yX5_put, .instanceMethod yX5_put, .selects RX5 yX5_put yX5_put, .methodLink RL 92 yL_at, .static yL_at, .methodLink RL 94 yX5_at, .instanceMethod yX5_at, .selects RX5 yX5_at yX5_at, .methodLink RL 95 yL_reckon, .static yL_reckon, .methodLink RL 98 yX5_reckon, .instanceMethod yX5_reckon, .selects RX5 yX5_reckon yX5_reckon, .methodLink RL 99 yL_known, .static yL_known, .methodLink RL 101 yX5_known, .instanceMethod yX5_known, .selects RX5 yX5_known yX5_known, .methodLink RL 102 yL_minimal, .static yL_minimal, .methodLink RL 104 yX5_minimal, .instanceMethod yX5_minimal, .selects RX5 yX5_minimal yX5_minimal, .methodLink RL 105 yL_value, .static yL_value, .methodLink RL 107 yX5_value, .instanceMethod yX5_value, .selects RX5 yX5_value yX5_value, .methodLink RL 108 yX4_norm, .instanceMethod yX4_norm, .selects RX4 yX4_norm yX4_norm, .methodLink RL 111 yX5_norm, .instanceMethod yX5_norm, .selects RX5 yX5_norm yX5_norm, .methodLink RL 112 yL_shift]
def BW10 : List Cond := [.static yL_shift, .methodLink RL 115 yX5_shift, .instanceMethod yX5_shift, .selects RX5 yX5_shift yX5_shift, .methodLink RL 116 yL_factors, .static yL_factors, .methodLink RL 118 yX5_factors, .instanceMethod yX5_factors, .selects RX5 yX5_factors yX5_factors, .methodLink RL 119 yL_factor, .static yL_factor, .methodLink RL 121 yX5_factor, .instanceMethod yX5_factor, .selects RX5 yX5_factor yX5_factor, .methodLink RL 122 yL_often, .static yL_often, .methodLink RL 124 yX5_often, .instanceMethod yX5_often, .selects RX5 yX5_often yX5_often, .methodLink RL 125 yL_splitting, .static yL_splitting, .methodLink RL 127 yX5_splitting, .instanceMethod yX5_splitting, .selects RX5 yX5_splitting yX5_splitting, .methodLink RL 128 yL_move, .static yL_move, .methodLink RL 131 yX5_move, .instanceMethod yX5_move, .selects RX5 yX5_move yX5_move, .methodLink RL 132 yL_take, .static yL_take, .methodLink RL 134 yX5_take, .instanceMethod yX5_take, .selects RX5 yX5_take yX5_take]
def BWx0 : List Cond := (vx_atS RX4 34 "java/lang/IllegalArgumentException" ["java/lang/RuntimeException", "java/lang/Exception"]).filter goodWord
def BWx1 : List Cond := (vx_atS RX4 61 "java/lang/IndexOutOfBoundsException" ["java/lang/RuntimeException", "java/lang/Exception"]).filter goodWord
def BWx2 : List Cond := (vx_atS RX4 86 "java/lang/ArithmeticException" ["java/lang/RuntimeException", "java/lang/Exception"]).filter goodWord
def BWx3 : List Cond := (vx_atS RX4 187 "java/lang/IllegalStateException" ["java/lang/RuntimeException", "java/lang/Exception"]).filter goodWord
def BW : List Cond := BW0 ++ (BW1 ++ (BW2 ++ (BW3 ++ (BW4 ++ (BW5 ++ (BW6 ++ (BW7 ++ (BW8 ++ (BW9 ++ (BW10 ++ (wsX00 ++ (wsX10 ++ (wsX20 ++ (wsX30 ++ (wsX40 ++ (wsX50 ++ (wsJ00 ++ (BWx0 ++ (BWx1 ++ (BWx2 ++ (BWx3)))))))))))))))))))))
theorem mw_0 : Cond.code yX0_init cX0_init 1 none ∈ BW := List.mem_append_left _ (List.mem_of_getElem? (i := 0) rfl)
theorem mw_1 : Cond.methodLink RX0 3 objectInit ∈ BW := List.mem_append_left _ (List.mem_of_getElem? (i := 1) rfl)
theorem mw_2 : Cond.instanceMethod objectInit ∈ BW := List.mem_append_left _ (List.mem_of_getElem? (i := 2) rfl)
theorem mw_3 : Cond.code objectInit ⟨#[0xb1]⟩ 1 none ∈ BW := List.mem_append_left _ (List.mem_of_getElem? (i := 3) rfl)
theorem mw_4 : Cond.fieldLink RX0 9 "NumberFieldFactors$Extension" "degree" "I" ∈ BW := List.mem_append_left _ (List.mem_of_getElem? (i := 4) rfl)
theorem mw_5 : Cond.fieldLink RX0 15 "NumberFieldFactors$Extension" "size" "I" ∈ BW := List.mem_append_left _ (List.mem_of_getElem? (i := 5) rfl)
theorem mw_6 : Cond.fieldLink RX0 18 "NumberFieldFactors$Extension" "low0" "I" ∈ BW := List.mem_append_left _ (List.mem_of_getElem? (i := 6) rfl)
theorem mw_7 : Cond.fieldLink RX0 21 "NumberFieldFactors$Extension" "low1" "I" ∈ BW := List.mem_append_left _ (List.mem_of_getElem? (i := 7) rfl)
theorem mw_8 : Cond.fieldLink RX0 24 "NumberFieldFactors$Extension" "low2" "I" ∈ BW := List.mem_append_left _ (List.mem_of_getElem? (i := 8) rfl)
theorem mw_9 : Cond.fieldLink RX0 27 "NumberFieldFactors$Extension" "t" "I" ∈ BW := List.mem_append_left _ (List.mem_of_getElem? (i := 9) rfl)
theorem mw_10 : Cond.fieldLink RX0 30 "NumberFieldFactors$Extension" "mateOfT" "I" ∈ BW := List.mem_append_left _ (List.mem_of_getElem? (i := 10) rfl)
theorem mw_11 : Cond.fieldLink RX0 33 "NumberFieldFactors$Extension" "mateOfTSquared" "I" ∈ BW := List.mem_append_left _ (List.mem_of_getElem? (i := 11) rfl)
theorem mw_12 : Cond.code yX0_hasRoot cX0_hasRoot 6 (some .boolean) ∈ BW := List.mem_append_left _ (List.mem_of_getElem? (i := 12) rfl)
theorem mw_13 : Cond.code yX0_times cX0_times 15 (some .int) ∈ BW := List.mem_append_left _ (List.mem_of_getElem? (i := 13) rfl)
theorem mw_14 : Cond.code yX0_power cX0_power 6 (some .int) ∈ BW := List.mem_append_left _ (List.mem_of_getElem? (i := 14) rfl)
theorem mw_15 : Cond.methodLink RX0 45 yX0_times ∈ BW := List.mem_append_left _ (List.mem_of_getElem? (i := 15) rfl)
theorem mw_16 : Cond.instanceMethod yX0_times ∈ BW := List.mem_append_left _ (List.mem_of_getElem? (i := 16) rfl)
theorem mw_17 : Cond.selects RX0 yX0_times yX0_times ∈ BW := List.mem_append_left _ (List.mem_of_getElem? (i := 17) rfl)
theorem mw_18 : Cond.initialized RX0 ∈ BW := List.mem_append_left _ (List.mem_of_getElem? (i := 18) rfl)
theorem mw_19 : Cond.code yX0_become cX0_become 7 (some .boolean) ∈ BW := List.mem_append_left _ (List.mem_of_getElem? (i := 19) rfl)
theorem mw_20 : Cond.constant RX0 40 (1030301) ∈ BW := List.mem_append_left _ (List.mem_of_getElem? (i := 20) rfl)
theorem mw_21 : Cond.methodLink RX0 36 yX0_hasRoot ∈ BW := List.mem_append_left _ (List.mem_of_getElem? (i := 21) rfl)
theorem mw_22 : Cond.static yX0_hasRoot ∈ BW := List.mem_append_left _ (List.mem_of_getElem? (i := 22) rfl)
theorem mw_23 : Cond.methodLink RX0 41 yX0_power ∈ BW := List.mem_append_left _ (List.mem_of_getElem? (i := 23) rfl)
theorem mw_24 : Cond.instanceMethod yX0_power ∈ BW := List.mem_append_left _ (List.mem_of_getElem? (i := 24) rfl)
theorem mw_25 : Cond.selects RX0 yX0_power yX0_power ∈ BW := List.mem_append_left _ (List.mem_of_getElem? (i := 25) rfl)
theorem mw_26 : Cond.code yX0_modulusAt cX0_modulusAt 2 (some .int) ∈ BW := List.mem_append_left _ (List.mem_of_getElem? (i := 26) rfl)
theorem mw_27 : Cond.code yX0_plus cX0_plus 6 (some .int) ∈ BW := List.mem_append_left _ (List.mem_of_getElem? (i := 27) rfl)
theorem mw_28 : Cond.code yX0_minus cX0_minus 6 (some .int) ∈ BW := List.mem_append_left _ (List.mem_of_getElem? (i := 28) rfl)
theorem mw_29 : Cond.code yX0_mate cX0_mate 4 (some .int) ∈ BW := List.mem_append_left _ (List.mem_of_getElem? (i := 29) rfl)
theorem mw_30 : Cond.methodLink RX0 48 yX0_plus ∈ BW := List.mem_append_left _ (List.mem_of_getElem? (i := 30) rfl)
theorem mw_31 : Cond.instanceMethod yX0_plus ∈ BW := List.mem_append_left _ (List.mem_of_getElem? (i := 31) rfl)
theorem mw_32 : Cond.selects RX0 yX0_plus yX0_plus ∈ BW := List.mem_append_left _ (List.mem_of_getElem? (i := 32) rfl)
theorem mw_33 : Cond.code yX0_isSquare cX0_isSquare 2 (some .boolean) ∈ BW := List.mem_append_left _ (List.mem_of_getElem? (i := 33) rfl)
theorem mw_34 : Cond.code yX0_matesProduct cX0_matesProduct 5 (some .int) ∈ BW := List.mem_append_left _ (List.mem_of_getElem? (i := 34) rfl)
theorem mw_35 : Cond.methodLink RX0 51 yX0_mate ∈ BW := List.mem_append_left _ (List.mem_of_getElem? (i := 35) rfl)
theorem mw_36 : Cond.instanceMethod yX0_mate ∈ BW := List.mem_append_left _ (List.mem_of_getElem? (i := 36) rfl)
theorem mw_37 : Cond.selects RX0 yX0_mate yX0_mate ∈ BW := List.mem_append_left _ (List.mem_of_getElem? (i := 37) rfl)
theorem mw_38 : Cond.code yX0_matesSum cX0_matesSum 5 (some .int) ∈ BW := List.mem_append_left _ (List.mem_of_getElem? (i := 38) rfl)
theorem mw_39 : Cond.code yX0_differentMates cX0_differentMates 2 (some .int) ∈ BW := List.mem_append_left _ (List.mem_of_getElem? (i := 39) rfl)
theorem mw_40 : Cond.code yX2_init cX2_init 1 none ∈ BW := List.mem_append_left _ (List.mem_of_getElem? (i := 40) rfl)
theorem mw_41 : Cond.methodLink RX2 3 objectInit ∈ BW := List.mem_append_left _ (List.mem_of_getElem? (i := 41) rfl)
theorem mw_42 : Cond.arrayClass .int ∈ BW := List.mem_append_left _ (List.mem_of_getElem? (i := 42) rfl)
theorem mw_43 : Cond.fieldLink RX2 9 "NumberFieldFactors$Row" "elements" "[I" ∈ BW := List.mem_append_left _ (List.mem_of_getElem? (i := 43) rfl)
theorem mw_44 : Cond.methodLink RX1 3 objectInit ∈ BW := List.mem_append_left _ (List.mem_of_getElem? (i := 44) rfl)
theorem mw_45 : Cond.classLink RX1 9 RX0 ∈ BW := List.mem_append_left _ (List.mem_of_getElem? (i := 45) rfl)
theorem mw_46 : Cond.instantiable RX0 8 ∈ BW := List.mem_append_left _ (List.mem_of_getElem? (i := 46) rfl)
theorem mw_47 : Cond.fieldLink RX1 12 "NumberFieldFactors$Ring" "extension" "LNumberFieldFactors$Extension;" ∈ BW := List.mem_append_left _ (List.mem_of_getElem? (i := 47) rfl)
theorem mw_48 : Cond.classLink RX1 18 RX2 ∈ BW := List.mem_append_left _ (List.mem_of_getElem? (i := 48) rfl)
theorem mw_49 : Cond.instantiable RX2 1 ∈ BW := List.mem_append_left _ (List.mem_of_getElem? (i := 49) rfl)
theorem mw_50 : Cond.initialized RX2 ∈ BW := List.mem_append_left _ (List.mem_of_getElem? (i := 50) rfl)
theorem mw_51 : Cond.fieldLink RX1 21 "NumberFieldFactors$Ring" "wide" "LNumberFieldFactors$Row;" ∈ BW := List.mem_append_left _ (List.mem_of_getElem? (i := 51) rfl)
theorem mw_52 : Cond.fieldLink RX1 25 "NumberFieldFactors$Ring" "quotient" "LNumberFieldFactors$Row;" ∈ BW := List.mem_append_left _ (List.mem_of_getElem? (i := 52) rfl)
theorem mw_53 : Cond.fieldLink RX1 28 "NumberFieldFactors$Ring" "older" "LNumberFieldFactors$Row;" ∈ BW := List.mem_append_left _ (List.mem_of_getElem? (i := 53) rfl)
theorem mw_54 : Cond.fieldLink RX1 31 "NumberFieldFactors$Ring" "newer" "LNumberFieldFactors$Row;" ∈ BW := List.mem_append_left _ (List.mem_of_getElem? (i := 54) rfl)
theorem mw_55 : Cond.fieldLink RX1 34 "NumberFieldFactors$Ring" "derived" "LNumberFieldFactors$Row;" ∈ BW := List.mem_append_left _ (List.mem_of_getElem? (i := 55) rfl)
theorem mw_56 : Cond.fieldLink RX1 37 "NumberFieldFactors$Ring" "mates" "LNumberFieldFactors$Row;" ∈ BW := List.mem_append_left _ (List.mem_of_getElem? (i := 56) rfl)
theorem mw_57 : Cond.fieldLink RX1 40 "NumberFieldFactors$Ring" "product" "LNumberFieldFactors$Row;" ∈ BW := List.mem_append_left _ (List.mem_of_getElem? (i := 57) rfl)
theorem mw_58 : Cond.fieldLink RX1 43 "NumberFieldFactors$Ring" "moved" "LNumberFieldFactors$Row;" ∈ BW := List.mem_append_left _ (List.mem_of_getElem? (i := 58) rfl)
theorem mw_59 : Cond.fieldLink RX1 46 "NumberFieldFactors$Ring" "least" "LNumberFieldFactors$Row;" ∈ BW := List.mem_append_left _ (List.mem_of_getElem? (i := 59) rfl)
theorem mw_60 : Cond.fieldLink RX1 49 "NumberFieldFactors$Ring" "common" "LNumberFieldFactors$Row;" ∈ BW := List.mem_append_right _ (List.mem_append_left _ (List.mem_of_getElem? (i := 0) rfl))
theorem mw_61 : Cond.instanceMethod yX0_init ∈ BW := List.mem_append_right _ (List.mem_append_left _ (List.mem_of_getElem? (i := 1) rfl))
theorem mw_62 : Cond.instanceMethod yX2_init ∈ BW := List.mem_append_right _ (List.mem_append_left _ (List.mem_of_getElem? (i := 2) rfl))
theorem mw_63 : Cond.code yX1_init cX1_init 1 none ∈ BW := List.mem_append_right _ (List.mem_append_left _ (List.mem_of_getElem? (i := 3) rfl))
theorem mw_64 : Cond.code yX2_degree cX2_degree 2 (some .int) ∈ BW := List.mem_append_right _ (List.mem_append_left _ (List.mem_of_getElem? (i := 4) rfl))
theorem mw_65 : Cond.code yX2_get cX2_get 2 (some .int) ∈ BW := List.mem_append_right _ (List.mem_append_left _ (List.mem_of_getElem? (i := 5) rfl))
theorem mw_66 : Cond.code yX1_valueOf cX1_valueOf 5 (some .int) ∈ BW := List.mem_append_right _ (List.mem_append_left _ (List.mem_of_getElem? (i := 6) rfl))
theorem mw_67 : Cond.methodLink RX1 52 yX2_degree ∈ BW := List.mem_append_right _ (List.mem_append_left _ (List.mem_of_getElem? (i := 7) rfl))
theorem mw_68 : Cond.instanceMethod yX2_degree ∈ BW := List.mem_append_right _ (List.mem_append_left _ (List.mem_of_getElem? (i := 8) rfl))
theorem mw_69 : Cond.selects RX2 yX2_degree yX2_degree ∈ BW := List.mem_append_right _ (List.mem_append_left _ (List.mem_of_getElem? (i := 9) rfl))
theorem mw_70 : Cond.methodLink RX1 56 yX0_times ∈ BW := List.mem_append_right _ (List.mem_append_left _ (List.mem_of_getElem? (i := 10) rfl))
theorem mw_71 : Cond.methodLink RX1 60 yX2_get ∈ BW := List.mem_append_right _ (List.mem_append_left _ (List.mem_of_getElem? (i := 11) rfl))
theorem mw_72 : Cond.instanceMethod yX2_get ∈ BW := List.mem_append_right _ (List.mem_append_left _ (List.mem_of_getElem? (i := 12) rfl))
theorem mw_73 : Cond.selects RX2 yX2_get yX2_get ∈ BW := List.mem_append_right _ (List.mem_append_left _ (List.mem_of_getElem? (i := 13) rfl))
theorem mw_74 : Cond.methodLink RX1 64 yX0_plus ∈ BW := List.mem_append_right _ (List.mem_append_left _ (List.mem_of_getElem? (i := 14) rfl))
theorem mw_75 : Cond.code yX2_set cX2_set 3 none ∈ BW := List.mem_append_right _ (List.mem_append_left _ (List.mem_of_getElem? (i := 15) rfl))
theorem mw_76 : Cond.methodLink RX1 67 yX2_set ∈ BW := List.mem_append_right _ (List.mem_append_left _ (List.mem_of_getElem? (i := 16) rfl))
theorem mw_77 : Cond.instanceMethod yX2_set ∈ BW := List.mem_append_right _ (List.mem_append_left _ (List.mem_of_getElem? (i := 17) rfl))
theorem mw_78 : Cond.selects RX2 yX2_set yX2_set ∈ BW := List.mem_append_right _ (List.mem_append_left _ (List.mem_of_getElem? (i := 18) rfl))
theorem mw_79 : Cond.code yX1_displace cX1_displace 6 none ∈ BW := List.mem_append_right _ (List.mem_append_left _ (List.mem_of_getElem? (i := 19) rfl))
theorem mw_80 : Cond.code yX2_clear cX2_clear 2 none ∈ BW := List.mem_append_right _ (List.mem_append_left _ (List.mem_of_getElem? (i := 20) rfl))
theorem mw_81 : Cond.code yX2_copy cX2_copy 3 none ∈ BW := List.mem_append_right _ (List.mem_append_left _ (List.mem_of_getElem? (i := 21) rfl))
theorem mw_82 : Cond.methodLink RX2 15 yX2_get ∈ BW := List.mem_append_right _ (List.mem_append_left _ (List.mem_of_getElem? (i := 22) rfl))
theorem mw_83 : Cond.methodLink RX1 71 yX2_clear ∈ BW := List.mem_append_right _ (List.mem_append_left _ (List.mem_of_getElem? (i := 23) rfl))
theorem mw_84 : Cond.instanceMethod yX2_clear ∈ BW := List.mem_append_right _ (List.mem_append_left _ (List.mem_of_getElem? (i := 24) rfl))
theorem mw_85 : Cond.selects RX2 yX2_clear yX2_clear ∈ BW := List.mem_append_right _ (List.mem_append_left _ (List.mem_of_getElem? (i := 25) rfl))
theorem mw_86 : Cond.methodLink RX1 74 yX2_copy ∈ BW := List.mem_append_right _ (List.mem_append_left _ (List.mem_of_getElem? (i := 26) rfl))
theorem mw_87 : Cond.instanceMethod yX2_copy ∈ BW := List.mem_append_right _ (List.mem_append_left _ (List.mem_of_getElem? (i := 27) rfl))
theorem mw_88 : Cond.selects RX2 yX2_copy yX2_copy ∈ BW := List.mem_append_right _ (List.mem_append_left _ (List.mem_of_getElem? (i := 28) rfl))
theorem mw_89 : Cond.code yX1_multiply cX1_multiply 8 none ∈ BW := List.mem_append_right _ (List.mem_append_left _ (List.mem_of_getElem? (i := 29) rfl))
theorem mw_90 : Cond.code yX1_multiplyLinear cX1_multiplyLinear 4 none ∈ BW := List.mem_append_right _ (List.mem_append_left _ (List.mem_of_getElem? (i := 30) rfl))
theorem mw_91 : Cond.methodLink RX1 78 yX0_minus ∈ BW := List.mem_append_right _ (List.mem_append_left _ (List.mem_of_getElem? (i := 31) rfl))
theorem mw_92 : Cond.instanceMethod yX0_minus ∈ BW := List.mem_append_right _ (List.mem_append_left _ (List.mem_of_getElem? (i := 32) rfl))
theorem mw_93 : Cond.selects RX0 yX0_minus yX0_minus ∈ BW := List.mem_append_right _ (List.mem_append_left _ (List.mem_of_getElem? (i := 33) rfl))
theorem mw_94 : Cond.code yX1_divide cX1_divide 8 none ∈ BW := List.mem_append_right _ (List.mem_append_left _ (List.mem_of_getElem? (i := 34) rfl))
theorem mw_95 : Cond.methodLink RX1 85 yX0_power ∈ BW := List.mem_append_right _ (List.mem_append_left _ (List.mem_of_getElem? (i := 35) rfl))
theorem mw_96 : Cond.code yX1_makeMonic cX1_makeMonic 6 none ∈ BW := List.mem_append_right _ (List.mem_append_left _ (List.mem_of_getElem? (i := 36) rfl))
theorem mw_97 : Cond.methodLink RX1 88 yX1_makeMonic ∈ BW := List.mem_append_right _ (List.mem_append_left _ (List.mem_of_getElem? (i := 37) rfl))
theorem mw_98 : Cond.instanceMethod yX1_makeMonic ∈ BW := List.mem_append_right _ (List.mem_append_left _ (List.mem_of_getElem? (i := 38) rfl))
theorem mw_99 : Cond.selects RX1 yX1_makeMonic yX1_makeMonic ∈ BW := List.mem_append_right _ (List.mem_append_left _ (List.mem_of_getElem? (i := 39) rfl))
theorem mw_100 : Cond.initialized RX1 ∈ BW := List.mem_append_right _ (List.mem_append_left _ (List.mem_of_getElem? (i := 40) rfl))
theorem mw_101 : Cond.methodLink RX1 91 yX1_divide ∈ BW := List.mem_append_right _ (List.mem_append_left _ (List.mem_of_getElem? (i := 41) rfl))
theorem mw_102 : Cond.instanceMethod yX1_divide ∈ BW := List.mem_append_right _ (List.mem_append_left _ (List.mem_of_getElem? (i := 42) rfl))
theorem mw_103 : Cond.selects RX1 yX1_divide yX1_divide ∈ BW := List.mem_append_right _ (List.mem_append_left _ (List.mem_of_getElem? (i := 43) rfl))
theorem mw_104 : Cond.code yX1_findCommon cX1_findCommon 8 none ∈ BW := List.mem_append_right _ (List.mem_append_left _ (List.mem_of_getElem? (i := 44) rfl))
theorem mw_105 : Cond.methodLink RX1 95 yX1_findCommon ∈ BW := List.mem_append_right _ (List.mem_append_left _ (List.mem_of_getElem? (i := 45) rfl))
theorem mw_106 : Cond.instanceMethod yX1_findCommon ∈ BW := List.mem_append_right _ (List.mem_append_left _ (List.mem_of_getElem? (i := 46) rfl))
theorem mw_107 : Cond.selects RX1 yX1_findCommon yX1_findCommon ∈ BW := List.mem_append_right _ (List.mem_append_left _ (List.mem_of_getElem? (i := 47) rfl))
theorem mw_108 : Cond.code yX1_findSquares cX1_findSquares 4 none ∈ BW := List.mem_append_right _ (List.mem_append_left _ (List.mem_of_getElem? (i := 48) rfl))
theorem mw_109 : Cond.code yX2_becomeOne cX2_becomeOne 1 none ∈ BW := List.mem_append_right _ (List.mem_append_left _ (List.mem_of_getElem? (i := 49) rfl))
theorem mw_110 : Cond.methodLink RX2 19 yX2_clear ∈ BW := List.mem_append_right _ (List.mem_append_left _ (List.mem_of_getElem? (i := 50) rfl))
theorem mw_111 : Cond.methodLink RX2 22 yX2_set ∈ BW := List.mem_append_right _ (List.mem_append_left _ (List.mem_of_getElem? (i := 51) rfl))
theorem mw_112 : Cond.methodLink RX1 99 yX2_becomeOne ∈ BW := List.mem_append_right _ (List.mem_append_left _ (List.mem_of_getElem? (i := 52) rfl))
theorem mw_113 : Cond.instanceMethod yX2_becomeOne ∈ BW := List.mem_append_right _ (List.mem_append_left _ (List.mem_of_getElem? (i := 53) rfl))
theorem mw_114 : Cond.selects RX2 yX2_becomeOne yX2_becomeOne ∈ BW := List.mem_append_right _ (List.mem_append_left _ (List.mem_of_getElem? (i := 54) rfl))
theorem mw_115 : Cond.methodLink RX1 102 yX1_multiply ∈ BW := List.mem_append_right _ (List.mem_append_left _ (List.mem_of_getElem? (i := 55) rfl))
theorem mw_116 : Cond.instanceMethod yX1_multiply ∈ BW := List.mem_append_right _ (List.mem_append_left _ (List.mem_of_getElem? (i := 56) rfl))
theorem mw_117 : Cond.selects RX1 yX1_multiply yX1_multiply ∈ BW := List.mem_append_right _ (List.mem_append_left _ (List.mem_of_getElem? (i := 57) rfl))
theorem mw_118 : Cond.methodLink RX1 105 yX1_multiplyLinear ∈ BW := List.mem_append_right _ (List.mem_append_left _ (List.mem_of_getElem? (i := 58) rfl))
theorem mw_119 : Cond.instanceMethod yX1_multiplyLinear ∈ BW := List.mem_append_right _ (List.mem_append_left _ (List.mem_of_getElem? (i := 59) rfl))
theorem mw_120 : Cond.selects RX1 yX1_multiplyLinear yX1_multiplyLinear ∈ BW := List.mem_append_right _ (List.mem_append_right _ (List.mem_append_left _ (List.mem_of_getElem? (i := 0) rfl)))
theorem mw_121 : Cond.code yX1_raiseLinear cX1_raiseLinear 7 none ∈ BW := List.mem_append_right _ (List.mem_append_right _ (List.mem_append_left _ (List.mem_of_getElem? (i := 1) rfl)))
theorem mw_122 : Cond.methodLink RX1 111 yX0_mate ∈ BW := List.mem_append_right _ (List.mem_append_right _ (List.mem_append_left _ (List.mem_of_getElem? (i := 2) rfl)))
theorem mw_123 : Cond.code yX1_normOf cX1_normOf 5 (some (.object "NumberFieldFactors$Row")) ∈ BW := List.mem_append_right _ (List.mem_append_right _ (List.mem_append_left _ (List.mem_of_getElem? (i := 3) rfl)))
theorem mw_124 : Cond.methodLink RX1 114 yX0_differentMates ∈ BW := List.mem_append_right _ (List.mem_append_right _ (List.mem_append_left _ (List.mem_of_getElem? (i := 4) rfl)))
theorem mw_125 : Cond.instanceMethod yX0_differentMates ∈ BW := List.mem_append_right _ (List.mem_append_right _ (List.mem_append_left _ (List.mem_of_getElem? (i := 5) rfl)))
theorem mw_126 : Cond.selects RX0 yX0_differentMates yX0_differentMates ∈ BW := List.mem_append_right _ (List.mem_append_right _ (List.mem_append_left _ (List.mem_of_getElem? (i := 6) rfl)))
theorem mw_127 : Cond.code yX1_leastPolynomial cX1_leastPolynomial 5 (some (.object "NumberFieldFactors$Row")) ∈ BW := List.mem_append_right _ (List.mem_append_right _ (List.mem_append_left _ (List.mem_of_getElem? (i := 7) rfl)))
theorem mw_128 : Cond.methodLink RX1 120 yX1_displace ∈ BW := List.mem_append_right _ (List.mem_append_right _ (List.mem_append_left _ (List.mem_of_getElem? (i := 8) rfl)))
theorem mw_129 : Cond.instanceMethod yX1_displace ∈ BW := List.mem_append_right _ (List.mem_append_right _ (List.mem_append_left _ (List.mem_of_getElem? (i := 9) rfl)))
theorem mw_130 : Cond.selects RX1 yX1_displace yX1_displace ∈ BW := List.mem_append_right _ (List.mem_append_right _ (List.mem_append_left _ (List.mem_of_getElem? (i := 10) rfl)))
theorem mw_131 : Cond.methodLink RX1 123 yX1_normOf ∈ BW := List.mem_append_right _ (List.mem_append_right _ (List.mem_append_left _ (List.mem_of_getElem? (i := 11) rfl)))
theorem mw_132 : Cond.instanceMethod yX1_normOf ∈ BW := List.mem_append_right _ (List.mem_append_right _ (List.mem_append_left _ (List.mem_of_getElem? (i := 12) rfl)))
theorem mw_133 : Cond.selects RX1 yX1_normOf yX1_normOf ∈ BW := List.mem_append_right _ (List.mem_append_right _ (List.mem_append_left _ (List.mem_of_getElem? (i := 13) rfl)))
theorem mw_134 : Cond.methodLink RX1 127 yX1_findSquares ∈ BW := List.mem_append_right _ (List.mem_append_right _ (List.mem_append_left _ (List.mem_of_getElem? (i := 14) rfl)))
theorem mw_135 : Cond.instanceMethod yX1_findSquares ∈ BW := List.mem_append_right _ (List.mem_append_right _ (List.mem_append_left _ (List.mem_of_getElem? (i := 15) rfl)))
theorem mw_136 : Cond.selects RX1 yX1_findSquares yX1_findSquares ∈ BW := List.mem_append_right _ (List.mem_append_right _ (List.mem_append_left _ (List.mem_of_getElem? (i := 16) rfl)))
theorem mw_137 : Cond.code yX1_leastShift cX1_leastShift 3 (some .int) ∈ BW := List.mem_append_right _ (List.mem_append_right _ (List.mem_append_left _ (List.mem_of_getElem? (i := 17) rfl)))
theorem mw_138 : Cond.code yX2_isBefore cX2_isBefore 5 (some .boolean) ∈ BW := List.mem_append_right _ (List.mem_append_right _ (List.mem_append_left _ (List.mem_of_getElem? (i := 18) rfl)))
theorem mw_139 : Cond.methodLink RX2 26 yX2_degree ∈ BW := List.mem_append_right _ (List.mem_append_right _ (List.mem_append_left _ (List.mem_of_getElem? (i := 19) rfl)))
theorem mw_140 : Cond.code yX3_init cX3_init 2 none ∈ BW := List.mem_append_right _ (List.mem_append_right _ (List.mem_append_left _ (List.mem_of_getElem? (i := 20) rfl)))
theorem mw_141 : Cond.methodLink RX3 3 objectInit ∈ BW := List.mem_append_right _ (List.mem_append_right _ (List.mem_append_left _ (List.mem_of_getElem? (i := 21) rfl)))
theorem mw_142 : Cond.classLink RX3 9 RX2 ∈ BW := List.mem_append_right _ (List.mem_append_right _ (List.mem_append_left _ (List.mem_of_getElem? (i := 22) rfl)))
theorem mw_143 : Cond.fieldLink RX3 11 "NumberFieldFactors$Splitter" "parts" "[LNumberFieldFactors$Row;" ∈ BW := List.mem_append_right _ (List.mem_append_right _ (List.mem_append_left _ (List.mem_of_getElem? (i := 23) rfl)))
theorem mw_144 : Cond.fieldLink RX3 17 "NumberFieldFactors$Splitter" "counts" "[I" ∈ BW := List.mem_append_right _ (List.mem_append_right _ (List.mem_append_left _ (List.mem_of_getElem? (i := 24) rfl)))
theorem mw_145 : Cond.fieldLink RX3 21 "NumberFieldFactors$Splitter" "count" "I" ∈ BW := List.mem_append_right _ (List.mem_append_right _ (List.mem_append_left _ (List.mem_of_getElem? (i := 25) rfl)))
theorem mw_146 : Cond.fieldLink RX3 25 "NumberFieldFactors$Splitter" "found" "Z" ∈ BW := List.mem_append_right _ (List.mem_append_right _ (List.mem_append_left _ (List.mem_of_getElem? (i := 26) rfl)))
theorem mw_147 : Cond.fieldLink RX3 30 "NumberFieldFactors$Splitter" "root" "LNumberFieldFactors$Row;" ∈ BW := List.mem_append_right _ (List.mem_append_right _ (List.mem_append_left _ (List.mem_of_getElem? (i := 27) rfl)))
theorem mw_148 : Cond.fieldLink RX3 34 "NumberFieldFactors$Splitter" "rest" "LNumberFieldFactors$Row;" ∈ BW := List.mem_append_right _ (List.mem_append_right _ (List.mem_append_left _ (List.mem_of_getElem? (i := 28) rfl)))
theorem mw_149 : Cond.fieldLink RX3 37 "NumberFieldFactors$Splitter" "power" "LNumberFieldFactors$Row;" ∈ BW := List.mem_append_right _ (List.mem_append_right _ (List.mem_append_left _ (List.mem_of_getElem? (i := 29) rfl)))
theorem mw_150 : Cond.fieldLink RX3 40 "NumberFieldFactors$Splitter" "shared" "LNumberFieldFactors$Row;" ∈ BW := List.mem_append_right _ (List.mem_append_right _ (List.mem_append_left _ (List.mem_of_getElem? (i := 30) rfl)))
theorem mw_151 : Cond.code yX3_forget cX3_forget 1 none ∈ BW := List.mem_append_right _ (List.mem_append_right _ (List.mem_append_left _ (List.mem_of_getElem? (i := 31) rfl)))
theorem mw_152 : Cond.code yX3_part cX3_part 2 (some (.object "NumberFieldFactors$Row")) ∈ BW := List.mem_append_right _ (List.mem_append_right _ (List.mem_append_left _ (List.mem_of_getElem? (i := 32) rfl)))
theorem mw_153 : Cond.code yX3_timesOf cX3_timesOf 2 (some .int) ∈ BW := List.mem_append_right _ (List.mem_append_right _ (List.mem_append_left _ (List.mem_of_getElem? (i := 33) rfl)))
theorem mw_154 : Cond.code yX3_commonDegree cX3_commonDegree 5 (some .int) ∈ BW := List.mem_append_right _ (List.mem_append_right _ (List.mem_append_left _ (List.mem_of_getElem? (i := 34) rfl)))
theorem mw_155 : Cond.methodLink RX3 43 yX3_part ∈ BW := List.mem_append_right _ (List.mem_append_right _ (List.mem_append_left _ (List.mem_of_getElem? (i := 35) rfl)))
theorem mw_156 : Cond.instanceMethod yX3_part ∈ BW := List.mem_append_right _ (List.mem_append_right _ (List.mem_append_left _ (List.mem_of_getElem? (i := 36) rfl)))
theorem mw_157 : Cond.selects RX3 yX3_part yX3_part ∈ BW := List.mem_append_right _ (List.mem_append_right _ (List.mem_append_left _ (List.mem_of_getElem? (i := 37) rfl)))
theorem mw_158 : Cond.initialized RX3 ∈ BW := List.mem_append_right _ (List.mem_append_right _ (List.mem_append_left _ (List.mem_of_getElem? (i := 38) rfl)))
theorem mw_159 : Cond.methodLink RX3 47 yX2_degree ∈ BW := List.mem_append_right _ (List.mem_append_right _ (List.mem_append_left _ (List.mem_of_getElem? (i := 39) rfl)))
theorem mw_160 : Cond.methodLink RX3 61 yX2_copy ∈ BW := List.mem_append_right _ (List.mem_append_right _ (List.mem_append_left _ (List.mem_of_getElem? (i := 40) rfl)))
theorem mw_161 : Cond.methodLink RX3 82 yX1_divide ∈ BW := List.mem_append_right _ (List.mem_append_right _ (List.mem_append_left _ (List.mem_of_getElem? (i := 41) rfl)))
theorem mw_162 : Cond.methodLink RX3 88 yX1_makeMonic ∈ BW := List.mem_append_right _ (List.mem_append_right _ (List.mem_append_left _ (List.mem_of_getElem? (i := 42) rfl)))
theorem mw_163 : Cond.code yX3_keepRoot cX3_keepRoot 3 none ∈ BW := List.mem_append_right _ (List.mem_append_right _ (List.mem_append_left _ (List.mem_of_getElem? (i := 43) rfl)))
theorem mw_164 : Cond.code yX3_sizeToThe cX3_sizeToThe 4 (some .long) ∈ BW := List.mem_append_right _ (List.mem_append_right _ (List.mem_append_left _ (List.mem_of_getElem? (i := 44) rfl)))
theorem mw_165 : Cond.code yX3_add cX3_add 2 none ∈ BW := List.mem_append_right _ (List.mem_append_right _ (List.mem_append_left _ (List.mem_of_getElem? (i := 45) rfl)))
theorem mw_166 : Cond.methodLink RX3 100 yX3_sizeToThe ∈ BW := List.mem_append_right _ (List.mem_append_right _ (List.mem_append_left _ (List.mem_of_getElem? (i := 46) rfl)))
theorem mw_167 : Cond.static yX3_sizeToThe ∈ BW := List.mem_append_right _ (List.mem_append_right _ (List.mem_append_left _ (List.mem_of_getElem? (i := 47) rfl)))
theorem mw_168 : Cond.methodLink RX3 104 yX1_raiseLinear ∈ BW := List.mem_append_right _ (List.mem_append_right _ (List.mem_append_left _ (List.mem_of_getElem? (i := 48) rfl)))
theorem mw_169 : Cond.instanceMethod yX1_raiseLinear ∈ BW := List.mem_append_right _ (List.mem_append_right _ (List.mem_append_left _ (List.mem_of_getElem? (i := 49) rfl)))
theorem mw_170 : Cond.selects RX1 yX1_raiseLinear yX1_raiseLinear ∈ BW := List.mem_append_right _ (List.mem_append_right _ (List.mem_append_left _ (List.mem_of_getElem? (i := 50) rfl)))
theorem mw_171 : Cond.methodLink RX3 108 yX2_get ∈ BW := List.mem_append_right _ (List.mem_append_right _ (List.mem_append_left _ (List.mem_of_getElem? (i := 51) rfl)))
theorem mw_172 : Cond.methodLink RX3 112 yX0_minus ∈ BW := List.mem_append_right _ (List.mem_append_right _ (List.mem_append_left _ (List.mem_of_getElem? (i := 52) rfl)))
theorem mw_173 : Cond.methodLink RX3 116 yX2_set ∈ BW := List.mem_append_right _ (List.mem_append_right _ (List.mem_append_left _ (List.mem_of_getElem? (i := 53) rfl)))
theorem mw_174 : Cond.methodLink RX3 120 yX1_findCommon ∈ BW := List.mem_append_right _ (List.mem_append_right _ (List.mem_append_left _ (List.mem_of_getElem? (i := 54) rfl)))
theorem mw_175 : Cond.methodLink RX3 73 yX3_add ∈ BW := List.mem_append_right _ (List.mem_append_right _ (List.mem_append_left _ (List.mem_of_getElem? (i := 55) rfl)))
theorem mw_176 : Cond.instanceMethod yX3_add ∈ BW := List.mem_append_right _ (List.mem_append_right _ (List.mem_append_left _ (List.mem_of_getElem? (i := 56) rfl)))
theorem mw_177 : Cond.selects RX3 yX3_add yX3_add ∈ BW := List.mem_append_right _ (List.mem_append_right _ (List.mem_append_left _ (List.mem_of_getElem? (i := 57) rfl)))
theorem mw_178 : Cond.code yX3_collect cX3_collect 3 none ∈ BW := List.mem_append_right _ (List.mem_append_right _ (List.mem_append_left _ (List.mem_of_getElem? (i := 58) rfl)))
theorem mw_179 : Cond.constantLong RX3 124 (2) ∈ BW := List.mem_append_right _ (List.mem_append_right _ (List.mem_append_left _ (List.mem_of_getElem? (i := 59) rfl)))
theorem mw_180 : Cond.code yX3_separate cX3_separate 13 none ∈ BW := List.mem_append_right _ (List.mem_append_right _ (List.mem_append_right _ (List.mem_append_left _ (List.mem_of_getElem? (i := 0) rfl))))
theorem mw_181 : Cond.code yX3_sort cX3_sort 4 none ∈ BW := List.mem_append_right _ (List.mem_append_right _ (List.mem_append_right _ (List.mem_append_left _ (List.mem_of_getElem? (i := 1) rfl))))
theorem mw_182 : Cond.methodLink RX3 126 yX2_isBefore ∈ BW := List.mem_append_right _ (List.mem_append_right _ (List.mem_append_right _ (List.mem_append_left _ (List.mem_of_getElem? (i := 2) rfl))))
theorem mw_183 : Cond.instanceMethod yX2_isBefore ∈ BW := List.mem_append_right _ (List.mem_append_right _ (List.mem_append_right _ (List.mem_append_left _ (List.mem_of_getElem? (i := 3) rfl))))
theorem mw_184 : Cond.selects RX2 yX2_isBefore yX2_isBefore ∈ BW := List.mem_append_right _ (List.mem_append_right _ (List.mem_append_right _ (List.mem_append_left _ (List.mem_of_getElem? (i := 4) rfl))))
theorem mw_185 : Cond.code yX3_countTimes cX3_countTimes 5 none ∈ BW := List.mem_append_right _ (List.mem_append_right _ (List.mem_append_right _ (List.mem_append_left _ (List.mem_of_getElem? (i := 5) rfl))))
theorem mw_186 : Cond.methodLink RX3 51 yX1_findSquares ∈ BW := List.mem_append_right _ (List.mem_append_right _ (List.mem_append_right _ (List.mem_append_left _ (List.mem_of_getElem? (i := 6) rfl))))
theorem mw_187 : Cond.methodLink RX3 57 yX3_keepRoot ∈ BW := List.mem_append_right _ (List.mem_append_right _ (List.mem_append_right _ (List.mem_append_left _ (List.mem_of_getElem? (i := 7) rfl))))
theorem mw_188 : Cond.instanceMethod yX3_keepRoot ∈ BW := List.mem_append_right _ (List.mem_append_right _ (List.mem_append_right _ (List.mem_append_left _ (List.mem_of_getElem? (i := 8) rfl))))
theorem mw_189 : Cond.selects RX3 yX3_keepRoot yX3_keepRoot ∈ BW := List.mem_append_right _ (List.mem_append_right _ (List.mem_append_right _ (List.mem_append_left _ (List.mem_of_getElem? (i := 9) rfl))))
theorem mw_190 : Cond.methodLink RX3 65 yX3_collect ∈ BW := List.mem_append_right _ (List.mem_append_right _ (List.mem_append_right _ (List.mem_append_left _ (List.mem_of_getElem? (i := 10) rfl))))
theorem mw_191 : Cond.instanceMethod yX3_collect ∈ BW := List.mem_append_right _ (List.mem_append_right _ (List.mem_append_right _ (List.mem_append_left _ (List.mem_of_getElem? (i := 11) rfl))))
theorem mw_192 : Cond.selects RX3 yX3_collect yX3_collect ∈ BW := List.mem_append_right _ (List.mem_append_right _ (List.mem_append_right _ (List.mem_append_left _ (List.mem_of_getElem? (i := 12) rfl))))
theorem mw_193 : Cond.methodLink RX3 69 yX3_separate ∈ BW := List.mem_append_right _ (List.mem_append_right _ (List.mem_append_right _ (List.mem_append_left _ (List.mem_of_getElem? (i := 13) rfl))))
theorem mw_194 : Cond.instanceMethod yX3_separate ∈ BW := List.mem_append_right _ (List.mem_append_right _ (List.mem_append_right _ (List.mem_append_left _ (List.mem_of_getElem? (i := 14) rfl))))
theorem mw_195 : Cond.selects RX3 yX3_separate yX3_separate ∈ BW := List.mem_append_right _ (List.mem_append_right _ (List.mem_append_right _ (List.mem_append_left _ (List.mem_of_getElem? (i := 15) rfl))))
theorem mw_196 : Cond.methodLink RX3 76 yX3_sort ∈ BW := List.mem_append_right _ (List.mem_append_right _ (List.mem_append_right _ (List.mem_append_left _ (List.mem_of_getElem? (i := 16) rfl))))
theorem mw_197 : Cond.instanceMethod yX3_sort ∈ BW := List.mem_append_right _ (List.mem_append_right _ (List.mem_append_right _ (List.mem_append_left _ (List.mem_of_getElem? (i := 17) rfl))))
theorem mw_198 : Cond.selects RX3 yX3_sort yX3_sort ∈ BW := List.mem_append_right _ (List.mem_append_right _ (List.mem_append_right _ (List.mem_append_left _ (List.mem_of_getElem? (i := 18) rfl))))
theorem mw_199 : Cond.methodLink RX3 79 yX3_countTimes ∈ BW := List.mem_append_right _ (List.mem_append_right _ (List.mem_append_right _ (List.mem_append_left _ (List.mem_of_getElem? (i := 19) rfl))))
theorem mw_200 : Cond.instanceMethod yX3_countTimes ∈ BW := List.mem_append_right _ (List.mem_append_right _ (List.mem_append_right _ (List.mem_append_left _ (List.mem_of_getElem? (i := 20) rfl))))
theorem mw_201 : Cond.selects RX3 yX3_countTimes yX3_countTimes ∈ BW := List.mem_append_right _ (List.mem_append_right _ (List.mem_append_right _ (List.mem_append_left _ (List.mem_of_getElem? (i := 21) rfl))))
theorem mw_202 : Cond.code yX3_find cX3_find 5 none ∈ BW := List.mem_append_right _ (List.mem_append_right _ (List.mem_append_right _ (List.mem_append_left _ (List.mem_of_getElem? (i := 22) rfl))))
theorem mw_203 : Cond.methodLink RX4 1 objectInit ∈ BW := List.mem_append_right _ (List.mem_append_right _ (List.mem_append_right _ (List.mem_append_left _ (List.mem_of_getElem? (i := 23) rfl))))
theorem mw_204 : Cond.classLink RX4 7 RX2 ∈ BW := List.mem_append_right _ (List.mem_append_right _ (List.mem_append_right _ (List.mem_append_left _ (List.mem_of_getElem? (i := 24) rfl))))
theorem mw_205 : Cond.fieldLink RX4 10 "NumberFieldFactors" "f" "LNumberFieldFactors$Row;" ∈ BW := List.mem_append_right _ (List.mem_append_right _ (List.mem_append_right _ (List.mem_append_left _ (List.mem_of_getElem? (i := 25) rfl))))
theorem mw_206 : Cond.classLink RX4 16 RX1 ∈ BW := List.mem_append_right _ (List.mem_append_right _ (List.mem_append_right _ (List.mem_append_left _ (List.mem_of_getElem? (i := 26) rfl))))
theorem mw_207 : Cond.instantiable RX1 11 ∈ BW := List.mem_append_right _ (List.mem_append_right _ (List.mem_append_right _ (List.mem_append_left _ (List.mem_of_getElem? (i := 27) rfl))))
theorem mw_208 : Cond.fieldLink RX4 19 "NumberFieldFactors" "ring" "LNumberFieldFactors$Ring;" ∈ BW := List.mem_append_right _ (List.mem_append_right _ (List.mem_append_right _ (List.mem_append_left _ (List.mem_of_getElem? (i := 28) rfl))))
theorem mw_209 : Cond.classLink RX4 23 RX3 ∈ BW := List.mem_append_right _ (List.mem_append_right _ (List.mem_append_right _ (List.mem_append_left _ (List.mem_of_getElem? (i := 29) rfl))))
theorem mw_210 : Cond.instantiable RX3 8 ∈ BW := List.mem_append_right _ (List.mem_append_right _ (List.mem_append_right _ (List.mem_append_left _ (List.mem_of_getElem? (i := 30) rfl))))
theorem mw_211 : Cond.fieldLink RX4 26 "NumberFieldFactors" "splitter" "LNumberFieldFactors$Splitter;" ∈ BW := List.mem_append_right _ (List.mem_append_right _ (List.mem_append_right _ (List.mem_append_left _ (List.mem_of_getElem? (i := 31) rfl))))
theorem mw_212 : Cond.instanceMethod yX1_init ∈ BW := List.mem_append_right _ (List.mem_append_right _ (List.mem_append_right _ (List.mem_append_left _ (List.mem_of_getElem? (i := 32) rfl))))
theorem mw_213 : Cond.methodLink RX4 25 yX3_init ∈ BW := List.mem_append_right _ (List.mem_append_right _ (List.mem_append_right _ (List.mem_append_left _ (List.mem_of_getElem? (i := 33) rfl))))
theorem mw_214 : Cond.instanceMethod yX3_init ∈ BW := List.mem_append_right _ (List.mem_append_right _ (List.mem_append_right _ (List.mem_append_left _ (List.mem_of_getElem? (i := 34) rfl))))
theorem mw_215 : Cond.code yX4_init cX4_init 1 none ∈ BW := List.mem_append_right _ (List.mem_append_right _ (List.mem_append_right _ (List.mem_append_left _ (List.mem_of_getElem? (i := 35) rfl))))
theorem mw_216 : Cond.code yX4_numberOf cX4_numberOf 3 (some .int) ∈ BW := List.mem_append_right _ (List.mem_append_right _ (List.mem_append_right _ (List.mem_append_left _ (List.mem_of_getElem? (i := 36) rfl))))
theorem mw_217 : Cond.constantLong RX4 174 (101) ∈ BW := List.mem_append_right _ (List.mem_append_right _ (List.mem_append_right _ (List.mem_append_left _ (List.mem_of_getElem? (i := 37) rfl))))
theorem mw_218 : Cond.classLink RX4 30 "java/lang/IllegalArgumentException" ∈ BW := List.mem_append_right _ (List.mem_append_right _ (List.mem_append_right _ (List.mem_append_left _ (List.mem_of_getElem? (i := 38) rfl))))
theorem mw_219 : Cond.initialized "java/lang/IllegalArgumentException" ∈ BW := List.mem_append_right _ (List.mem_append_right _ (List.mem_append_right _ (List.mem_append_left _ (List.mem_of_getElem? (i := 39) rfl))))
theorem mw_220 : Cond.methodLink RX4 41 yX4_numberOf ∈ BW := List.mem_append_right _ (List.mem_append_right _ (List.mem_append_right _ (List.mem_append_left _ (List.mem_of_getElem? (i := 40) rfl))))
theorem mw_221 : Cond.static yX4_numberOf ∈ BW := List.mem_append_right _ (List.mem_append_right _ (List.mem_append_right _ (List.mem_append_left _ (List.mem_of_getElem? (i := 41) rfl))))
theorem mw_222 : Cond.initialized RX4 ∈ BW := List.mem_append_right _ (List.mem_append_right _ (List.mem_append_right _ (List.mem_append_left _ (List.mem_of_getElem? (i := 42) rfl))))
theorem mw_223 : Cond.methodLink RX4 45 yX0_become ∈ BW := List.mem_append_right _ (List.mem_append_right _ (List.mem_append_right _ (List.mem_append_left _ (List.mem_of_getElem? (i := 43) rfl))))
theorem mw_224 : Cond.instanceMethod yX0_become ∈ BW := List.mem_append_right _ (List.mem_append_right _ (List.mem_append_right _ (List.mem_append_left _ (List.mem_of_getElem? (i := 44) rfl))))
theorem mw_225 : Cond.selects RX0 yX0_become yX0_become ∈ BW := List.mem_append_right _ (List.mem_append_right _ (List.mem_append_right _ (List.mem_append_left _ (List.mem_of_getElem? (i := 45) rfl))))
theorem mw_226 : Cond.methodLink RX4 51 yX2_clear ∈ BW := List.mem_append_right _ (List.mem_append_right _ (List.mem_append_right _ (List.mem_append_left _ (List.mem_of_getElem? (i := 46) rfl))))
theorem mw_227 : Cond.methodLink RX4 54 yX3_forget ∈ BW := List.mem_append_right _ (List.mem_append_right _ (List.mem_append_right _ (List.mem_append_left _ (List.mem_of_getElem? (i := 47) rfl))))
theorem mw_228 : Cond.instanceMethod yX3_forget ∈ BW := List.mem_append_right _ (List.mem_append_right _ (List.mem_append_right _ (List.mem_append_left _ (List.mem_of_getElem? (i := 48) rfl))))
theorem mw_229 : Cond.selects RX3 yX3_forget yX3_forget ∈ BW := List.mem_append_right _ (List.mem_append_right _ (List.mem_append_right _ (List.mem_append_left _ (List.mem_of_getElem? (i := 49) rfl))))
theorem mw_230 : Cond.code yX4_field cX4_field 8 (some .boolean) ∈ BW := List.mem_append_right _ (List.mem_append_right _ (List.mem_append_right _ (List.mem_append_left _ (List.mem_of_getElem? (i := 50) rfl))))
theorem mw_231 : Cond.code yX4_modulus cX4_modulus 2 (some .int) ∈ BW := List.mem_append_right _ (List.mem_append_right _ (List.mem_append_right _ (List.mem_append_left _ (List.mem_of_getElem? (i := 51) rfl))))
theorem mw_232 : Cond.classLink RX4 57 "java/lang/IndexOutOfBoundsException" ∈ BW := List.mem_append_right _ (List.mem_append_right _ (List.mem_append_right _ (List.mem_append_left _ (List.mem_of_getElem? (i := 52) rfl))))
theorem mw_233 : Cond.initialized "java/lang/IndexOutOfBoundsException" ∈ BW := List.mem_append_right _ (List.mem_append_right _ (List.mem_append_right _ (List.mem_append_left _ (List.mem_of_getElem? (i := 53) rfl))))
theorem mw_234 : Cond.methodLink RX4 62 yX0_modulusAt ∈ BW := List.mem_append_right _ (List.mem_append_right _ (List.mem_append_right _ (List.mem_append_left _ (List.mem_of_getElem? (i := 54) rfl))))
theorem mw_235 : Cond.instanceMethod yX0_modulusAt ∈ BW := List.mem_append_right _ (List.mem_append_right _ (List.mem_append_right _ (List.mem_append_left _ (List.mem_of_getElem? (i := 55) rfl))))
theorem mw_236 : Cond.selects RX0 yX0_modulusAt yX0_modulusAt ∈ BW := List.mem_append_right _ (List.mem_append_right _ (List.mem_append_right _ (List.mem_append_left _ (List.mem_of_getElem? (i := 56) rfl))))
theorem mw_237 : Cond.code yX4_requirePower cX4_requirePower 1 none ∈ BW := List.mem_append_right _ (List.mem_append_right _ (List.mem_append_right _ (List.mem_append_left _ (List.mem_of_getElem? (i := 57) rfl))))
theorem mw_238 : Cond.code yX4_requireElement cX4_requireElement 2 none ∈ BW := List.mem_append_right _ (List.mem_append_right _ (List.mem_append_right _ (List.mem_append_left _ (List.mem_of_getElem? (i := 58) rfl))))
theorem mw_239 : Cond.methodLink RX4 66 yX4_requirePower ∈ BW := List.mem_append_right _ (List.mem_append_right _ (List.mem_append_right _ (List.mem_append_left _ (List.mem_of_getElem? (i := 59) rfl))))
theorem mw_240 : Cond.static yX4_requirePower ∈ BW := List.mem_append_right _ (List.mem_append_right _ (List.mem_append_right _ (List.mem_append_right _ (List.mem_append_left _ (List.mem_of_getElem? (i := 0) rfl)))))
theorem mw_241 : Cond.methodLink RX4 70 yX4_requireElement ∈ BW := List.mem_append_right _ (List.mem_append_right _ (List.mem_append_right _ (List.mem_append_right _ (List.mem_append_left _ (List.mem_of_getElem? (i := 1) rfl)))))
theorem mw_242 : Cond.instanceMethod yX4_requireElement ∈ BW := List.mem_append_right _ (List.mem_append_right _ (List.mem_append_right _ (List.mem_append_right _ (List.mem_append_left _ (List.mem_of_getElem? (i := 2) rfl)))))
theorem mw_243 : Cond.selects RX4 yX4_requireElement yX4_requireElement ∈ BW := List.mem_append_right _ (List.mem_append_right _ (List.mem_append_right _ (List.mem_append_right _ (List.mem_append_left _ (List.mem_of_getElem? (i := 3) rfl)))))
theorem mw_244 : Cond.methodLink RX4 73 yX2_get ∈ BW := List.mem_append_right _ (List.mem_append_right _ (List.mem_append_right _ (List.mem_append_right _ (List.mem_append_left _ (List.mem_of_getElem? (i := 4) rfl)))))
theorem mw_245 : Cond.methodLink RX4 76 yX2_set ∈ BW := List.mem_append_right _ (List.mem_append_right _ (List.mem_append_right _ (List.mem_append_right _ (List.mem_append_left _ (List.mem_of_getElem? (i := 5) rfl)))))
theorem mw_246 : Cond.code yX4_put cX4_put 3 (some .boolean) ∈ BW := List.mem_append_right _ (List.mem_append_right _ (List.mem_append_right _ (List.mem_append_right _ (List.mem_append_left _ (List.mem_of_getElem? (i := 6) rfl)))))
theorem mw_247 : Cond.code yX4_at cX4_at 2 (some .int) ∈ BW := List.mem_append_right _ (List.mem_append_right _ (List.mem_append_right _ (List.mem_append_right _ (List.mem_append_left _ (List.mem_of_getElem? (i := 7) rfl)))))
theorem mw_248 : Cond.classLink RX4 82 "java/lang/ArithmeticException" ∈ BW := List.mem_append_right _ (List.mem_append_right _ (List.mem_append_right _ (List.mem_append_right _ (List.mem_append_left _ (List.mem_of_getElem? (i := 8) rfl)))))
theorem mw_249 : Cond.initialized "java/lang/ArithmeticException" ∈ BW := List.mem_append_right _ (List.mem_append_right _ (List.mem_append_right _ (List.mem_append_right _ (List.mem_append_left _ (List.mem_of_getElem? (i := 9) rfl)))))
theorem mw_250 : Cond.methodLink RX4 87 yX0_plus ∈ BW := List.mem_append_right _ (List.mem_append_right _ (List.mem_append_right _ (List.mem_append_right _ (List.mem_append_left _ (List.mem_of_getElem? (i := 10) rfl)))))
theorem mw_251 : Cond.methodLink RX4 91 yX0_minus ∈ BW := List.mem_append_right _ (List.mem_append_right _ (List.mem_append_right _ (List.mem_append_right _ (List.mem_append_left _ (List.mem_of_getElem? (i := 11) rfl)))))
theorem mw_252 : Cond.methodLink RX4 94 yX0_times ∈ BW := List.mem_append_right _ (List.mem_append_right _ (List.mem_append_right _ (List.mem_append_right _ (List.mem_append_left _ (List.mem_of_getElem? (i := 12) rfl)))))
theorem mw_253 : Cond.methodLink RX4 101 yX0_power ∈ BW := List.mem_append_right _ (List.mem_append_right _ (List.mem_append_right _ (List.mem_append_right _ (List.mem_append_left _ (List.mem_of_getElem? (i := 13) rfl)))))
theorem mw_254 : Cond.code yX4_reckon cX4_reckon 5 (some .int) ∈ BW := List.mem_append_right _ (List.mem_append_right _ (List.mem_append_right _ (List.mem_append_right _ (List.mem_append_left _ (List.mem_of_getElem? (i := 14) rfl)))))
theorem mw_255 : Cond.methodLink RX4 106 yX0_isSquare ∈ BW := List.mem_append_right _ (List.mem_append_right _ (List.mem_append_right _ (List.mem_append_right _ (List.mem_append_left _ (List.mem_of_getElem? (i := 15) rfl)))))
theorem mw_256 : Cond.instanceMethod yX0_isSquare ∈ BW := List.mem_append_right _ (List.mem_append_right _ (List.mem_append_right _ (List.mem_append_right _ (List.mem_append_left _ (List.mem_of_getElem? (i := 16) rfl)))))
theorem mw_257 : Cond.selects RX0 yX0_isSquare yX0_isSquare ∈ BW := List.mem_append_right _ (List.mem_append_right _ (List.mem_append_right _ (List.mem_append_right _ (List.mem_append_left _ (List.mem_of_getElem? (i := 17) rfl)))))
theorem mw_258 : Cond.methodLink RX4 110 yX0_matesProduct ∈ BW := List.mem_append_right _ (List.mem_append_right _ (List.mem_append_right _ (List.mem_append_right _ (List.mem_append_left _ (List.mem_of_getElem? (i := 18) rfl)))))
theorem mw_259 : Cond.instanceMethod yX0_matesProduct ∈ BW := List.mem_append_right _ (List.mem_append_right _ (List.mem_append_right _ (List.mem_append_right _ (List.mem_append_left _ (List.mem_of_getElem? (i := 19) rfl)))))
theorem mw_260 : Cond.selects RX0 yX0_matesProduct yX0_matesProduct ∈ BW := List.mem_append_right _ (List.mem_append_right _ (List.mem_append_right _ (List.mem_append_right _ (List.mem_append_left _ (List.mem_of_getElem? (i := 20) rfl)))))
theorem mw_261 : Cond.methodLink RX4 113 yX0_matesSum ∈ BW := List.mem_append_right _ (List.mem_append_right _ (List.mem_append_right _ (List.mem_append_right _ (List.mem_append_left _ (List.mem_of_getElem? (i := 21) rfl)))))
theorem mw_262 : Cond.instanceMethod yX0_matesSum ∈ BW := List.mem_append_right _ (List.mem_append_right _ (List.mem_append_right _ (List.mem_append_right _ (List.mem_append_left _ (List.mem_of_getElem? (i := 22) rfl)))))
theorem mw_263 : Cond.selects RX0 yX0_matesSum yX0_matesSum ∈ BW := List.mem_append_right _ (List.mem_append_right _ (List.mem_append_right _ (List.mem_append_right _ (List.mem_append_left _ (List.mem_of_getElem? (i := 23) rfl)))))
theorem mw_264 : Cond.methodLink RX4 116 yX0_mate ∈ BW := List.mem_append_right _ (List.mem_append_right _ (List.mem_append_right _ (List.mem_append_right _ (List.mem_append_left _ (List.mem_of_getElem? (i := 24) rfl)))))
theorem mw_265 : Cond.methodLink RX4 119 yX0_differentMates ∈ BW := List.mem_append_right _ (List.mem_append_right _ (List.mem_append_right _ (List.mem_append_right _ (List.mem_append_left _ (List.mem_of_getElem? (i := 25) rfl)))))
theorem mw_266 : Cond.code yX4_known cX4_known 4 (some .int) ∈ BW := List.mem_append_right _ (List.mem_append_right _ (List.mem_append_right _ (List.mem_append_right _ (List.mem_append_left _ (List.mem_of_getElem? (i := 26) rfl)))))
theorem mw_267 : Cond.methodLink RX4 124 yX1_leastPolynomial ∈ BW := List.mem_append_right _ (List.mem_append_right _ (List.mem_append_right _ (List.mem_append_right _ (List.mem_append_left _ (List.mem_of_getElem? (i := 27) rfl)))))
theorem mw_268 : Cond.instanceMethod yX1_leastPolynomial ∈ BW := List.mem_append_right _ (List.mem_append_right _ (List.mem_append_right _ (List.mem_append_right _ (List.mem_append_left _ (List.mem_of_getElem? (i := 28) rfl)))))
theorem mw_269 : Cond.selects RX1 yX1_leastPolynomial yX1_leastPolynomial ∈ BW := List.mem_append_right _ (List.mem_append_right _ (List.mem_append_right _ (List.mem_append_right _ (List.mem_append_left _ (List.mem_of_getElem? (i := 29) rfl)))))
theorem mw_270 : Cond.code yX4_minimal cX4_minimal 3 (some .int) ∈ BW := List.mem_append_right _ (List.mem_append_right _ (List.mem_append_right _ (List.mem_append_right _ (List.mem_append_left _ (List.mem_of_getElem? (i := 30) rfl)))))
theorem mw_271 : Cond.methodLink RX4 128 yX1_valueOf ∈ BW := List.mem_append_right _ (List.mem_append_right _ (List.mem_append_right _ (List.mem_append_right _ (List.mem_append_left _ (List.mem_of_getElem? (i := 31) rfl)))))
theorem mw_272 : Cond.instanceMethod yX1_valueOf ∈ BW := List.mem_append_right _ (List.mem_append_right _ (List.mem_append_right _ (List.mem_append_right _ (List.mem_append_left _ (List.mem_of_getElem? (i := 32) rfl)))))
theorem mw_273 : Cond.selects RX1 yX1_valueOf yX1_valueOf ∈ BW := List.mem_append_right _ (List.mem_append_right _ (List.mem_append_right _ (List.mem_append_right _ (List.mem_append_left _ (List.mem_of_getElem? (i := 33) rfl)))))
theorem mw_274 : Cond.code yX4_value cX4_value 2 (some .int) ∈ BW := List.mem_append_right _ (List.mem_append_right _ (List.mem_append_right _ (List.mem_append_right _ (List.mem_append_left _ (List.mem_of_getElem? (i := 34) rfl)))))
theorem mw_275 : Cond.methodLink RX4 132 yX1_normOf ∈ BW := List.mem_append_right _ (List.mem_append_right _ (List.mem_append_right _ (List.mem_append_right _ (List.mem_append_left _ (List.mem_of_getElem? (i := 35) rfl)))))
theorem mw_276 : Cond.code yX4_norm cX4_norm 2 (some .int) ∈ BW := List.mem_append_right _ (List.mem_append_right _ (List.mem_append_right _ (List.mem_append_right _ (List.mem_append_left _ (List.mem_of_getElem? (i := 36) rfl)))))
theorem mw_277 : Cond.code yX4_requireSome cX4_requireSome 1 none ∈ BW := List.mem_append_right _ (List.mem_append_right _ (List.mem_append_right _ (List.mem_append_right _ (List.mem_append_left _ (List.mem_of_getElem? (i := 37) rfl)))))
theorem mw_278 : Cond.classLink RX4 183 "java/lang/IllegalStateException" ∈ BW := List.mem_append_right _ (List.mem_append_right _ (List.mem_append_right _ (List.mem_append_right _ (List.mem_append_left _ (List.mem_of_getElem? (i := 38) rfl)))))
theorem mw_279 : Cond.initialized "java/lang/IllegalStateException" ∈ BW := List.mem_append_right _ (List.mem_append_right _ (List.mem_append_right _ (List.mem_append_right _ (List.mem_append_left _ (List.mem_of_getElem? (i := 39) rfl)))))
theorem mw_280 : Cond.methodLink RX4 180 yX2_degree ∈ BW := List.mem_append_right _ (List.mem_append_right _ (List.mem_append_right _ (List.mem_append_right _ (List.mem_append_left _ (List.mem_of_getElem? (i := 40) rfl)))))
theorem mw_281 : Cond.methodLink RX4 136 yX4_requireSome ∈ BW := List.mem_append_right _ (List.mem_append_right _ (List.mem_append_right _ (List.mem_append_right _ (List.mem_append_left _ (List.mem_of_getElem? (i := 41) rfl)))))
theorem mw_282 : Cond.instanceMethod yX4_requireSome ∈ BW := List.mem_append_right _ (List.mem_append_right _ (List.mem_append_right _ (List.mem_append_right _ (List.mem_append_left _ (List.mem_of_getElem? (i := 42) rfl)))))
theorem mw_283 : Cond.selects RX4 yX4_requireSome yX4_requireSome ∈ BW := List.mem_append_right _ (List.mem_append_right _ (List.mem_append_right _ (List.mem_append_right _ (List.mem_append_left _ (List.mem_of_getElem? (i := 43) rfl)))))
theorem mw_284 : Cond.methodLink RX4 139 yX3_find ∈ BW := List.mem_append_right _ (List.mem_append_right _ (List.mem_append_right _ (List.mem_append_right _ (List.mem_append_left _ (List.mem_of_getElem? (i := 44) rfl)))))
theorem mw_285 : Cond.instanceMethod yX3_find ∈ BW := List.mem_append_right _ (List.mem_append_right _ (List.mem_append_right _ (List.mem_append_right _ (List.mem_append_left _ (List.mem_of_getElem? (i := 45) rfl)))))
theorem mw_286 : Cond.selects RX3 yX3_find yX3_find ∈ BW := List.mem_append_right _ (List.mem_append_right _ (List.mem_append_right _ (List.mem_append_right _ (List.mem_append_left _ (List.mem_of_getElem? (i := 46) rfl)))))
theorem mw_287 : Cond.methodLink RX4 146 yX1_leastShift ∈ BW := List.mem_append_right _ (List.mem_append_right _ (List.mem_append_right _ (List.mem_append_right _ (List.mem_append_left _ (List.mem_of_getElem? (i := 47) rfl)))))
theorem mw_288 : Cond.instanceMethod yX1_leastShift ∈ BW := List.mem_append_right _ (List.mem_append_right _ (List.mem_append_right _ (List.mem_append_right _ (List.mem_append_left _ (List.mem_of_getElem? (i := 48) rfl)))))
theorem mw_289 : Cond.selects RX1 yX1_leastShift yX1_leastShift ∈ BW := List.mem_append_right _ (List.mem_append_right _ (List.mem_append_right _ (List.mem_append_right _ (List.mem_append_left _ (List.mem_of_getElem? (i := 49) rfl)))))
theorem mw_290 : Cond.code yX4_shift cX4_shift 1 (some .int) ∈ BW := List.mem_append_right _ (List.mem_append_right _ (List.mem_append_right _ (List.mem_append_right _ (List.mem_append_left _ (List.mem_of_getElem? (i := 50) rfl)))))
theorem mw_291 : Cond.code yX4_factors cX4_factors 1 (some .int) ∈ BW := List.mem_append_right _ (List.mem_append_right _ (List.mem_append_right _ (List.mem_append_right _ (List.mem_append_left _ (List.mem_of_getElem? (i := 51) rfl)))))
theorem mw_292 : Cond.code yX4_requireFactor cX4_requireFactor 2 none ∈ BW := List.mem_append_right _ (List.mem_append_right _ (List.mem_append_right _ (List.mem_append_right _ (List.mem_append_left _ (List.mem_of_getElem? (i := 52) rfl)))))
theorem mw_293 : Cond.methodLink RX4 153 yX4_requireFactor ∈ BW := List.mem_append_right _ (List.mem_append_right _ (List.mem_append_right _ (List.mem_append_right _ (List.mem_append_left _ (List.mem_of_getElem? (i := 53) rfl)))))
theorem mw_294 : Cond.instanceMethod yX4_requireFactor ∈ BW := List.mem_append_right _ (List.mem_append_right _ (List.mem_append_right _ (List.mem_append_right _ (List.mem_append_left _ (List.mem_of_getElem? (i := 54) rfl)))))
theorem mw_295 : Cond.selects RX4 yX4_requireFactor yX4_requireFactor ∈ BW := List.mem_append_right _ (List.mem_append_right _ (List.mem_append_right _ (List.mem_append_right _ (List.mem_append_left _ (List.mem_of_getElem? (i := 55) rfl)))))
theorem mw_296 : Cond.methodLink RX4 156 yX3_part ∈ BW := List.mem_append_right _ (List.mem_append_right _ (List.mem_append_right _ (List.mem_append_right _ (List.mem_append_left _ (List.mem_of_getElem? (i := 56) rfl)))))
theorem mw_297 : Cond.code yX4_factor cX4_factor 3 (some .int) ∈ BW := List.mem_append_right _ (List.mem_append_right _ (List.mem_append_right _ (List.mem_append_right _ (List.mem_append_left _ (List.mem_of_getElem? (i := 57) rfl)))))
theorem mw_298 : Cond.methodLink RX4 159 yX3_timesOf ∈ BW := List.mem_append_right _ (List.mem_append_right _ (List.mem_append_right _ (List.mem_append_right _ (List.mem_append_left _ (List.mem_of_getElem? (i := 58) rfl)))))
theorem mw_299 : Cond.instanceMethod yX3_timesOf ∈ BW := List.mem_append_right _ (List.mem_append_right _ (List.mem_append_right _ (List.mem_append_right _ (List.mem_append_left _ (List.mem_of_getElem? (i := 59) rfl)))))
theorem mw_300 : Cond.selects RX3 yX3_timesOf yX3_timesOf ∈ BW := List.mem_append_right _ (List.mem_append_right _ (List.mem_append_right _ (List.mem_append_right _ (List.mem_append_right _ (List.mem_append_left _ (List.mem_of_getElem? (i := 0) rfl))))))
theorem mw_301 : Cond.code yX4_often cX4_often 2 (some .int) ∈ BW := List.mem_append_right _ (List.mem_append_right _ (List.mem_append_right _ (List.mem_append_right _ (List.mem_append_right _ (List.mem_append_left _ (List.mem_of_getElem? (i := 1) rfl))))))
theorem mw_302 : Cond.methodLink RX4 162 yX3_commonDegree ∈ BW := List.mem_append_right _ (List.mem_append_right _ (List.mem_append_right _ (List.mem_append_right _ (List.mem_append_right _ (List.mem_append_left _ (List.mem_of_getElem? (i := 2) rfl))))))
theorem mw_303 : Cond.instanceMethod yX3_commonDegree ∈ BW := List.mem_append_right _ (List.mem_append_right _ (List.mem_append_right _ (List.mem_append_right _ (List.mem_append_right _ (List.mem_append_left _ (List.mem_of_getElem? (i := 3) rfl))))))
theorem mw_304 : Cond.selects RX3 yX3_commonDegree yX3_commonDegree ∈ BW := List.mem_append_right _ (List.mem_append_right _ (List.mem_append_right _ (List.mem_append_right _ (List.mem_append_right _ (List.mem_append_left _ (List.mem_of_getElem? (i := 4) rfl))))))
theorem mw_305 : Cond.code yX4_splitting cX4_splitting 1 (some .int) ∈ BW := List.mem_append_right _ (List.mem_append_right _ (List.mem_append_right _ (List.mem_append_right _ (List.mem_append_right _ (List.mem_append_left _ (List.mem_of_getElem? (i := 5) rfl))))))
theorem mw_306 : Cond.methodLink RX4 166 yX1_displace ∈ BW := List.mem_append_right _ (List.mem_append_right _ (List.mem_append_right _ (List.mem_append_right _ (List.mem_append_right _ (List.mem_append_left _ (List.mem_of_getElem? (i := 6) rfl))))))
theorem mw_307 : Cond.code yX4_move cX4_move 2 none ∈ BW := List.mem_append_right _ (List.mem_append_right _ (List.mem_append_right _ (List.mem_append_right _ (List.mem_append_right _ (List.mem_append_left _ (List.mem_of_getElem? (i := 7) rfl))))))
theorem mw_308 : Cond.methodLink RX4 170 yX2_copy ∈ BW := List.mem_append_right _ (List.mem_append_right _ (List.mem_append_right _ (List.mem_append_right _ (List.mem_append_right _ (List.mem_append_left _ (List.mem_of_getElem? (i := 8) rfl))))))
theorem mw_309 : Cond.code yX4_take cX4_take 2 none ∈ BW := List.mem_append_right _ (List.mem_append_right _ (List.mem_append_right _ (List.mem_append_right _ (List.mem_append_right _ (List.mem_append_left _ (List.mem_of_getElem? (i := 9) rfl))))))
theorem mw_310 : Cond.code yX5_init cX5_init 2 none ∈ BW := List.mem_append_right _ (List.mem_append_right _ (List.mem_append_right _ (List.mem_append_right _ (List.mem_append_right _ (List.mem_append_left _ (List.mem_of_getElem? (i := 10) rfl))))))
theorem mw_311 : Cond.methodLink RX5 1 objectInit ∈ BW := List.mem_append_right _ (List.mem_append_right _ (List.mem_append_right _ (List.mem_append_right _ (List.mem_append_right _ (List.mem_append_left _ (List.mem_of_getElem? (i := 11) rfl))))))
theorem mw_312 : Cond.fieldLink RX5 7 "NumberFieldFactorsModel" "k" "I" ∈ BW := List.mem_append_right _ (List.mem_append_right _ (List.mem_append_right _ (List.mem_append_right _ (List.mem_append_right _ (List.mem_append_left _ (List.mem_of_getElem? (i := 12) rfl))))))
theorem mw_313 : Cond.constantLong RX5 13 (101) ∈ BW := List.mem_append_right _ (List.mem_append_right _ (List.mem_append_right _ (List.mem_append_right _ (List.mem_append_right _ (List.mem_append_left _ (List.mem_of_getElem? (i := 13) rfl))))))
theorem mw_314 : Cond.fieldLink RX5 15 "NumberFieldFactorsModel" "many" "J" ∈ BW := List.mem_append_right _ (List.mem_append_right _ (List.mem_append_right _ (List.mem_append_right _ (List.mem_append_right _ (List.mem_append_left _ (List.mem_of_getElem? (i := 14) rfl))))))
theorem mw_315 : Cond.fieldLink RX5 19 "NumberFieldFactorsModel" "modulus" "[I" ∈ BW := List.mem_append_right _ (List.mem_append_right _ (List.mem_append_right _ (List.mem_append_right _ (List.mem_append_right _ (List.mem_append_left _ (List.mem_of_getElem? (i := 15) rfl))))))
theorem mw_316 : Cond.fieldLink RX5 23 "NumberFieldFactorsModel" "digits" "[I" ∈ BW := List.mem_append_right _ (List.mem_append_right _ (List.mem_append_right _ (List.mem_append_right _ (List.mem_append_right _ (List.mem_append_left _ (List.mem_of_getElem? (i := 16) rfl))))))
theorem mw_317 : Cond.fieldLink RX5 26 "NumberFieldFactorsModel" "row" "[I" ∈ BW := List.mem_append_right _ (List.mem_append_right _ (List.mem_append_right _ (List.mem_append_right _ (List.mem_append_right _ (List.mem_append_left _ (List.mem_of_getElem? (i := 17) rfl))))))
theorem mw_318 : Cond.fieldLink RX5 29 "NumberFieldFactorsModel" "degree" "[I" ∈ BW := List.mem_append_right _ (List.mem_append_right _ (List.mem_append_right _ (List.mem_append_right _ (List.mem_append_right _ (List.mem_append_left _ (List.mem_of_getElem? (i := 18) rfl))))))
theorem mw_319 : Cond.fieldLink RX5 32 "NumberFieldFactorsModel" "often" "[I" ∈ BW := List.mem_append_right _ (List.mem_append_right _ (List.mem_append_right _ (List.mem_append_right _ (List.mem_append_right _ (List.mem_append_left _ (List.mem_of_getElem? (i := 19) rfl))))))
theorem mw_320 : Cond.code yX5_thrown cX5_thrown 1 (some .int) ∈ BW := List.mem_append_right _ (List.mem_append_right _ (List.mem_append_right _ (List.mem_append_right _ (List.mem_append_right _ (List.mem_append_left _ (List.mem_of_getElem? (i := 20) rfl))))))
theorem mw_321 : Cond.fieldLink RX5 35 "NumberFieldFactorsModel" "thrown" "I" ∈ BW := List.mem_append_right _ (List.mem_append_right _ (List.mem_append_right _ (List.mem_append_right _ (List.mem_append_right _ (List.mem_append_left _ (List.mem_of_getElem? (i := 21) rfl))))))
theorem mw_322 : Cond.code yX5_fails cX5_fails 3 (some .boolean) ∈ BW := List.mem_append_right _ (List.mem_append_right _ (List.mem_append_right _ (List.mem_append_right _ (List.mem_append_right _ (List.mem_append_left _ (List.mem_of_getElem? (i := 22) rfl))))))
theorem mw_323 : Cond.code yX5_isElement cX5_isElement 2 (some .boolean) ∈ BW := List.mem_append_right _ (List.mem_append_right _ (List.mem_append_right _ (List.mem_append_right _ (List.mem_append_right _ (List.mem_append_left _ (List.mem_of_getElem? (i := 23) rfl))))))
theorem mw_324 : Cond.code yX5_digit cX5_digit 2 (some .int) ∈ BW := List.mem_append_right _ (List.mem_append_right _ (List.mem_append_right _ (List.mem_append_right _ (List.mem_append_right _ (List.mem_append_left _ (List.mem_of_getElem? (i := 24) rfl))))))
theorem mw_325 : Cond.code yX5_add cX5_add 5 (some .int) ∈ BW := List.mem_append_right _ (List.mem_append_right _ (List.mem_append_right _ (List.mem_append_right _ (List.mem_append_right _ (List.mem_append_left _ (List.mem_of_getElem? (i := 25) rfl))))))
theorem mw_326 : Cond.code yX5_negative cX5_negative 4 (some .int) ∈ BW := List.mem_append_right _ (List.mem_append_right _ (List.mem_append_right _ (List.mem_append_right _ (List.mem_append_right _ (List.mem_append_left _ (List.mem_of_getElem? (i := 26) rfl))))))
theorem mw_327 : Cond.code yX5_less cX5_less 2 (some .int) ∈ BW := List.mem_append_right _ (List.mem_append_right _ (List.mem_append_right _ (List.mem_append_right _ (List.mem_append_right _ (List.mem_append_left _ (List.mem_of_getElem? (i := 27) rfl))))))
theorem mw_328 : Cond.methodLink RX5 38 yX5_negative ∈ BW := List.mem_append_right _ (List.mem_append_right _ (List.mem_append_right _ (List.mem_append_right _ (List.mem_append_right _ (List.mem_append_left _ (List.mem_of_getElem? (i := 28) rfl))))))
theorem mw_329 : Cond.static yX5_negative ∈ BW := List.mem_append_right _ (List.mem_append_right _ (List.mem_append_right _ (List.mem_append_right _ (List.mem_append_right _ (List.mem_append_left _ (List.mem_of_getElem? (i := 29) rfl))))))
theorem mw_330 : Cond.initialized RX5 ∈ BW := List.mem_append_right _ (List.mem_append_right _ (List.mem_append_right _ (List.mem_append_right _ (List.mem_append_right _ (List.mem_append_left _ (List.mem_of_getElem? (i := 30) rfl))))))
theorem mw_331 : Cond.methodLink RX5 42 yX5_add ∈ BW := List.mem_append_right _ (List.mem_append_right _ (List.mem_append_right _ (List.mem_append_right _ (List.mem_append_right _ (List.mem_append_left _ (List.mem_of_getElem? (i := 31) rfl))))))
theorem mw_332 : Cond.static yX5_add ∈ BW := List.mem_append_right _ (List.mem_append_right _ (List.mem_append_right _ (List.mem_append_right _ (List.mem_append_right _ (List.mem_append_left _ (List.mem_of_getElem? (i := 32) rfl))))))
theorem mw_333 : Cond.code yX5_times cX5_times 6 (some .int) ∈ BW := List.mem_append_right _ (List.mem_append_right _ (List.mem_append_right _ (List.mem_append_right _ (List.mem_append_right _ (List.mem_append_left _ (List.mem_of_getElem? (i := 33) rfl))))))
theorem mw_334 : Cond.methodLink RX5 46 yX5_digit ∈ BW := List.mem_append_right _ (List.mem_append_right _ (List.mem_append_right _ (List.mem_append_right _ (List.mem_append_right _ (List.mem_append_left _ (List.mem_of_getElem? (i := 34) rfl))))))
theorem mw_335 : Cond.static yX5_digit ∈ BW := List.mem_append_right _ (List.mem_append_right _ (List.mem_append_right _ (List.mem_append_right _ (List.mem_append_right _ (List.mem_append_left _ (List.mem_of_getElem? (i := 35) rfl))))))
theorem mw_336 : Cond.code yX5_power cX5_power 8 (some .int) ∈ BW := List.mem_append_right _ (List.mem_append_right _ (List.mem_append_right _ (List.mem_append_right _ (List.mem_append_right _ (List.mem_append_left _ (List.mem_of_getElem? (i := 36) rfl))))))
theorem mw_337 : Cond.methodLink RX5 49 yX5_times ∈ BW := List.mem_append_right _ (List.mem_append_right _ (List.mem_append_right _ (List.mem_append_right _ (List.mem_append_right _ (List.mem_append_left _ (List.mem_of_getElem? (i := 37) rfl))))))
theorem mw_338 : Cond.instanceMethod yX5_times ∈ BW := List.mem_append_right _ (List.mem_append_right _ (List.mem_append_right _ (List.mem_append_right _ (List.mem_append_right _ (List.mem_append_left _ (List.mem_of_getElem? (i := 38) rfl))))))
theorem mw_339 : Cond.selects RX5 yX5_times yX5_times ∈ BW := List.mem_append_right _ (List.mem_append_right _ (List.mem_append_right _ (List.mem_append_right _ (List.mem_append_right _ (List.mem_append_left _ (List.mem_of_getElem? (i := 39) rfl))))))
theorem mw_340 : Cond.code yX5_inverse cX5_inverse 2 (some .int) ∈ BW := List.mem_append_right _ (List.mem_append_right _ (List.mem_append_right _ (List.mem_append_right _ (List.mem_append_right _ (List.mem_append_left _ (List.mem_of_getElem? (i := 40) rfl))))))
theorem mw_341 : Cond.constantLong RX5 52 (2) ∈ BW := List.mem_append_right _ (List.mem_append_right _ (List.mem_append_right _ (List.mem_append_right _ (List.mem_append_right _ (List.mem_append_left _ (List.mem_of_getElem? (i := 41) rfl))))))
theorem mw_342 : Cond.methodLink RX5 54 yX5_power ∈ BW := List.mem_append_right _ (List.mem_append_right _ (List.mem_append_right _ (List.mem_append_right _ (List.mem_append_right _ (List.mem_append_left _ (List.mem_of_getElem? (i := 42) rfl))))))
theorem mw_343 : Cond.instanceMethod yX5_power ∈ BW := List.mem_append_right _ (List.mem_append_right _ (List.mem_append_right _ (List.mem_append_right _ (List.mem_append_right _ (List.mem_append_left _ (List.mem_of_getElem? (i := 43) rfl))))))
theorem mw_344 : Cond.selects RX5 yX5_power yX5_power ∈ BW := List.mem_append_right _ (List.mem_append_right _ (List.mem_append_right _ (List.mem_append_right _ (List.mem_append_right _ (List.mem_append_left _ (List.mem_of_getElem? (i := 44) rfl))))))
theorem mw_345 : Cond.code yX5_mate cX5_mate 5 (some .int) ∈ BW := List.mem_append_right _ (List.mem_append_right _ (List.mem_append_right _ (List.mem_append_right _ (List.mem_append_right _ (List.mem_append_left _ (List.mem_of_getElem? (i := 45) rfl))))))
theorem mw_346 : Cond.code yX5_mates cX5_mates 3 (some .int) ∈ BW := List.mem_append_right _ (List.mem_append_right _ (List.mem_append_right _ (List.mem_append_right _ (List.mem_append_right _ (List.mem_append_left _ (List.mem_of_getElem? (i := 46) rfl))))))
theorem mw_347 : Cond.methodLink RX5 58 yX5_mate ∈ BW := List.mem_append_right _ (List.mem_append_right _ (List.mem_append_right _ (List.mem_append_right _ (List.mem_append_right _ (List.mem_append_left _ (List.mem_of_getElem? (i := 47) rfl))))))
theorem mw_348 : Cond.instanceMethod yX5_mate ∈ BW := List.mem_append_right _ (List.mem_append_right _ (List.mem_append_right _ (List.mem_append_right _ (List.mem_append_right _ (List.mem_append_left _ (List.mem_of_getElem? (i := 48) rfl))))))
theorem mw_349 : Cond.selects RX5 yX5_mate yX5_mate ∈ BW := List.mem_append_right _ (List.mem_append_right _ (List.mem_append_right _ (List.mem_append_right _ (List.mem_append_right _ (List.mem_append_left _ (List.mem_of_getElem? (i := 49) rfl))))))
theorem mw_350 : Cond.code yX5_number cX5_number 3 (some .int) ∈ BW := List.mem_append_right _ (List.mem_append_right _ (List.mem_append_right _ (List.mem_append_right _ (List.mem_append_right _ (List.mem_append_left _ (List.mem_of_getElem? (i := 50) rfl))))))
theorem mw_351 : Cond.code yX5_clear cX5_clear 3 none ∈ BW := List.mem_append_right _ (List.mem_append_right _ (List.mem_append_right _ (List.mem_append_right _ (List.mem_append_right _ (List.mem_append_left _ (List.mem_of_getElem? (i := 51) rfl))))))
theorem mw_352 : Cond.code yX5_field cX5_field 13 (some .boolean) ∈ BW := List.mem_append_right _ (List.mem_append_right _ (List.mem_append_right _ (List.mem_append_right _ (List.mem_append_right _ (List.mem_append_left _ (List.mem_of_getElem? (i := 52) rfl))))))
theorem mw_353 : Cond.constantLong RX5 69 (10201) ∈ BW := List.mem_append_right _ (List.mem_append_right _ (List.mem_append_right _ (List.mem_append_right _ (List.mem_append_right _ (List.mem_append_left _ (List.mem_of_getElem? (i := 53) rfl))))))
theorem mw_354 : Cond.constantLong RX5 71 (1030301) ∈ BW := List.mem_append_right _ (List.mem_append_right _ (List.mem_append_right _ (List.mem_append_right _ (List.mem_append_right _ (List.mem_append_left _ (List.mem_of_getElem? (i := 54) rfl))))))
theorem mw_355 : Cond.fieldLink RX5 77 "NumberFieldFactorsModel" "known" "Z" ∈ BW := List.mem_append_right _ (List.mem_append_right _ (List.mem_append_right _ (List.mem_append_right _ (List.mem_append_right _ (List.mem_append_left _ (List.mem_of_getElem? (i := 55) rfl))))))
theorem mw_356 : Cond.methodLink RX5 61 yX5_fails ∈ BW := List.mem_append_right _ (List.mem_append_right _ (List.mem_append_right _ (List.mem_append_right _ (List.mem_append_right _ (List.mem_append_left _ (List.mem_of_getElem? (i := 56) rfl))))))
theorem mw_357 : Cond.instanceMethod yX5_fails ∈ BW := List.mem_append_right _ (List.mem_append_right _ (List.mem_append_right _ (List.mem_append_right _ (List.mem_append_right _ (List.mem_append_left _ (List.mem_of_getElem? (i := 57) rfl))))))
theorem mw_358 : Cond.selects RX5 yX5_fails yX5_fails ∈ BW := List.mem_append_right _ (List.mem_append_right _ (List.mem_append_right _ (List.mem_append_right _ (List.mem_append_right _ (List.mem_append_left _ (List.mem_of_getElem? (i := 58) rfl))))))
theorem mw_359 : Cond.methodLink RX5 65 yX5_number ∈ BW := List.mem_append_right _ (List.mem_append_right _ (List.mem_append_right _ (List.mem_append_right _ (List.mem_append_right _ (List.mem_append_left _ (List.mem_of_getElem? (i := 59) rfl))))))
theorem mw_360 : Cond.static yX5_number ∈ BW := List.mem_append_right _ (List.mem_append_right _ (List.mem_append_right _ (List.mem_append_right _ (List.mem_append_right _ (List.mem_append_right _ (List.mem_append_left _ (List.mem_of_getElem? (i := 0) rfl)))))))
theorem mw_361 : Cond.methodLink RX5 73 yX5_clear ∈ BW := List.mem_append_right _ (List.mem_append_right _ (List.mem_append_right _ (List.mem_append_right _ (List.mem_append_right _ (List.mem_append_right _ (List.mem_append_left _ (List.mem_of_getElem? (i := 1) rfl)))))))
theorem mw_362 : Cond.instanceMethod yX5_clear ∈ BW := List.mem_append_right _ (List.mem_append_right _ (List.mem_append_right _ (List.mem_append_right _ (List.mem_append_right _ (List.mem_append_right _ (List.mem_append_left _ (List.mem_of_getElem? (i := 2) rfl)))))))
theorem mw_363 : Cond.selects RX5 yX5_clear yX5_clear ∈ BW := List.mem_append_right _ (List.mem_append_right _ (List.mem_append_right _ (List.mem_append_right _ (List.mem_append_right _ (List.mem_append_right _ (List.mem_append_left _ (List.mem_of_getElem? (i := 3) rfl)))))))
theorem mw_364 : Cond.code yX5_modulus cX5_modulus 2 (some .int) ∈ BW := List.mem_append_right _ (List.mem_append_right _ (List.mem_append_right _ (List.mem_append_right _ (List.mem_append_right _ (List.mem_append_right _ (List.mem_append_left _ (List.mem_of_getElem? (i := 4) rfl)))))))
theorem mw_365 : Cond.code yX5_copy cX5_copy 4 none ∈ BW := List.mem_append_right _ (List.mem_append_right _ (List.mem_append_right _ (List.mem_append_right _ (List.mem_append_right _ (List.mem_append_right _ (List.mem_append_left _ (List.mem_of_getElem? (i := 5) rfl)))))))
theorem mw_366 : Cond.code yX5_set cX5_set 5 none ∈ BW := List.mem_append_right _ (List.mem_append_right _ (List.mem_append_right _ (List.mem_append_right _ (List.mem_append_right _ (List.mem_append_right _ (List.mem_append_left _ (List.mem_of_getElem? (i := 6) rfl)))))))
theorem mw_367 : Cond.code yX5_cell cX5_cell 3 (some .int) ∈ BW := List.mem_append_right _ (List.mem_append_right _ (List.mem_append_right _ (List.mem_append_right _ (List.mem_append_right _ (List.mem_append_right _ (List.mem_append_left _ (List.mem_of_getElem? (i := 7) rfl)))))))
theorem mw_368 : Cond.code yX5_product cX5_product 6 none ∈ BW := List.mem_append_right _ (List.mem_append_right _ (List.mem_append_right _ (List.mem_append_right _ (List.mem_append_right _ (List.mem_append_right _ (List.mem_append_left _ (List.mem_of_getElem? (i := 8) rfl)))))))
theorem mw_369 : Cond.methodLink RX5 81 yX5_cell ∈ BW := List.mem_append_right _ (List.mem_append_right _ (List.mem_append_right _ (List.mem_append_right _ (List.mem_append_right _ (List.mem_append_right _ (List.mem_append_left _ (List.mem_of_getElem? (i := 9) rfl)))))))
theorem mw_370 : Cond.instanceMethod yX5_cell ∈ BW := List.mem_append_right _ (List.mem_append_right _ (List.mem_append_right _ (List.mem_append_right _ (List.mem_append_right _ (List.mem_append_right _ (List.mem_append_left _ (List.mem_of_getElem? (i := 10) rfl)))))))
theorem mw_371 : Cond.selects RX5 yX5_cell yX5_cell ∈ BW := List.mem_append_right _ (List.mem_append_right _ (List.mem_append_right _ (List.mem_append_right _ (List.mem_append_right _ (List.mem_append_right _ (List.mem_append_left _ (List.mem_of_getElem? (i := 11) rfl)))))))
theorem mw_372 : Cond.methodLink RX5 84 yX5_inverse ∈ BW := List.mem_append_right _ (List.mem_append_right _ (List.mem_append_right _ (List.mem_append_right _ (List.mem_append_right _ (List.mem_append_right _ (List.mem_append_left _ (List.mem_of_getElem? (i := 12) rfl)))))))
theorem mw_373 : Cond.instanceMethod yX5_inverse ∈ BW := List.mem_append_right _ (List.mem_append_right _ (List.mem_append_right _ (List.mem_append_right _ (List.mem_append_right _ (List.mem_append_right _ (List.mem_append_left _ (List.mem_of_getElem? (i := 13) rfl)))))))
theorem mw_374 : Cond.selects RX5 yX5_inverse yX5_inverse ∈ BW := List.mem_append_right _ (List.mem_append_right _ (List.mem_append_right _ (List.mem_append_right _ (List.mem_append_right _ (List.mem_append_right _ (List.mem_append_left _ (List.mem_of_getElem? (i := 14) rfl)))))))
theorem mw_375 : Cond.methodLink RX5 87 yX5_less ∈ BW := List.mem_append_right _ (List.mem_append_right _ (List.mem_append_right _ (List.mem_append_right _ (List.mem_append_right _ (List.mem_append_right _ (List.mem_append_left _ (List.mem_of_getElem? (i := 15) rfl)))))))
theorem mw_376 : Cond.static yX5_less ∈ BW := List.mem_append_right _ (List.mem_append_right _ (List.mem_append_right _ (List.mem_append_right _ (List.mem_append_right _ (List.mem_append_right _ (List.mem_append_left _ (List.mem_of_getElem? (i := 16) rfl)))))))
theorem mw_377 : Cond.methodLink RX5 90 yX5_set ∈ BW := List.mem_append_right _ (List.mem_append_right _ (List.mem_append_right _ (List.mem_append_right _ (List.mem_append_right _ (List.mem_append_right _ (List.mem_append_left _ (List.mem_of_getElem? (i := 17) rfl)))))))
theorem mw_378 : Cond.instanceMethod yX5_set ∈ BW := List.mem_append_right _ (List.mem_append_right _ (List.mem_append_right _ (List.mem_append_right _ (List.mem_append_right _ (List.mem_append_right _ (List.mem_append_left _ (List.mem_of_getElem? (i := 18) rfl)))))))
theorem mw_379 : Cond.selects RX5 yX5_set yX5_set ∈ BW := List.mem_append_right _ (List.mem_append_right _ (List.mem_append_right _ (List.mem_append_right _ (List.mem_append_right _ (List.mem_append_right _ (List.mem_append_left _ (List.mem_of_getElem? (i := 19) rfl)))))))
theorem mw_380 : Cond.code yX5_divide cX5_divide 9 none ∈ BW := List.mem_append_right _ (List.mem_append_right _ (List.mem_append_right _ (List.mem_append_right _ (List.mem_append_right _ (List.mem_append_right _ (List.mem_append_left _ (List.mem_of_getElem? (i := 20) rfl)))))))
theorem mw_381 : Cond.code yX5_monic cX5_monic 4 none ∈ BW := List.mem_append_right _ (List.mem_append_right _ (List.mem_append_right _ (List.mem_append_right _ (List.mem_append_right _ (List.mem_append_right _ (List.mem_append_left _ (List.mem_of_getElem? (i := 21) rfl)))))))
theorem mw_382 : Cond.methodLink RX5 94 yX5_divide ∈ BW := List.mem_append_right _ (List.mem_append_right _ (List.mem_append_right _ (List.mem_append_right _ (List.mem_append_right _ (List.mem_append_right _ (List.mem_append_left _ (List.mem_of_getElem? (i := 22) rfl)))))))
theorem mw_383 : Cond.instanceMethod yX5_divide ∈ BW := List.mem_append_right _ (List.mem_append_right _ (List.mem_append_right _ (List.mem_append_right _ (List.mem_append_right _ (List.mem_append_right _ (List.mem_append_left _ (List.mem_of_getElem? (i := 23) rfl)))))))
theorem mw_384 : Cond.selects RX5 yX5_divide yX5_divide ∈ BW := List.mem_append_right _ (List.mem_append_right _ (List.mem_append_right _ (List.mem_append_right _ (List.mem_append_right _ (List.mem_append_right _ (List.mem_append_left _ (List.mem_of_getElem? (i := 24) rfl)))))))
theorem mw_385 : Cond.methodLink RX5 97 yX5_copy ∈ BW := List.mem_append_right _ (List.mem_append_right _ (List.mem_append_right _ (List.mem_append_right _ (List.mem_append_right _ (List.mem_append_right _ (List.mem_append_left _ (List.mem_of_getElem? (i := 25) rfl)))))))
theorem mw_386 : Cond.instanceMethod yX5_copy ∈ BW := List.mem_append_right _ (List.mem_append_right _ (List.mem_append_right _ (List.mem_append_right _ (List.mem_append_right _ (List.mem_append_right _ (List.mem_append_left _ (List.mem_of_getElem? (i := 26) rfl)))))))
theorem mw_387 : Cond.selects RX5 yX5_copy yX5_copy ∈ BW := List.mem_append_right _ (List.mem_append_right _ (List.mem_append_right _ (List.mem_append_right _ (List.mem_append_right _ (List.mem_append_right _ (List.mem_append_left _ (List.mem_of_getElem? (i := 27) rfl)))))))
theorem mw_388 : Cond.methodLink RX5 101 yX5_monic ∈ BW := List.mem_append_right _ (List.mem_append_right _ (List.mem_append_right _ (List.mem_append_right _ (List.mem_append_right _ (List.mem_append_right _ (List.mem_append_left _ (List.mem_of_getElem? (i := 28) rfl)))))))
theorem mw_389 : Cond.instanceMethod yX5_monic ∈ BW := List.mem_append_right _ (List.mem_append_right _ (List.mem_append_right _ (List.mem_append_right _ (List.mem_append_right _ (List.mem_append_right _ (List.mem_append_left _ (List.mem_of_getElem? (i := 29) rfl)))))))
theorem mw_390 : Cond.selects RX5 yX5_monic yX5_monic ∈ BW := List.mem_append_right _ (List.mem_append_right _ (List.mem_append_right _ (List.mem_append_right _ (List.mem_append_right _ (List.mem_append_right _ (List.mem_append_left _ (List.mem_of_getElem? (i := 30) rfl)))))))
theorem mw_391 : Cond.code yX5_divisor cX5_divisor 4 none ∈ BW := List.mem_append_right _ (List.mem_append_right _ (List.mem_append_right _ (List.mem_append_right _ (List.mem_append_right _ (List.mem_append_right _ (List.mem_append_left _ (List.mem_of_getElem? (i := 31) rfl)))))))
theorem mw_392 : Cond.code yX5_slope cX5_slope 4 none ∈ BW := List.mem_append_right _ (List.mem_append_right _ (List.mem_append_right _ (List.mem_append_right _ (List.mem_append_right _ (List.mem_append_right _ (List.mem_append_left _ (List.mem_of_getElem? (i := 32) rfl)))))))
theorem mw_393 : Cond.methodLink RX5 104 yX5_product ∈ BW := List.mem_append_right _ (List.mem_append_right _ (List.mem_append_right _ (List.mem_append_right _ (List.mem_append_right _ (List.mem_append_right _ (List.mem_append_left _ (List.mem_of_getElem? (i := 33) rfl)))))))
theorem mw_394 : Cond.instanceMethod yX5_product ∈ BW := List.mem_append_right _ (List.mem_append_right _ (List.mem_append_right _ (List.mem_append_right _ (List.mem_append_right _ (List.mem_append_right _ (List.mem_append_left _ (List.mem_of_getElem? (i := 34) rfl)))))))
theorem mw_395 : Cond.selects RX5 yX5_product yX5_product ∈ BW := List.mem_append_right _ (List.mem_append_right _ (List.mem_append_right _ (List.mem_append_right _ (List.mem_append_right _ (List.mem_append_right _ (List.mem_append_left _ (List.mem_of_getElem? (i := 35) rfl)))))))
theorem mw_396 : Cond.code yX5_powers cX5_powers 8 none ∈ BW := List.mem_append_right _ (List.mem_append_right _ (List.mem_append_right _ (List.mem_append_right _ (List.mem_append_right _ (List.mem_append_right _ (List.mem_append_left _ (List.mem_of_getElem? (i := 36) rfl)))))))
theorem mw_397 : Cond.code yX5_moved cX5_moved 6 none ∈ BW := List.mem_append_right _ (List.mem_append_right _ (List.mem_append_right _ (List.mem_append_right _ (List.mem_append_right _ (List.mem_append_right _ (List.mem_append_left _ (List.mem_of_getElem? (i := 37) rfl)))))))
theorem mw_398 : Cond.code yX5_normOf cX5_normOf 5 none ∈ BW := List.mem_append_right _ (List.mem_append_right _ (List.mem_append_right _ (List.mem_append_right _ (List.mem_append_right _ (List.mem_append_right _ (List.mem_append_left _ (List.mem_of_getElem? (i := 38) rfl)))))))
theorem mw_399 : Cond.code yX5_isPower cX5_isPower 2 (some .boolean) ∈ BW := List.mem_append_right _ (List.mem_append_right _ (List.mem_append_right _ (List.mem_append_right _ (List.mem_append_right _ (List.mem_append_right _ (List.mem_append_left _ (List.mem_of_getElem? (i := 39) rfl)))))))
theorem mw_400 : Cond.methodLink RX5 107 yX5_isPower ∈ BW := List.mem_append_right _ (List.mem_append_right _ (List.mem_append_right _ (List.mem_append_right _ (List.mem_append_right _ (List.mem_append_right _ (List.mem_append_left _ (List.mem_of_getElem? (i := 40) rfl)))))))
theorem mw_401 : Cond.instanceMethod yX5_isPower ∈ BW := List.mem_append_right _ (List.mem_append_right _ (List.mem_append_right _ (List.mem_append_right _ (List.mem_append_right _ (List.mem_append_right _ (List.mem_append_left _ (List.mem_of_getElem? (i := 41) rfl)))))))
theorem mw_402 : Cond.selects RX5 yX5_isPower yX5_isPower ∈ BW := List.mem_append_right _ (List.mem_append_right _ (List.mem_append_right _ (List.mem_append_right _ (List.mem_append_right _ (List.mem_append_right _ (List.mem_append_left _ (List.mem_of_getElem? (i := 42) rfl)))))))
theorem mw_403 : Cond.methodLink RX5 111 yX5_isElement ∈ BW := List.mem_append_right _ (List.mem_append_right _ (List.mem_append_right _ (List.mem_append_right _ (List.mem_append_right _ (List.mem_append_right _ (List.mem_append_left _ (List.mem_of_getElem? (i := 43) rfl)))))))
theorem mw_404 : Cond.instanceMethod yX5_isElement ∈ BW := List.mem_append_right _ (List.mem_append_right _ (List.mem_append_right _ (List.mem_append_right _ (List.mem_append_right _ (List.mem_append_right _ (List.mem_append_left _ (List.mem_of_getElem? (i := 44) rfl)))))))
theorem mw_405 : Cond.selects RX5 yX5_isElement yX5_isElement ∈ BW := List.mem_append_right _ (List.mem_append_right _ (List.mem_append_right _ (List.mem_append_right _ (List.mem_append_right _ (List.mem_append_right _ (List.mem_append_left _ (List.mem_of_getElem? (i := 45) rfl)))))))
theorem mw_406 : Cond.code yX5_put cX5_put 4 (some .boolean) ∈ BW := List.mem_append_right _ (List.mem_append_right _ (List.mem_append_right _ (List.mem_append_right _ (List.mem_append_right _ (List.mem_append_right _ (List.mem_append_left _ (List.mem_of_getElem? (i := 46) rfl)))))))
theorem mw_407 : Cond.code yX5_at cX5_at 2 (some .int) ∈ BW := List.mem_append_right _ (List.mem_append_right _ (List.mem_append_right _ (List.mem_append_right _ (List.mem_append_right _ (List.mem_append_right _ (List.mem_append_left _ (List.mem_of_getElem? (i := 47) rfl)))))))
theorem mw_408 : Cond.code yX5_reckon cX5_reckon 5 (some .int) ∈ BW := List.mem_append_right _ (List.mem_append_right _ (List.mem_append_right _ (List.mem_append_right _ (List.mem_append_right _ (List.mem_append_right _ (List.mem_append_left _ (List.mem_of_getElem? (i := 48) rfl)))))))
theorem mw_409 : Cond.methodLink RX5 114 yX5_mates ∈ BW := List.mem_append_right _ (List.mem_append_right _ (List.mem_append_right _ (List.mem_append_right _ (List.mem_append_right _ (List.mem_append_right _ (List.mem_append_left _ (List.mem_of_getElem? (i := 49) rfl)))))))
theorem mw_410 : Cond.instanceMethod yX5_mates ∈ BW := List.mem_append_right _ (List.mem_append_right _ (List.mem_append_right _ (List.mem_append_right _ (List.mem_append_right _ (List.mem_append_right _ (List.mem_append_left _ (List.mem_of_getElem? (i := 50) rfl)))))))
theorem mw_411 : Cond.selects RX5 yX5_mates yX5_mates ∈ BW := List.mem_append_right _ (List.mem_append_right _ (List.mem_append_right _ (List.mem_append_right _ (List.mem_append_right _ (List.mem_append_right _ (List.mem_append_left _ (List.mem_of_getElem? (i := 51) rfl)))))))
theorem mw_412 : Cond.code yX5_known cX5_known 6 (some .int) ∈ BW := List.mem_append_right _ (List.mem_append_right _ (List.mem_append_right _ (List.mem_append_right _ (List.mem_append_right _ (List.mem_append_right _ (List.mem_append_left _ (List.mem_of_getElem? (i := 52) rfl)))))))
theorem mw_413 : Cond.code yX5_minimal cX5_minimal 5 (some .int) ∈ BW := List.mem_append_right _ (List.mem_append_right _ (List.mem_append_right _ (List.mem_append_right _ (List.mem_append_right _ (List.mem_append_right _ (List.mem_append_left _ (List.mem_of_getElem? (i := 53) rfl)))))))
theorem mw_414 : Cond.code yX5_value cX5_value 4 (some .int) ∈ BW := List.mem_append_right _ (List.mem_append_right _ (List.mem_append_right _ (List.mem_append_right _ (List.mem_append_right _ (List.mem_append_right _ (List.mem_append_left _ (List.mem_of_getElem? (i := 54) rfl)))))))
theorem mw_415 : Cond.methodLink RX5 117 yX5_normOf ∈ BW := List.mem_append_right _ (List.mem_append_right _ (List.mem_append_right _ (List.mem_append_right _ (List.mem_append_right _ (List.mem_append_right _ (List.mem_append_left _ (List.mem_of_getElem? (i := 55) rfl)))))))
theorem mw_416 : Cond.instanceMethod yX5_normOf ∈ BW := List.mem_append_right _ (List.mem_append_right _ (List.mem_append_right _ (List.mem_append_right _ (List.mem_append_right _ (List.mem_append_right _ (List.mem_append_left _ (List.mem_of_getElem? (i := 56) rfl)))))))
theorem mw_417 : Cond.selects RX5 yX5_normOf yX5_normOf ∈ BW := List.mem_append_right _ (List.mem_append_right _ (List.mem_append_right _ (List.mem_append_right _ (List.mem_append_right _ (List.mem_append_right _ (List.mem_append_left _ (List.mem_of_getElem? (i := 57) rfl)))))))
theorem mw_418 : Cond.code yX5_norm cX5_norm 2 (some .int) ∈ BW := List.mem_append_right _ (List.mem_append_right _ (List.mem_append_right _ (List.mem_append_right _ (List.mem_append_right _ (List.mem_append_right _ (List.mem_append_left _ (List.mem_of_getElem? (i := 58) rfl)))))))
theorem mw_419 : Cond.methodLink RX5 120 yX5_slope ∈ BW := List.mem_append_right _ (List.mem_append_right _ (List.mem_append_right _ (List.mem_append_right _ (List.mem_append_right _ (List.mem_append_right _ (List.mem_append_left _ (List.mem_of_getElem? (i := 59) rfl)))))))
theorem mw_420 : Cond.instanceMethod yX5_slope ∈ BW := List.mem_append_right _ (List.mem_append_right _ (List.mem_append_right _ (List.mem_append_right _ (List.mem_append_right _ (List.mem_append_right _ (List.mem_append_right _ (List.mem_append_left _ (List.mem_of_getElem? (i := 0) rfl))))))))
theorem mw_421 : Cond.selects RX5 yX5_slope yX5_slope ∈ BW := List.mem_append_right _ (List.mem_append_right _ (List.mem_append_right _ (List.mem_append_right _ (List.mem_append_right _ (List.mem_append_right _ (List.mem_append_right _ (List.mem_append_left _ (List.mem_of_getElem? (i := 1) rfl))))))))
theorem mw_422 : Cond.methodLink RX5 123 yX5_divisor ∈ BW := List.mem_append_right _ (List.mem_append_right _ (List.mem_append_right _ (List.mem_append_right _ (List.mem_append_right _ (List.mem_append_right _ (List.mem_append_right _ (List.mem_append_left _ (List.mem_of_getElem? (i := 2) rfl))))))))
theorem mw_423 : Cond.instanceMethod yX5_divisor ∈ BW := List.mem_append_right _ (List.mem_append_right _ (List.mem_append_right _ (List.mem_append_right _ (List.mem_append_right _ (List.mem_append_right _ (List.mem_append_right _ (List.mem_append_left _ (List.mem_of_getElem? (i := 3) rfl))))))))
theorem mw_424 : Cond.selects RX5 yX5_divisor yX5_divisor ∈ BW := List.mem_append_right _ (List.mem_append_right _ (List.mem_append_right _ (List.mem_append_right _ (List.mem_append_right _ (List.mem_append_right _ (List.mem_append_right _ (List.mem_append_left _ (List.mem_of_getElem? (i := 4) rfl))))))))
theorem mw_425 : Cond.code yX5_root cX5_root 1 none ∈ BW := List.mem_append_right _ (List.mem_append_right _ (List.mem_append_right _ (List.mem_append_right _ (List.mem_append_right _ (List.mem_append_right _ (List.mem_append_right _ (List.mem_append_left _ (List.mem_of_getElem? (i := 5) rfl))))))))
theorem mw_426 : Cond.code yX5_found cX5_found 2 none ∈ BW := List.mem_append_right _ (List.mem_append_right _ (List.mem_append_right _ (List.mem_append_right _ (List.mem_append_right _ (List.mem_append_right _ (List.mem_append_right _ (List.mem_append_left _ (List.mem_of_getElem? (i := 6) rfl))))))))
theorem mw_427 : Cond.fieldLink RX5 126 "NumberFieldFactorsModel" "factors" "I" ∈ BW := List.mem_append_right _ (List.mem_append_right _ (List.mem_append_right _ (List.mem_append_right _ (List.mem_append_right _ (List.mem_append_right _ (List.mem_append_right _ (List.mem_append_left _ (List.mem_of_getElem? (i := 7) rfl))))))))
theorem mw_428 : Cond.methodLink RX5 129 yX5_found ∈ BW := List.mem_append_right _ (List.mem_append_right _ (List.mem_append_right _ (List.mem_append_right _ (List.mem_append_right _ (List.mem_append_right _ (List.mem_append_right _ (List.mem_append_left _ (List.mem_of_getElem? (i := 8) rfl))))))))
theorem mw_429 : Cond.instanceMethod yX5_found ∈ BW := List.mem_append_right _ (List.mem_append_right _ (List.mem_append_right _ (List.mem_append_right _ (List.mem_append_right _ (List.mem_append_right _ (List.mem_append_right _ (List.mem_append_left _ (List.mem_of_getElem? (i := 9) rfl))))))))
theorem mw_430 : Cond.selects RX5 yX5_found yX5_found ∈ BW := List.mem_append_right _ (List.mem_append_right _ (List.mem_append_right _ (List.mem_append_right _ (List.mem_append_right _ (List.mem_append_right _ (List.mem_append_right _ (List.mem_append_left _ (List.mem_of_getElem? (i := 10) rfl))))))))
theorem mw_431 : Cond.methodLink RX5 132 yX5_powers ∈ BW := List.mem_append_right _ (List.mem_append_right _ (List.mem_append_right _ (List.mem_append_right _ (List.mem_append_right _ (List.mem_append_right _ (List.mem_append_right _ (List.mem_append_left _ (List.mem_of_getElem? (i := 11) rfl))))))))
theorem mw_432 : Cond.instanceMethod yX5_powers ∈ BW := List.mem_append_right _ (List.mem_append_right _ (List.mem_append_right _ (List.mem_append_right _ (List.mem_append_right _ (List.mem_append_right _ (List.mem_append_right _ (List.mem_append_left _ (List.mem_of_getElem? (i := 12) rfl))))))))
theorem mw_433 : Cond.selects RX5 yX5_powers yX5_powers ∈ BW := List.mem_append_right _ (List.mem_append_right _ (List.mem_append_right _ (List.mem_append_right _ (List.mem_append_right _ (List.mem_append_right _ (List.mem_append_right _ (List.mem_append_left _ (List.mem_of_getElem? (i := 13) rfl))))))))
theorem mw_434 : Cond.code yX5_parts cX5_parts 7 none ∈ BW := List.mem_append_right _ (List.mem_append_right _ (List.mem_append_right _ (List.mem_append_right _ (List.mem_append_right _ (List.mem_append_right _ (List.mem_append_right _ (List.mem_append_left _ (List.mem_of_getElem? (i := 14) rfl))))))))
theorem mw_435 : Cond.methodLink RX5 136 yX5_parts ∈ BW := List.mem_append_right _ (List.mem_append_right _ (List.mem_append_right _ (List.mem_append_right _ (List.mem_append_right _ (List.mem_append_right _ (List.mem_append_right _ (List.mem_append_left _ (List.mem_of_getElem? (i := 15) rfl))))))))
theorem mw_436 : Cond.instanceMethod yX5_parts ∈ BW := List.mem_append_right _ (List.mem_append_right _ (List.mem_append_right _ (List.mem_append_right _ (List.mem_append_right _ (List.mem_append_right _ (List.mem_append_right _ (List.mem_append_left _ (List.mem_of_getElem? (i := 16) rfl))))))))
theorem mw_437 : Cond.selects RX5 yX5_parts yX5_parts ∈ BW := List.mem_append_right _ (List.mem_append_right _ (List.mem_append_right _ (List.mem_append_right _ (List.mem_append_right _ (List.mem_append_right _ (List.mem_append_right _ (List.mem_append_left _ (List.mem_of_getElem? (i := 17) rfl))))))))
theorem mw_438 : Cond.code yX5_split cX5_split 2 none ∈ BW := List.mem_append_right _ (List.mem_append_right _ (List.mem_append_right _ (List.mem_append_right _ (List.mem_append_right _ (List.mem_append_right _ (List.mem_append_right _ (List.mem_append_left _ (List.mem_of_getElem? (i := 18) rfl))))))))
theorem mw_439 : Cond.code yX5_isAhead cX5_isAhead 4 (some .boolean) ∈ BW := List.mem_append_right _ (List.mem_append_right _ (List.mem_append_right _ (List.mem_append_right _ (List.mem_append_right _ (List.mem_append_right _ (List.mem_append_right _ (List.mem_append_left _ (List.mem_of_getElem? (i := 19) rfl))))))))
theorem mw_440 : Cond.code yX5_order cX5_order 3 none ∈ BW := List.mem_append_right _ (List.mem_append_right _ (List.mem_append_right _ (List.mem_append_right _ (List.mem_append_right _ (List.mem_append_right _ (List.mem_append_right _ (List.mem_append_left _ (List.mem_of_getElem? (i := 20) rfl))))))))
theorem mw_441 : Cond.methodLink RX5 139 yX5_isAhead ∈ BW := List.mem_append_right _ (List.mem_append_right _ (List.mem_append_right _ (List.mem_append_right _ (List.mem_append_right _ (List.mem_append_right _ (List.mem_append_right _ (List.mem_append_left _ (List.mem_of_getElem? (i := 21) rfl))))))))
theorem mw_442 : Cond.instanceMethod yX5_isAhead ∈ BW := List.mem_append_right _ (List.mem_append_right _ (List.mem_append_right _ (List.mem_append_right _ (List.mem_append_right _ (List.mem_append_right _ (List.mem_append_right _ (List.mem_append_left _ (List.mem_of_getElem? (i := 22) rfl))))))))
theorem mw_443 : Cond.selects RX5 yX5_isAhead yX5_isAhead ∈ BW := List.mem_append_right _ (List.mem_append_right _ (List.mem_append_right _ (List.mem_append_right _ (List.mem_append_right _ (List.mem_append_right _ (List.mem_append_right _ (List.mem_append_left _ (List.mem_of_getElem? (i := 23) rfl))))))))
theorem mw_444 : Cond.methodLink RX5 143 yX5_root ∈ BW := List.mem_append_right _ (List.mem_append_right _ (List.mem_append_right _ (List.mem_append_right _ (List.mem_append_right _ (List.mem_append_right _ (List.mem_append_right _ (List.mem_append_left _ (List.mem_of_getElem? (i := 24) rfl))))))))
theorem mw_445 : Cond.instanceMethod yX5_root ∈ BW := List.mem_append_right _ (List.mem_append_right _ (List.mem_append_right _ (List.mem_append_right _ (List.mem_append_right _ (List.mem_append_right _ (List.mem_append_right _ (List.mem_append_left _ (List.mem_of_getElem? (i := 25) rfl))))))))
theorem mw_446 : Cond.selects RX5 yX5_root yX5_root ∈ BW := List.mem_append_right _ (List.mem_append_right _ (List.mem_append_right _ (List.mem_append_right _ (List.mem_append_right _ (List.mem_append_right _ (List.mem_append_right _ (List.mem_append_left _ (List.mem_of_getElem? (i := 26) rfl))))))))
theorem mw_447 : Cond.methodLink RX5 146 yX5_split ∈ BW := List.mem_append_right _ (List.mem_append_right _ (List.mem_append_right _ (List.mem_append_right _ (List.mem_append_right _ (List.mem_append_right _ (List.mem_append_right _ (List.mem_append_left _ (List.mem_of_getElem? (i := 27) rfl))))))))
theorem mw_448 : Cond.instanceMethod yX5_split ∈ BW := List.mem_append_right _ (List.mem_append_right _ (List.mem_append_right _ (List.mem_append_right _ (List.mem_append_right _ (List.mem_append_right _ (List.mem_append_right _ (List.mem_append_left _ (List.mem_of_getElem? (i := 28) rfl))))))))
theorem mw_449 : Cond.selects RX5 yX5_split yX5_split ∈ BW := List.mem_append_right _ (List.mem_append_right _ (List.mem_append_right _ (List.mem_append_right _ (List.mem_append_right _ (List.mem_append_right _ (List.mem_append_right _ (List.mem_append_left _ (List.mem_of_getElem? (i := 29) rfl))))))))
theorem mw_450 : Cond.methodLink RX5 149 yX5_order ∈ BW := List.mem_append_right _ (List.mem_append_right _ (List.mem_append_right _ (List.mem_append_right _ (List.mem_append_right _ (List.mem_append_right _ (List.mem_append_right _ (List.mem_append_left _ (List.mem_of_getElem? (i := 30) rfl))))))))
theorem mw_451 : Cond.instanceMethod yX5_order ∈ BW := List.mem_append_right _ (List.mem_append_right _ (List.mem_append_right _ (List.mem_append_right _ (List.mem_append_right _ (List.mem_append_right _ (List.mem_append_right _ (List.mem_append_left _ (List.mem_of_getElem? (i := 31) rfl))))))))
theorem mw_452 : Cond.selects RX5 yX5_order yX5_order ∈ BW := List.mem_append_right _ (List.mem_append_right _ (List.mem_append_right _ (List.mem_append_right _ (List.mem_append_right _ (List.mem_append_right _ (List.mem_append_right _ (List.mem_append_left _ (List.mem_of_getElem? (i := 32) rfl))))))))
theorem mw_453 : Cond.code yX5_factorise cX5_factorise 3 none ∈ BW := List.mem_append_right _ (List.mem_append_right _ (List.mem_append_right _ (List.mem_append_right _ (List.mem_append_right _ (List.mem_append_right _ (List.mem_append_right _ (List.mem_append_left _ (List.mem_of_getElem? (i := 33) rfl))))))))
theorem mw_454 : Cond.code yX5_isNothing cX5_isNothing 1 (some .boolean) ∈ BW := List.mem_append_right _ (List.mem_append_right _ (List.mem_append_right _ (List.mem_append_right _ (List.mem_append_right _ (List.mem_append_right _ (List.mem_append_right _ (List.mem_append_left _ (List.mem_of_getElem? (i := 34) rfl))))))))
theorem mw_455 : Cond.methodLink RX5 152 yX5_isNothing ∈ BW := List.mem_append_right _ (List.mem_append_right _ (List.mem_append_right _ (List.mem_append_right _ (List.mem_append_right _ (List.mem_append_right _ (List.mem_append_right _ (List.mem_append_left _ (List.mem_of_getElem? (i := 35) rfl))))))))
theorem mw_456 : Cond.instanceMethod yX5_isNothing ∈ BW := List.mem_append_right _ (List.mem_append_right _ (List.mem_append_right _ (List.mem_append_right _ (List.mem_append_right _ (List.mem_append_right _ (List.mem_append_right _ (List.mem_append_left _ (List.mem_of_getElem? (i := 36) rfl))))))))
theorem mw_457 : Cond.selects RX5 yX5_isNothing yX5_isNothing ∈ BW := List.mem_append_right _ (List.mem_append_right _ (List.mem_append_right _ (List.mem_append_right _ (List.mem_append_right _ (List.mem_append_right _ (List.mem_append_right _ (List.mem_append_left _ (List.mem_of_getElem? (i := 37) rfl))))))))
theorem mw_458 : Cond.methodLink RX5 156 yX5_moved ∈ BW := List.mem_append_right _ (List.mem_append_right _ (List.mem_append_right _ (List.mem_append_right _ (List.mem_append_right _ (List.mem_append_right _ (List.mem_append_right _ (List.mem_append_left _ (List.mem_of_getElem? (i := 38) rfl))))))))
theorem mw_459 : Cond.instanceMethod yX5_moved ∈ BW := List.mem_append_right _ (List.mem_append_right _ (List.mem_append_right _ (List.mem_append_right _ (List.mem_append_right _ (List.mem_append_right _ (List.mem_append_right _ (List.mem_append_left _ (List.mem_of_getElem? (i := 39) rfl))))))))
theorem mw_460 : Cond.selects RX5 yX5_moved yX5_moved ∈ BW := List.mem_append_right _ (List.mem_append_right _ (List.mem_append_right _ (List.mem_append_right _ (List.mem_append_right _ (List.mem_append_right _ (List.mem_append_right _ (List.mem_append_left _ (List.mem_of_getElem? (i := 40) rfl))))))))
theorem mw_461 : Cond.code yX5_shift cX5_shift 4 (some .int) ∈ BW := List.mem_append_right _ (List.mem_append_right _ (List.mem_append_right _ (List.mem_append_right _ (List.mem_append_right _ (List.mem_append_right _ (List.mem_append_right _ (List.mem_append_left _ (List.mem_of_getElem? (i := 41) rfl))))))))
theorem mw_462 : Cond.methodLink RX5 159 yX5_factorise ∈ BW := List.mem_append_right _ (List.mem_append_right _ (List.mem_append_right _ (List.mem_append_right _ (List.mem_append_right _ (List.mem_append_right _ (List.mem_append_right _ (List.mem_append_left _ (List.mem_of_getElem? (i := 42) rfl))))))))
theorem mw_463 : Cond.instanceMethod yX5_factorise ∈ BW := List.mem_append_right _ (List.mem_append_right _ (List.mem_append_right _ (List.mem_append_right _ (List.mem_append_right _ (List.mem_append_right _ (List.mem_append_right _ (List.mem_append_left _ (List.mem_of_getElem? (i := 43) rfl))))))))
theorem mw_464 : Cond.selects RX5 yX5_factorise yX5_factorise ∈ BW := List.mem_append_right _ (List.mem_append_right _ (List.mem_append_right _ (List.mem_append_right _ (List.mem_append_right _ (List.mem_append_right _ (List.mem_append_right _ (List.mem_append_left _ (List.mem_of_getElem? (i := 44) rfl))))))))
theorem mw_465 : Cond.code yX5_factors cX5_factors 1 (some .int) ∈ BW := List.mem_append_right _ (List.mem_append_right _ (List.mem_append_right _ (List.mem_append_right _ (List.mem_append_right _ (List.mem_append_right _ (List.mem_append_right _ (List.mem_append_left _ (List.mem_of_getElem? (i := 45) rfl))))))))
theorem mw_466 : Cond.code yX5_lacks cX5_lacks 2 (some .boolean) ∈ BW := List.mem_append_right _ (List.mem_append_right _ (List.mem_append_right _ (List.mem_append_right _ (List.mem_append_right _ (List.mem_append_right _ (List.mem_append_right _ (List.mem_append_left _ (List.mem_of_getElem? (i := 46) rfl))))))))
theorem mw_467 : Cond.methodLink RX5 162 yX5_lacks ∈ BW := List.mem_append_right _ (List.mem_append_right _ (List.mem_append_right _ (List.mem_append_right _ (List.mem_append_right _ (List.mem_append_right _ (List.mem_append_right _ (List.mem_append_left _ (List.mem_of_getElem? (i := 47) rfl))))))))
theorem mw_468 : Cond.instanceMethod yX5_lacks ∈ BW := List.mem_append_right _ (List.mem_append_right _ (List.mem_append_right _ (List.mem_append_right _ (List.mem_append_right _ (List.mem_append_right _ (List.mem_append_right _ (List.mem_append_left _ (List.mem_of_getElem? (i := 48) rfl))))))))
theorem mw_469 : Cond.selects RX5 yX5_lacks yX5_lacks ∈ BW := List.mem_append_right _ (List.mem_append_right _ (List.mem_append_right _ (List.mem_append_right _ (List.mem_append_right _ (List.mem_append_right _ (List.mem_append_right _ (List.mem_append_left _ (List.mem_of_getElem? (i := 49) rfl))))))))
theorem mw_470 : Cond.code yX5_factor cX5_factor 3 (some .int) ∈ BW := List.mem_append_right _ (List.mem_append_right _ (List.mem_append_right _ (List.mem_append_right _ (List.mem_append_right _ (List.mem_append_right _ (List.mem_append_right _ (List.mem_append_left _ (List.mem_of_getElem? (i := 50) rfl))))))))
theorem mw_471 : Cond.code yX5_often cX5_often 2 (some .int) ∈ BW := List.mem_append_right _ (List.mem_append_right _ (List.mem_append_right _ (List.mem_append_right _ (List.mem_append_right _ (List.mem_append_right _ (List.mem_append_right _ (List.mem_append_left _ (List.mem_of_getElem? (i := 51) rfl))))))))
theorem mw_472 : Cond.code yX5_splitting cX5_splitting 4 (some .int) ∈ BW := List.mem_append_right _ (List.mem_append_right _ (List.mem_append_right _ (List.mem_append_right _ (List.mem_append_right _ (List.mem_append_right _ (List.mem_append_right _ (List.mem_append_left _ (List.mem_of_getElem? (i := 52) rfl))))))))
theorem mw_473 : Cond.code yX5_move cX5_move 2 none ∈ BW := List.mem_append_right _ (List.mem_append_right _ (List.mem_append_right _ (List.mem_append_right _ (List.mem_append_right _ (List.mem_append_right _ (List.mem_append_right _ (List.mem_append_left _ (List.mem_of_getElem? (i := 53) rfl))))))))
theorem mw_474 : Cond.code yX5_take cX5_take 2 none ∈ BW := List.mem_append_right _ (List.mem_append_right _ (List.mem_append_right _ (List.mem_append_right _ (List.mem_append_right _ (List.mem_append_right _ (List.mem_append_right _ (List.mem_append_left _ (List.mem_of_getElem? (i := 54) rfl))))))))
theorem mw_475 : Cond.classLink RL 13 "java/lang/IllegalArgumentException" ∈ BW := List.mem_append_right _ (List.mem_append_right _ (List.mem_append_right _ (List.mem_append_right _ (List.mem_append_right _ (List.mem_append_right _ (List.mem_append_right _ (List.mem_append_left _ (List.mem_of_getElem? (i := 55) rfl))))))))
theorem mw_476 : Cond.methodLink RL 7 yX4_field ∈ BW := List.mem_append_right _ (List.mem_append_right _ (List.mem_append_right _ (List.mem_append_right _ (List.mem_append_right _ (List.mem_append_right _ (List.mem_append_right _ (List.mem_append_left _ (List.mem_of_getElem? (i := 56) rfl))))))))
theorem mw_477 : Cond.instanceMethod yX4_field ∈ BW := List.mem_append_right _ (List.mem_append_right _ (List.mem_append_right _ (List.mem_append_right _ (List.mem_append_right _ (List.mem_append_right _ (List.mem_append_right _ (List.mem_append_left _ (List.mem_of_getElem? (i := 57) rfl))))))))
theorem mw_478 : Cond.selects RX4 yX4_field yX4_field ∈ BW := List.mem_append_right _ (List.mem_append_right _ (List.mem_append_right _ (List.mem_append_right _ (List.mem_append_right _ (List.mem_append_right _ (List.mem_append_right _ (List.mem_append_left _ (List.mem_of_getElem? (i := 58) rfl))))))))
theorem mw_479 : Cond.codeWith yL_field cL_field 10 (some .int) [(0, 22, 25, 13)] ∈ BW := List.mem_append_right _ (List.mem_append_right _ (List.mem_append_right _ (List.mem_append_right _ (List.mem_append_right _ (List.mem_append_right _ (List.mem_append_right _ (List.mem_append_left _ (List.mem_of_getElem? (i := 59) rfl))))))))
theorem mw_480 : Cond.codeWith yL_modulus cL_modulus 4 (some .int) [(0, 9, 12, 19)] ∈ BW := List.mem_append_right _ (List.mem_append_right _ (List.mem_append_right _ (List.mem_append_right _ (List.mem_append_right _ (List.mem_append_right _ (List.mem_append_right _ (List.mem_append_right _ (List.mem_append_left _ (List.mem_of_getElem? (i := 0) rfl)))))))))
theorem mw_481 : Cond.classLink RL 19 "java/lang/IndexOutOfBoundsException" ∈ BW := List.mem_append_right _ (List.mem_append_right _ (List.mem_append_right _ (List.mem_append_right _ (List.mem_append_right _ (List.mem_append_right _ (List.mem_append_right _ (List.mem_append_right _ (List.mem_append_left _ (List.mem_of_getElem? (i := 1) rfl)))))))))
theorem mw_482 : Cond.methodLink RL 15 yX4_modulus ∈ BW := List.mem_append_right _ (List.mem_append_right _ (List.mem_append_right _ (List.mem_append_right _ (List.mem_append_right _ (List.mem_append_right _ (List.mem_append_right _ (List.mem_append_right _ (List.mem_append_left _ (List.mem_of_getElem? (i := 2) rfl)))))))))
theorem mw_483 : Cond.instanceMethod yX4_modulus ∈ BW := List.mem_append_right _ (List.mem_append_right _ (List.mem_append_right _ (List.mem_append_right _ (List.mem_append_right _ (List.mem_append_right _ (List.mem_append_right _ (List.mem_append_right _ (List.mem_append_left _ (List.mem_of_getElem? (i := 3) rfl)))))))))
theorem mw_484 : Cond.selects RX4 yX4_modulus yX4_modulus ∈ BW := List.mem_append_right _ (List.mem_append_right _ (List.mem_append_right _ (List.mem_append_right _ (List.mem_append_right _ (List.mem_append_right _ (List.mem_append_right _ (List.mem_append_right _ (List.mem_append_left _ (List.mem_of_getElem? (i := 4) rfl)))))))))
theorem mw_485 : Cond.methodLink RL 21 yX4_put ∈ BW := List.mem_append_right _ (List.mem_append_right _ (List.mem_append_right _ (List.mem_append_right _ (List.mem_append_right _ (List.mem_append_right _ (List.mem_append_right _ (List.mem_append_right _ (List.mem_append_left _ (List.mem_of_getElem? (i := 5) rfl)))))))))
theorem mw_486 : Cond.instanceMethod yX4_put ∈ BW := List.mem_append_right _ (List.mem_append_right _ (List.mem_append_right _ (List.mem_append_right _ (List.mem_append_right _ (List.mem_append_right _ (List.mem_append_right _ (List.mem_append_right _ (List.mem_append_left _ (List.mem_of_getElem? (i := 6) rfl)))))))))
theorem mw_487 : Cond.selects RX4 yX4_put yX4_put ∈ BW := List.mem_append_right _ (List.mem_append_right _ (List.mem_append_right _ (List.mem_append_right _ (List.mem_append_right _ (List.mem_append_right _ (List.mem_append_right _ (List.mem_append_right _ (List.mem_append_left _ (List.mem_of_getElem? (i := 7) rfl)))))))))
theorem mw_488 : Cond.codeWith yL_put cL_put 5 (some .int) [(0, 17, 20, 19), (0, 17, 24, 13)] ∈ BW := List.mem_append_right _ (List.mem_append_right _ (List.mem_append_right _ (List.mem_append_right _ (List.mem_append_right _ (List.mem_append_right _ (List.mem_append_right _ (List.mem_append_right _ (List.mem_append_left _ (List.mem_of_getElem? (i := 8) rfl)))))))))
theorem mw_489 : Cond.codeWith yL_at cL_at 4 (some .int) [(0, 9, 12, 19)] ∈ BW := List.mem_append_right _ (List.mem_append_right _ (List.mem_append_right _ (List.mem_append_right _ (List.mem_append_right _ (List.mem_append_right _ (List.mem_append_right _ (List.mem_append_right _ (List.mem_append_left _ (List.mem_of_getElem? (i := 9) rfl)))))))))
theorem mw_490 : Cond.methodLink RL 25 yX4_at ∈ BW := List.mem_append_right _ (List.mem_append_right _ (List.mem_append_right _ (List.mem_append_right _ (List.mem_append_right _ (List.mem_append_right _ (List.mem_append_right _ (List.mem_append_right _ (List.mem_append_left _ (List.mem_of_getElem? (i := 10) rfl)))))))))
theorem mw_491 : Cond.instanceMethod yX4_at ∈ BW := List.mem_append_right _ (List.mem_append_right _ (List.mem_append_right _ (List.mem_append_right _ (List.mem_append_right _ (List.mem_append_right _ (List.mem_append_right _ (List.mem_append_right _ (List.mem_append_left _ (List.mem_of_getElem? (i := 11) rfl)))))))))
theorem mw_492 : Cond.selects RX4 yX4_at yX4_at ∈ BW := List.mem_append_right _ (List.mem_append_right _ (List.mem_append_right _ (List.mem_append_right _ (List.mem_append_right _ (List.mem_append_right _ (List.mem_append_right _ (List.mem_append_right _ (List.mem_append_left _ (List.mem_of_getElem? (i := 12) rfl)))))))))
theorem mw_493 : Cond.classLink RL 32 "java/lang/ArithmeticException" ∈ BW := List.mem_append_right _ (List.mem_append_right _ (List.mem_append_right _ (List.mem_append_right _ (List.mem_append_right _ (List.mem_append_right _ (List.mem_append_right _ (List.mem_append_right _ (List.mem_append_left _ (List.mem_of_getElem? (i := 13) rfl)))))))))
theorem mw_494 : Cond.methodLink RL 28 yX4_reckon ∈ BW := List.mem_append_right _ (List.mem_append_right _ (List.mem_append_right _ (List.mem_append_right _ (List.mem_append_right _ (List.mem_append_right _ (List.mem_append_right _ (List.mem_append_right _ (List.mem_append_left _ (List.mem_of_getElem? (i := 14) rfl)))))))))
theorem mw_495 : Cond.instanceMethod yX4_reckon ∈ BW := List.mem_append_right _ (List.mem_append_right _ (List.mem_append_right _ (List.mem_append_right _ (List.mem_append_right _ (List.mem_append_right _ (List.mem_append_right _ (List.mem_append_right _ (List.mem_append_left _ (List.mem_of_getElem? (i := 15) rfl)))))))))
theorem mw_496 : Cond.selects RX4 yX4_reckon yX4_reckon ∈ BW := List.mem_append_right _ (List.mem_append_right _ (List.mem_append_right _ (List.mem_append_right _ (List.mem_append_right _ (List.mem_append_right _ (List.mem_append_right _ (List.mem_append_right _ (List.mem_append_left _ (List.mem_of_getElem? (i := 16) rfl)))))))))
theorem mw_497 : Cond.codeWith yL_reckon cL_reckon 6 (some .int) [(0, 12, 15, 13), (0, 12, 19, 32)] ∈ BW := List.mem_append_right _ (List.mem_append_right _ (List.mem_append_right _ (List.mem_append_right _ (List.mem_append_right _ (List.mem_append_right _ (List.mem_append_right _ (List.mem_append_right _ (List.mem_append_left _ (List.mem_of_getElem? (i := 17) rfl)))))))))
theorem mw_498 : Cond.methodLink RL 34 yX4_known ∈ BW := List.mem_append_right _ (List.mem_append_right _ (List.mem_append_right _ (List.mem_append_right _ (List.mem_append_right _ (List.mem_append_right _ (List.mem_append_right _ (List.mem_append_right _ (List.mem_append_left _ (List.mem_of_getElem? (i := 18) rfl)))))))))
theorem mw_499 : Cond.instanceMethod yX4_known ∈ BW := List.mem_append_right _ (List.mem_append_right _ (List.mem_append_right _ (List.mem_append_right _ (List.mem_append_right _ (List.mem_append_right _ (List.mem_append_right _ (List.mem_append_right _ (List.mem_append_left _ (List.mem_of_getElem? (i := 19) rfl)))))))))
theorem mw_500 : Cond.selects RX4 yX4_known yX4_known ∈ BW := List.mem_append_right _ (List.mem_append_right _ (List.mem_append_right _ (List.mem_append_right _ (List.mem_append_right _ (List.mem_append_right _ (List.mem_append_right _ (List.mem_append_right _ (List.mem_append_left _ (List.mem_of_getElem? (i := 20) rfl)))))))))
theorem mw_501 : Cond.codeWith yL_known cL_known 5 (some .int) [(0, 10, 13, 13)] ∈ BW := List.mem_append_right _ (List.mem_append_right _ (List.mem_append_right _ (List.mem_append_right _ (List.mem_append_right _ (List.mem_append_right _ (List.mem_append_right _ (List.mem_append_right _ (List.mem_append_left _ (List.mem_of_getElem? (i := 21) rfl)))))))))
theorem mw_502 : Cond.methodLink RL 38 yX4_minimal ∈ BW := List.mem_append_right _ (List.mem_append_right _ (List.mem_append_right _ (List.mem_append_right _ (List.mem_append_right _ (List.mem_append_right _ (List.mem_append_right _ (List.mem_append_right _ (List.mem_append_left _ (List.mem_of_getElem? (i := 22) rfl)))))))))
theorem mw_503 : Cond.instanceMethod yX4_minimal ∈ BW := List.mem_append_right _ (List.mem_append_right _ (List.mem_append_right _ (List.mem_append_right _ (List.mem_append_right _ (List.mem_append_right _ (List.mem_append_right _ (List.mem_append_right _ (List.mem_append_left _ (List.mem_of_getElem? (i := 23) rfl)))))))))
theorem mw_504 : Cond.selects RX4 yX4_minimal yX4_minimal ∈ BW := List.mem_append_right _ (List.mem_append_right _ (List.mem_append_right _ (List.mem_append_right _ (List.mem_append_right _ (List.mem_append_right _ (List.mem_append_right _ (List.mem_append_right _ (List.mem_append_left _ (List.mem_of_getElem? (i := 24) rfl)))))))))
theorem mw_505 : Cond.codeWith yL_minimal cL_minimal 5 (some .int) [(0, 10, 13, 19), (0, 10, 17, 13)] ∈ BW := List.mem_append_right _ (List.mem_append_right _ (List.mem_append_right _ (List.mem_append_right _ (List.mem_append_right _ (List.mem_append_right _ (List.mem_append_right _ (List.mem_append_right _ (List.mem_append_left _ (List.mem_of_getElem? (i := 25) rfl)))))))))
theorem mw_506 : Cond.methodLink RL 41 yX4_value ∈ BW := List.mem_append_right _ (List.mem_append_right _ (List.mem_append_right _ (List.mem_append_right _ (List.mem_append_right _ (List.mem_append_right _ (List.mem_append_right _ (List.mem_append_right _ (List.mem_append_left _ (List.mem_of_getElem? (i := 26) rfl)))))))))
theorem mw_507 : Cond.instanceMethod yX4_value ∈ BW := List.mem_append_right _ (List.mem_append_right _ (List.mem_append_right _ (List.mem_append_right _ (List.mem_append_right _ (List.mem_append_right _ (List.mem_append_right _ (List.mem_append_right _ (List.mem_append_left _ (List.mem_of_getElem? (i := 27) rfl)))))))))
theorem mw_508 : Cond.selects RX4 yX4_value yX4_value ∈ BW := List.mem_append_right _ (List.mem_append_right _ (List.mem_append_right _ (List.mem_append_right _ (List.mem_append_right _ (List.mem_append_right _ (List.mem_append_right _ (List.mem_append_right _ (List.mem_append_left _ (List.mem_of_getElem? (i := 28) rfl)))))))))
theorem mw_509 : Cond.codeWith yL_value cL_value 4 (some .int) [(0, 9, 12, 13)] ∈ BW := List.mem_append_right _ (List.mem_append_right _ (List.mem_append_right _ (List.mem_append_right _ (List.mem_append_right _ (List.mem_append_right _ (List.mem_append_right _ (List.mem_append_right _ (List.mem_append_left _ (List.mem_of_getElem? (i := 29) rfl)))))))))
theorem mw_510 : Cond.classLink RL 48 "java/lang/IllegalStateException" ∈ BW := List.mem_append_right _ (List.mem_append_right _ (List.mem_append_right _ (List.mem_append_right _ (List.mem_append_right _ (List.mem_append_right _ (List.mem_append_right _ (List.mem_append_right _ (List.mem_append_left _ (List.mem_of_getElem? (i := 30) rfl)))))))))
theorem mw_511 : Cond.methodLink RL 44 yX4_shift ∈ BW := List.mem_append_right _ (List.mem_append_right _ (List.mem_append_right _ (List.mem_append_right _ (List.mem_append_right _ (List.mem_append_right _ (List.mem_append_right _ (List.mem_append_right _ (List.mem_append_left _ (List.mem_of_getElem? (i := 31) rfl)))))))))
theorem mw_512 : Cond.instanceMethod yX4_shift ∈ BW := List.mem_append_right _ (List.mem_append_right _ (List.mem_append_right _ (List.mem_append_right _ (List.mem_append_right _ (List.mem_append_right _ (List.mem_append_right _ (List.mem_append_right _ (List.mem_append_left _ (List.mem_of_getElem? (i := 32) rfl)))))))))
theorem mw_513 : Cond.selects RX4 yX4_shift yX4_shift ∈ BW := List.mem_append_right _ (List.mem_append_right _ (List.mem_append_right _ (List.mem_append_right _ (List.mem_append_right _ (List.mem_append_right _ (List.mem_append_right _ (List.mem_append_right _ (List.mem_append_left _ (List.mem_of_getElem? (i := 33) rfl)))))))))
theorem mw_514 : Cond.codeWith yL_shift cL_shift 3 (some .int) [(0, 8, 11, 48)] ∈ BW := List.mem_append_right _ (List.mem_append_right _ (List.mem_append_right _ (List.mem_append_right _ (List.mem_append_right _ (List.mem_append_right _ (List.mem_append_right _ (List.mem_append_right _ (List.mem_append_left _ (List.mem_of_getElem? (i := 34) rfl)))))))))
theorem mw_515 : Cond.methodLink RL 50 yX4_factors ∈ BW := List.mem_append_right _ (List.mem_append_right _ (List.mem_append_right _ (List.mem_append_right _ (List.mem_append_right _ (List.mem_append_right _ (List.mem_append_right _ (List.mem_append_right _ (List.mem_append_left _ (List.mem_of_getElem? (i := 35) rfl)))))))))
theorem mw_516 : Cond.instanceMethod yX4_factors ∈ BW := List.mem_append_right _ (List.mem_append_right _ (List.mem_append_right _ (List.mem_append_right _ (List.mem_append_right _ (List.mem_append_right _ (List.mem_append_right _ (List.mem_append_right _ (List.mem_append_left _ (List.mem_of_getElem? (i := 36) rfl)))))))))
theorem mw_517 : Cond.selects RX4 yX4_factors yX4_factors ∈ BW := List.mem_append_right _ (List.mem_append_right _ (List.mem_append_right _ (List.mem_append_right _ (List.mem_append_right _ (List.mem_append_right _ (List.mem_append_right _ (List.mem_append_right _ (List.mem_append_left _ (List.mem_of_getElem? (i := 37) rfl)))))))))
theorem mw_518 : Cond.codeWith yL_factors cL_factors 3 (some .int) [(0, 8, 11, 48)] ∈ BW := List.mem_append_right _ (List.mem_append_right _ (List.mem_append_right _ (List.mem_append_right _ (List.mem_append_right _ (List.mem_append_right _ (List.mem_append_right _ (List.mem_append_right _ (List.mem_append_left _ (List.mem_of_getElem? (i := 38) rfl)))))))))
theorem mw_519 : Cond.methodLink RL 53 yX4_factor ∈ BW := List.mem_append_right _ (List.mem_append_right _ (List.mem_append_right _ (List.mem_append_right _ (List.mem_append_right _ (List.mem_append_right _ (List.mem_append_right _ (List.mem_append_right _ (List.mem_append_left _ (List.mem_of_getElem? (i := 39) rfl)))))))))
theorem mw_520 : Cond.instanceMethod yX4_factor ∈ BW := List.mem_append_right _ (List.mem_append_right _ (List.mem_append_right _ (List.mem_append_right _ (List.mem_append_right _ (List.mem_append_right _ (List.mem_append_right _ (List.mem_append_right _ (List.mem_append_left _ (List.mem_of_getElem? (i := 40) rfl)))))))))
theorem mw_521 : Cond.selects RX4 yX4_factor yX4_factor ∈ BW := List.mem_append_right _ (List.mem_append_right _ (List.mem_append_right _ (List.mem_append_right _ (List.mem_append_right _ (List.mem_append_right _ (List.mem_append_right _ (List.mem_append_right _ (List.mem_append_left _ (List.mem_of_getElem? (i := 41) rfl)))))))))
theorem mw_522 : Cond.codeWith yL_factor cL_factor 5 (some .int) [(0, 10, 13, 48), (0, 10, 17, 19)] ∈ BW := List.mem_append_right _ (List.mem_append_right _ (List.mem_append_right _ (List.mem_append_right _ (List.mem_append_right _ (List.mem_append_right _ (List.mem_append_right _ (List.mem_append_right _ (List.mem_append_left _ (List.mem_of_getElem? (i := 42) rfl)))))))))
theorem mw_523 : Cond.methodLink RL 56 yX4_often ∈ BW := List.mem_append_right _ (List.mem_append_right _ (List.mem_append_right _ (List.mem_append_right _ (List.mem_append_right _ (List.mem_append_right _ (List.mem_append_right _ (List.mem_append_right _ (List.mem_append_left _ (List.mem_of_getElem? (i := 43) rfl)))))))))
theorem mw_524 : Cond.instanceMethod yX4_often ∈ BW := List.mem_append_right _ (List.mem_append_right _ (List.mem_append_right _ (List.mem_append_right _ (List.mem_append_right _ (List.mem_append_right _ (List.mem_append_right _ (List.mem_append_right _ (List.mem_append_left _ (List.mem_of_getElem? (i := 44) rfl)))))))))
theorem mw_525 : Cond.selects RX4 yX4_often yX4_often ∈ BW := List.mem_append_right _ (List.mem_append_right _ (List.mem_append_right _ (List.mem_append_right _ (List.mem_append_right _ (List.mem_append_right _ (List.mem_append_right _ (List.mem_append_right _ (List.mem_append_left _ (List.mem_of_getElem? (i := 45) rfl)))))))))
theorem mw_526 : Cond.codeWith yL_often cL_often 4 (some .int) [(0, 9, 12, 48), (0, 9, 15, 19)] ∈ BW := List.mem_append_right _ (List.mem_append_right _ (List.mem_append_right _ (List.mem_append_right _ (List.mem_append_right _ (List.mem_append_right _ (List.mem_append_right _ (List.mem_append_right _ (List.mem_append_left _ (List.mem_of_getElem? (i := 46) rfl)))))))))
theorem mw_527 : Cond.methodLink RL 59 yX4_splitting ∈ BW := List.mem_append_right _ (List.mem_append_right _ (List.mem_append_right _ (List.mem_append_right _ (List.mem_append_right _ (List.mem_append_right _ (List.mem_append_right _ (List.mem_append_right _ (List.mem_append_left _ (List.mem_of_getElem? (i := 47) rfl)))))))))
theorem mw_528 : Cond.instanceMethod yX4_splitting ∈ BW := List.mem_append_right _ (List.mem_append_right _ (List.mem_append_right _ (List.mem_append_right _ (List.mem_append_right _ (List.mem_append_right _ (List.mem_append_right _ (List.mem_append_right _ (List.mem_append_left _ (List.mem_of_getElem? (i := 48) rfl)))))))))
theorem mw_529 : Cond.selects RX4 yX4_splitting yX4_splitting ∈ BW := List.mem_append_right _ (List.mem_append_right _ (List.mem_append_right _ (List.mem_append_right _ (List.mem_append_right _ (List.mem_append_right _ (List.mem_append_right _ (List.mem_append_right _ (List.mem_append_left _ (List.mem_of_getElem? (i := 49) rfl)))))))))
theorem mw_530 : Cond.codeWith yL_splitting cL_splitting 3 (some .int) [(0, 8, 11, 48)] ∈ BW := List.mem_append_right _ (List.mem_append_right _ (List.mem_append_right _ (List.mem_append_right _ (List.mem_append_right _ (List.mem_append_right _ (List.mem_append_right _ (List.mem_append_right _ (List.mem_append_left _ (List.mem_of_getElem? (i := 50) rfl)))))))))
theorem mw_531 : Cond.methodLink RL 62 yX4_move ∈ BW := List.mem_append_right _ (List.mem_append_right _ (List.mem_append_right _ (List.mem_append_right _ (List.mem_append_right _ (List.mem_append_right _ (List.mem_append_right _ (List.mem_append_right _ (List.mem_append_left _ (List.mem_of_getElem? (i := 51) rfl)))))))))
theorem mw_532 : Cond.instanceMethod yX4_move ∈ BW := List.mem_append_right _ (List.mem_append_right _ (List.mem_append_right _ (List.mem_append_right _ (List.mem_append_right _ (List.mem_append_right _ (List.mem_append_right _ (List.mem_append_right _ (List.mem_append_left _ (List.mem_of_getElem? (i := 52) rfl)))))))))
theorem mw_533 : Cond.selects RX4 yX4_move yX4_move ∈ BW := List.mem_append_right _ (List.mem_append_right _ (List.mem_append_right _ (List.mem_append_right _ (List.mem_append_right _ (List.mem_append_right _ (List.mem_append_right _ (List.mem_append_right _ (List.mem_append_left _ (List.mem_of_getElem? (i := 53) rfl)))))))))
theorem mw_534 : Cond.codeWith yL_move cL_move 3 (some .int) [(0, 5, 8, 13)] ∈ BW := List.mem_append_right _ (List.mem_append_right _ (List.mem_append_right _ (List.mem_append_right _ (List.mem_append_right _ (List.mem_append_right _ (List.mem_append_right _ (List.mem_append_right _ (List.mem_append_left _ (List.mem_of_getElem? (i := 54) rfl)))))))))
theorem mw_535 : Cond.methodLink RL 66 yX4_take ∈ BW := List.mem_append_right _ (List.mem_append_right _ (List.mem_append_right _ (List.mem_append_right _ (List.mem_append_right _ (List.mem_append_right _ (List.mem_append_right _ (List.mem_append_right _ (List.mem_append_left _ (List.mem_of_getElem? (i := 55) rfl)))))))))
theorem mw_536 : Cond.instanceMethod yX4_take ∈ BW := List.mem_append_right _ (List.mem_append_right _ (List.mem_append_right _ (List.mem_append_right _ (List.mem_append_right _ (List.mem_append_right _ (List.mem_append_right _ (List.mem_append_right _ (List.mem_append_left _ (List.mem_of_getElem? (i := 56) rfl)))))))))
theorem mw_537 : Cond.selects RX4 yX4_take yX4_take ∈ BW := List.mem_append_right _ (List.mem_append_right _ (List.mem_append_right _ (List.mem_append_right _ (List.mem_append_right _ (List.mem_append_right _ (List.mem_append_right _ (List.mem_append_right _ (List.mem_append_left _ (List.mem_of_getElem? (i := 57) rfl)))))))))
theorem mw_538 : Cond.codeWith yL_take cL_take 3 (some .int) [(0, 5, 8, 48), (0, 5, 11, 19)] ∈ BW := List.mem_append_right _ (List.mem_append_right _ (List.mem_append_right _ (List.mem_append_right _ (List.mem_append_right _ (List.mem_append_right _ (List.mem_append_right _ (List.mem_append_right _ (List.mem_append_left _ (List.mem_of_getElem? (i := 58) rfl)))))))))
theorem mw_539 : Cond.classLink RL 8 RX4 ∈ BW := List.mem_append_right _ (List.mem_append_right _ (List.mem_append_right _ (List.mem_append_right _ (List.mem_append_right _ (List.mem_append_right _ (List.mem_append_right _ (List.mem_append_right _ (List.mem_append_left _ (List.mem_of_getElem? (i := 59) rfl)))))))))
theorem mw_540 : Cond.instantiable RX4 3 ∈ BW := List.mem_append_right _ (List.mem_append_right _ (List.mem_append_right _ (List.mem_append_right _ (List.mem_append_right _ (List.mem_append_right _ (List.mem_append_right _ (List.mem_append_right _ (List.mem_append_right _ (List.mem_append_left _ (List.mem_of_getElem? (i := 0) rfl))))))))))
theorem mw_541 : Cond.classLink RL 70 RX5 ∈ BW := List.mem_append_right _ (List.mem_append_right _ (List.mem_append_right _ (List.mem_append_right _ (List.mem_append_right _ (List.mem_append_right _ (List.mem_append_right _ (List.mem_append_right _ (List.mem_append_right _ (List.mem_append_left _ (List.mem_of_getElem? (i := 1) rfl))))))))))
theorem mw_542 : Cond.instantiable RX5 10 ∈ BW := List.mem_append_right _ (List.mem_append_right _ (List.mem_append_right _ (List.mem_append_right _ (List.mem_append_right _ (List.mem_append_right _ (List.mem_append_right _ (List.mem_append_right _ (List.mem_append_right _ (List.mem_append_left _ (List.mem_of_getElem? (i := 2) rfl))))))))))
theorem mw_543 : Cond.arrayClass .long ∈ BW := List.mem_append_right _ (List.mem_append_right _ (List.mem_append_right _ (List.mem_append_right _ (List.mem_append_right _ (List.mem_append_right _ (List.mem_append_right _ (List.mem_append_right _ (List.mem_append_right _ (List.mem_append_left _ (List.mem_of_getElem? (i := 3) rfl))))))))))
theorem mw_544 : Cond.constantLong RL 73 (4294967295) ∈ BW := List.mem_append_right _ (List.mem_append_right _ (List.mem_append_right _ (List.mem_append_right _ (List.mem_append_right _ (List.mem_append_right _ (List.mem_append_right _ (List.mem_append_right _ (List.mem_append_right _ (List.mem_append_left _ (List.mem_of_getElem? (i := 4) rfl))))))))))
theorem mw_545 : Cond.methodLink RL 69 yX4_init ∈ BW := List.mem_append_right _ (List.mem_append_right _ (List.mem_append_right _ (List.mem_append_right _ (List.mem_append_right _ (List.mem_append_right _ (List.mem_append_right _ (List.mem_append_right _ (List.mem_append_right _ (List.mem_append_left _ (List.mem_of_getElem? (i := 5) rfl))))))))))
theorem mw_546 : Cond.instanceMethod yX4_init ∈ BW := List.mem_append_right _ (List.mem_append_right _ (List.mem_append_right _ (List.mem_append_right _ (List.mem_append_right _ (List.mem_append_right _ (List.mem_append_right _ (List.mem_append_right _ (List.mem_append_right _ (List.mem_append_left _ (List.mem_of_getElem? (i := 6) rfl))))))))))
theorem mw_547 : Cond.methodLink RL 72 yX5_init ∈ BW := List.mem_append_right _ (List.mem_append_right _ (List.mem_append_right _ (List.mem_append_right _ (List.mem_append_right _ (List.mem_append_right _ (List.mem_append_right _ (List.mem_append_right _ (List.mem_append_right _ (List.mem_append_left _ (List.mem_of_getElem? (i := 7) rfl))))))))))
theorem mw_548 : Cond.instanceMethod yX5_init ∈ BW := List.mem_append_right _ (List.mem_append_right _ (List.mem_append_right _ (List.mem_append_right _ (List.mem_append_right _ (List.mem_append_right _ (List.mem_append_right _ (List.mem_append_right _ (List.mem_append_right _ (List.mem_append_left _ (List.mem_of_getElem? (i := 8) rfl))))))))))
theorem mw_549 : Cond.methodLink RL 75 yL_field ∈ BW := List.mem_append_right _ (List.mem_append_right _ (List.mem_append_right _ (List.mem_append_right _ (List.mem_append_right _ (List.mem_append_right _ (List.mem_append_right _ (List.mem_append_right _ (List.mem_append_right _ (List.mem_append_left _ (List.mem_of_getElem? (i := 9) rfl))))))))))
theorem mw_550 : Cond.static yL_field ∈ BW := List.mem_append_right _ (List.mem_append_right _ (List.mem_append_right _ (List.mem_append_right _ (List.mem_append_right _ (List.mem_append_right _ (List.mem_append_right _ (List.mem_append_right _ (List.mem_append_right _ (List.mem_append_left _ (List.mem_of_getElem? (i := 10) rfl))))))))))
theorem mw_551 : Cond.initialized RL ∈ BW := List.mem_append_right _ (List.mem_append_right _ (List.mem_append_right _ (List.mem_append_right _ (List.mem_append_right _ (List.mem_append_right _ (List.mem_append_right _ (List.mem_append_right _ (List.mem_append_right _ (List.mem_append_left _ (List.mem_of_getElem? (i := 11) rfl))))))))))
theorem mw_552 : Cond.methodLink RL 80 yX5_field ∈ BW := List.mem_append_right _ (List.mem_append_right _ (List.mem_append_right _ (List.mem_append_right _ (List.mem_append_right _ (List.mem_append_right _ (List.mem_append_right _ (List.mem_append_right _ (List.mem_append_right _ (List.mem_append_left _ (List.mem_of_getElem? (i := 12) rfl))))))))))
theorem mw_553 : Cond.instanceMethod yX5_field ∈ BW := List.mem_append_right _ (List.mem_append_right _ (List.mem_append_right _ (List.mem_append_right _ (List.mem_append_right _ (List.mem_append_right _ (List.mem_append_right _ (List.mem_append_right _ (List.mem_append_right _ (List.mem_append_left _ (List.mem_of_getElem? (i := 13) rfl))))))))))
theorem mw_554 : Cond.selects RX5 yX5_field yX5_field ∈ BW := List.mem_append_right _ (List.mem_append_right _ (List.mem_append_right _ (List.mem_append_right _ (List.mem_append_right _ (List.mem_append_right _ (List.mem_append_right _ (List.mem_append_right _ (List.mem_append_right _ (List.mem_append_left _ (List.mem_of_getElem? (i := 14) rfl))))))))))
theorem mw_555 : Cond.methodLink RL 81 yX5_thrown ∈ BW := List.mem_append_right _ (List.mem_append_right _ (List.mem_append_right _ (List.mem_append_right _ (List.mem_append_right _ (List.mem_append_right _ (List.mem_append_right _ (List.mem_append_right _ (List.mem_append_right _ (List.mem_append_left _ (List.mem_of_getElem? (i := 15) rfl))))))))))
theorem mw_556 : Cond.instanceMethod yX5_thrown ∈ BW := List.mem_append_right _ (List.mem_append_right _ (List.mem_append_right _ (List.mem_append_right _ (List.mem_append_right _ (List.mem_append_right _ (List.mem_append_right _ (List.mem_append_right _ (List.mem_append_right _ (List.mem_append_left _ (List.mem_of_getElem? (i := 16) rfl))))))))))
theorem mw_557 : Cond.selects RX5 yX5_thrown yX5_thrown ∈ BW := List.mem_append_right _ (List.mem_append_right _ (List.mem_append_right _ (List.mem_append_right _ (List.mem_append_right _ (List.mem_append_right _ (List.mem_append_right _ (List.mem_append_right _ (List.mem_append_right _ (List.mem_append_left _ (List.mem_of_getElem? (i := 17) rfl))))))))))
theorem mw_558 : Cond.methodLink RL 84 yL_modulus ∈ BW := List.mem_append_right _ (List.mem_append_right _ (List.mem_append_right _ (List.mem_append_right _ (List.mem_append_right _ (List.mem_append_right _ (List.mem_append_right _ (List.mem_append_right _ (List.mem_append_right _ (List.mem_append_left _ (List.mem_of_getElem? (i := 18) rfl))))))))))
theorem mw_559 : Cond.static yL_modulus ∈ BW := List.mem_append_right _ (List.mem_append_right _ (List.mem_append_right _ (List.mem_append_right _ (List.mem_append_right _ (List.mem_append_right _ (List.mem_append_right _ (List.mem_append_right _ (List.mem_append_right _ (List.mem_append_left _ (List.mem_of_getElem? (i := 19) rfl))))))))))
theorem mw_560 : Cond.methodLink RL 87 yX5_modulus ∈ BW := List.mem_append_right _ (List.mem_append_right _ (List.mem_append_right _ (List.mem_append_right _ (List.mem_append_right _ (List.mem_append_right _ (List.mem_append_right _ (List.mem_append_right _ (List.mem_append_right _ (List.mem_append_left _ (List.mem_of_getElem? (i := 20) rfl))))))))))
theorem mw_561 : Cond.instanceMethod yX5_modulus ∈ BW := List.mem_append_right _ (List.mem_append_right _ (List.mem_append_right _ (List.mem_append_right _ (List.mem_append_right _ (List.mem_append_right _ (List.mem_append_right _ (List.mem_append_right _ (List.mem_append_right _ (List.mem_append_left _ (List.mem_of_getElem? (i := 21) rfl))))))))))
theorem mw_562 : Cond.selects RX5 yX5_modulus yX5_modulus ∈ BW := List.mem_append_right _ (List.mem_append_right _ (List.mem_append_right _ (List.mem_append_right _ (List.mem_append_right _ (List.mem_append_right _ (List.mem_append_right _ (List.mem_append_right _ (List.mem_append_right _ (List.mem_append_left _ (List.mem_of_getElem? (i := 22) rfl))))))))))
theorem mw_563 : Cond.methodLink RL 88 yL_put ∈ BW := List.mem_append_right _ (List.mem_append_right _ (List.mem_append_right _ (List.mem_append_right _ (List.mem_append_right _ (List.mem_append_right _ (List.mem_append_right _ (List.mem_append_right _ (List.mem_append_right _ (List.mem_append_left _ (List.mem_of_getElem? (i := 23) rfl))))))))))
theorem mw_564 : Cond.static yL_put ∈ BW := List.mem_append_right _ (List.mem_append_right _ (List.mem_append_right _ (List.mem_append_right _ (List.mem_append_right _ (List.mem_append_right _ (List.mem_append_right _ (List.mem_append_right _ (List.mem_append_right _ (List.mem_append_left _ (List.mem_of_getElem? (i := 24) rfl))))))))))
theorem mw_565 : Cond.methodLink RL 91 yX5_put ∈ BW := List.mem_append_right _ (List.mem_append_right _ (List.mem_append_right _ (List.mem_append_right _ (List.mem_append_right _ (List.mem_append_right _ (List.mem_append_right _ (List.mem_append_right _ (List.mem_append_right _ (List.mem_append_left _ (List.mem_of_getElem? (i := 25) rfl))))))))))
theorem mw_566 : Cond.instanceMethod yX5_put ∈ BW := List.mem_append_right _ (List.mem_append_right _ (List.mem_append_right _ (List.mem_append_right _ (List.mem_append_right _ (List.mem_append_right _ (List.mem_append_right _ (List.mem_append_right _ (List.mem_append_right _ (List.mem_append_left _ (List.mem_of_getElem? (i := 26) rfl))))))))))
theorem mw_567 : Cond.selects RX5 yX5_put yX5_put ∈ BW := List.mem_append_right _ (List.mem_append_right _ (List.mem_append_right _ (List.mem_append_right _ (List.mem_append_right _ (List.mem_append_right _ (List.mem_append_right _ (List.mem_append_right _ (List.mem_append_right _ (List.mem_append_left _ (List.mem_of_getElem? (i := 27) rfl))))))))))
theorem mw_568 : Cond.methodLink RL 92 yL_at ∈ BW := List.mem_append_right _ (List.mem_append_right _ (List.mem_append_right _ (List.mem_append_right _ (List.mem_append_right _ (List.mem_append_right _ (List.mem_append_right _ (List.mem_append_right _ (List.mem_append_right _ (List.mem_append_left _ (List.mem_of_getElem? (i := 28) rfl))))))))))
theorem mw_569 : Cond.static yL_at ∈ BW := List.mem_append_right _ (List.mem_append_right _ (List.mem_append_right _ (List.mem_append_right _ (List.mem_append_right _ (List.mem_append_right _ (List.mem_append_right _ (List.mem_append_right _ (List.mem_append_right _ (List.mem_append_left _ (List.mem_of_getElem? (i := 29) rfl))))))))))
theorem mw_570 : Cond.methodLink RL 94 yX5_at ∈ BW := List.mem_append_right _ (List.mem_append_right _ (List.mem_append_right _ (List.mem_append_right _ (List.mem_append_right _ (List.mem_append_right _ (List.mem_append_right _ (List.mem_append_right _ (List.mem_append_right _ (List.mem_append_left _ (List.mem_of_getElem? (i := 30) rfl))))))))))
theorem mw_571 : Cond.instanceMethod yX5_at ∈ BW := List.mem_append_right _ (List.mem_append_right _ (List.mem_append_right _ (List.mem_append_right _ (List.mem_append_right _ (List.mem_append_right _ (List.mem_append_right _ (List.mem_append_right _ (List.mem_append_right _ (List.mem_append_left _ (List.mem_of_getElem? (i := 31) rfl))))))))))
theorem mw_572 : Cond.selects RX5 yX5_at yX5_at ∈ BW := List.mem_append_right _ (List.mem_append_right _ (List.mem_append_right _ (List.mem_append_right _ (List.mem_append_right _ (List.mem_append_right _ (List.mem_append_right _ (List.mem_append_right _ (List.mem_append_right _ (List.mem_append_left _ (List.mem_of_getElem? (i := 32) rfl))))))))))
theorem mw_573 : Cond.methodLink RL 95 yL_reckon ∈ BW := List.mem_append_right _ (List.mem_append_right _ (List.mem_append_right _ (List.mem_append_right _ (List.mem_append_right _ (List.mem_append_right _ (List.mem_append_right _ (List.mem_append_right _ (List.mem_append_right _ (List.mem_append_left _ (List.mem_of_getElem? (i := 33) rfl))))))))))
theorem mw_574 : Cond.static yL_reckon ∈ BW := List.mem_append_right _ (List.mem_append_right _ (List.mem_append_right _ (List.mem_append_right _ (List.mem_append_right _ (List.mem_append_right _ (List.mem_append_right _ (List.mem_append_right _ (List.mem_append_right _ (List.mem_append_left _ (List.mem_of_getElem? (i := 34) rfl))))))))))
theorem mw_575 : Cond.methodLink RL 98 yX5_reckon ∈ BW := List.mem_append_right _ (List.mem_append_right _ (List.mem_append_right _ (List.mem_append_right _ (List.mem_append_right _ (List.mem_append_right _ (List.mem_append_right _ (List.mem_append_right _ (List.mem_append_right _ (List.mem_append_left _ (List.mem_of_getElem? (i := 35) rfl))))))))))
theorem mw_576 : Cond.instanceMethod yX5_reckon ∈ BW := List.mem_append_right _ (List.mem_append_right _ (List.mem_append_right _ (List.mem_append_right _ (List.mem_append_right _ (List.mem_append_right _ (List.mem_append_right _ (List.mem_append_right _ (List.mem_append_right _ (List.mem_append_left _ (List.mem_of_getElem? (i := 36) rfl))))))))))
theorem mw_577 : Cond.selects RX5 yX5_reckon yX5_reckon ∈ BW := List.mem_append_right _ (List.mem_append_right _ (List.mem_append_right _ (List.mem_append_right _ (List.mem_append_right _ (List.mem_append_right _ (List.mem_append_right _ (List.mem_append_right _ (List.mem_append_right _ (List.mem_append_left _ (List.mem_of_getElem? (i := 37) rfl))))))))))
theorem mw_578 : Cond.methodLink RL 99 yL_known ∈ BW := List.mem_append_right _ (List.mem_append_right _ (List.mem_append_right _ (List.mem_append_right _ (List.mem_append_right _ (List.mem_append_right _ (List.mem_append_right _ (List.mem_append_right _ (List.mem_append_right _ (List.mem_append_left _ (List.mem_of_getElem? (i := 38) rfl))))))))))
theorem mw_579 : Cond.static yL_known ∈ BW := List.mem_append_right _ (List.mem_append_right _ (List.mem_append_right _ (List.mem_append_right _ (List.mem_append_right _ (List.mem_append_right _ (List.mem_append_right _ (List.mem_append_right _ (List.mem_append_right _ (List.mem_append_left _ (List.mem_of_getElem? (i := 39) rfl))))))))))
theorem mw_580 : Cond.methodLink RL 101 yX5_known ∈ BW := List.mem_append_right _ (List.mem_append_right _ (List.mem_append_right _ (List.mem_append_right _ (List.mem_append_right _ (List.mem_append_right _ (List.mem_append_right _ (List.mem_append_right _ (List.mem_append_right _ (List.mem_append_left _ (List.mem_of_getElem? (i := 40) rfl))))))))))
theorem mw_581 : Cond.instanceMethod yX5_known ∈ BW := List.mem_append_right _ (List.mem_append_right _ (List.mem_append_right _ (List.mem_append_right _ (List.mem_append_right _ (List.mem_append_right _ (List.mem_append_right _ (List.mem_append_right _ (List.mem_append_right _ (List.mem_append_left _ (List.mem_of_getElem? (i := 41) rfl))))))))))
theorem mw_582 : Cond.selects RX5 yX5_known yX5_known ∈ BW := List.mem_append_right _ (List.mem_append_right _ (List.mem_append_right _ (List.mem_append_right _ (List.mem_append_right _ (List.mem_append_right _ (List.mem_append_right _ (List.mem_append_right _ (List.mem_append_right _ (List.mem_append_left _ (List.mem_of_getElem? (i := 42) rfl))))))))))
theorem mw_583 : Cond.methodLink RL 102 yL_minimal ∈ BW := List.mem_append_right _ (List.mem_append_right _ (List.mem_append_right _ (List.mem_append_right _ (List.mem_append_right _ (List.mem_append_right _ (List.mem_append_right _ (List.mem_append_right _ (List.mem_append_right _ (List.mem_append_left _ (List.mem_of_getElem? (i := 43) rfl))))))))))
theorem mw_584 : Cond.static yL_minimal ∈ BW := List.mem_append_right _ (List.mem_append_right _ (List.mem_append_right _ (List.mem_append_right _ (List.mem_append_right _ (List.mem_append_right _ (List.mem_append_right _ (List.mem_append_right _ (List.mem_append_right _ (List.mem_append_left _ (List.mem_of_getElem? (i := 44) rfl))))))))))
theorem mw_585 : Cond.methodLink RL 104 yX5_minimal ∈ BW := List.mem_append_right _ (List.mem_append_right _ (List.mem_append_right _ (List.mem_append_right _ (List.mem_append_right _ (List.mem_append_right _ (List.mem_append_right _ (List.mem_append_right _ (List.mem_append_right _ (List.mem_append_left _ (List.mem_of_getElem? (i := 45) rfl))))))))))
theorem mw_586 : Cond.instanceMethod yX5_minimal ∈ BW := List.mem_append_right _ (List.mem_append_right _ (List.mem_append_right _ (List.mem_append_right _ (List.mem_append_right _ (List.mem_append_right _ (List.mem_append_right _ (List.mem_append_right _ (List.mem_append_right _ (List.mem_append_left _ (List.mem_of_getElem? (i := 46) rfl))))))))))
theorem mw_587 : Cond.selects RX5 yX5_minimal yX5_minimal ∈ BW := List.mem_append_right _ (List.mem_append_right _ (List.mem_append_right _ (List.mem_append_right _ (List.mem_append_right _ (List.mem_append_right _ (List.mem_append_right _ (List.mem_append_right _ (List.mem_append_right _ (List.mem_append_left _ (List.mem_of_getElem? (i := 47) rfl))))))))))
theorem mw_588 : Cond.methodLink RL 105 yL_value ∈ BW := List.mem_append_right _ (List.mem_append_right _ (List.mem_append_right _ (List.mem_append_right _ (List.mem_append_right _ (List.mem_append_right _ (List.mem_append_right _ (List.mem_append_right _ (List.mem_append_right _ (List.mem_append_left _ (List.mem_of_getElem? (i := 48) rfl))))))))))
theorem mw_589 : Cond.static yL_value ∈ BW := List.mem_append_right _ (List.mem_append_right _ (List.mem_append_right _ (List.mem_append_right _ (List.mem_append_right _ (List.mem_append_right _ (List.mem_append_right _ (List.mem_append_right _ (List.mem_append_right _ (List.mem_append_left _ (List.mem_of_getElem? (i := 49) rfl))))))))))
theorem mw_590 : Cond.methodLink RL 107 yX5_value ∈ BW := List.mem_append_right _ (List.mem_append_right _ (List.mem_append_right _ (List.mem_append_right _ (List.mem_append_right _ (List.mem_append_right _ (List.mem_append_right _ (List.mem_append_right _ (List.mem_append_right _ (List.mem_append_left _ (List.mem_of_getElem? (i := 50) rfl))))))))))
theorem mw_591 : Cond.instanceMethod yX5_value ∈ BW := List.mem_append_right _ (List.mem_append_right _ (List.mem_append_right _ (List.mem_append_right _ (List.mem_append_right _ (List.mem_append_right _ (List.mem_append_right _ (List.mem_append_right _ (List.mem_append_right _ (List.mem_append_left _ (List.mem_of_getElem? (i := 51) rfl))))))))))
theorem mw_592 : Cond.selects RX5 yX5_value yX5_value ∈ BW := List.mem_append_right _ (List.mem_append_right _ (List.mem_append_right _ (List.mem_append_right _ (List.mem_append_right _ (List.mem_append_right _ (List.mem_append_right _ (List.mem_append_right _ (List.mem_append_right _ (List.mem_append_left _ (List.mem_of_getElem? (i := 52) rfl))))))))))
theorem mw_593 : Cond.methodLink RL 108 yX4_norm ∈ BW := List.mem_append_right _ (List.mem_append_right _ (List.mem_append_right _ (List.mem_append_right _ (List.mem_append_right _ (List.mem_append_right _ (List.mem_append_right _ (List.mem_append_right _ (List.mem_append_right _ (List.mem_append_left _ (List.mem_of_getElem? (i := 53) rfl))))))))))
theorem mw_594 : Cond.instanceMethod yX4_norm ∈ BW := List.mem_append_right _ (List.mem_append_right _ (List.mem_append_right _ (List.mem_append_right _ (List.mem_append_right _ (List.mem_append_right _ (List.mem_append_right _ (List.mem_append_right _ (List.mem_append_right _ (List.mem_append_left _ (List.mem_of_getElem? (i := 54) rfl))))))))))
theorem mw_595 : Cond.selects RX4 yX4_norm yX4_norm ∈ BW := List.mem_append_right _ (List.mem_append_right _ (List.mem_append_right _ (List.mem_append_right _ (List.mem_append_right _ (List.mem_append_right _ (List.mem_append_right _ (List.mem_append_right _ (List.mem_append_right _ (List.mem_append_left _ (List.mem_of_getElem? (i := 55) rfl))))))))))
theorem mw_596 : Cond.methodLink RL 111 yX5_norm ∈ BW := List.mem_append_right _ (List.mem_append_right _ (List.mem_append_right _ (List.mem_append_right _ (List.mem_append_right _ (List.mem_append_right _ (List.mem_append_right _ (List.mem_append_right _ (List.mem_append_right _ (List.mem_append_left _ (List.mem_of_getElem? (i := 56) rfl))))))))))
theorem mw_597 : Cond.instanceMethod yX5_norm ∈ BW := List.mem_append_right _ (List.mem_append_right _ (List.mem_append_right _ (List.mem_append_right _ (List.mem_append_right _ (List.mem_append_right _ (List.mem_append_right _ (List.mem_append_right _ (List.mem_append_right _ (List.mem_append_left _ (List.mem_of_getElem? (i := 57) rfl))))))))))
theorem mw_598 : Cond.selects RX5 yX5_norm yX5_norm ∈ BW := List.mem_append_right _ (List.mem_append_right _ (List.mem_append_right _ (List.mem_append_right _ (List.mem_append_right _ (List.mem_append_right _ (List.mem_append_right _ (List.mem_append_right _ (List.mem_append_right _ (List.mem_append_left _ (List.mem_of_getElem? (i := 58) rfl))))))))))
theorem mw_599 : Cond.methodLink RL 112 yL_shift ∈ BW := List.mem_append_right _ (List.mem_append_right _ (List.mem_append_right _ (List.mem_append_right _ (List.mem_append_right _ (List.mem_append_right _ (List.mem_append_right _ (List.mem_append_right _ (List.mem_append_right _ (List.mem_append_left _ (List.mem_of_getElem? (i := 59) rfl))))))))))
theorem mw_600 : Cond.static yL_shift ∈ BW := List.mem_append_right _ (List.mem_append_right _ (List.mem_append_right _ (List.mem_append_right _ (List.mem_append_right _ (List.mem_append_right _ (List.mem_append_right _ (List.mem_append_right _ (List.mem_append_right _ (List.mem_append_right _ (List.mem_append_left _ (List.mem_of_getElem? (i := 0) rfl)))))))))))
theorem mw_601 : Cond.methodLink RL 115 yX5_shift ∈ BW := List.mem_append_right _ (List.mem_append_right _ (List.mem_append_right _ (List.mem_append_right _ (List.mem_append_right _ (List.mem_append_right _ (List.mem_append_right _ (List.mem_append_right _ (List.mem_append_right _ (List.mem_append_right _ (List.mem_append_left _ (List.mem_of_getElem? (i := 1) rfl)))))))))))
theorem mw_602 : Cond.instanceMethod yX5_shift ∈ BW := List.mem_append_right _ (List.mem_append_right _ (List.mem_append_right _ (List.mem_append_right _ (List.mem_append_right _ (List.mem_append_right _ (List.mem_append_right _ (List.mem_append_right _ (List.mem_append_right _ (List.mem_append_right _ (List.mem_append_left _ (List.mem_of_getElem? (i := 2) rfl)))))))))))
theorem mw_603 : Cond.selects RX5 yX5_shift yX5_shift ∈ BW := List.mem_append_right _ (List.mem_append_right _ (List.mem_append_right _ (List.mem_append_right _ (List.mem_append_right _ (List.mem_append_right _ (List.mem_append_right _ (List.mem_append_right _ (List.mem_append_right _ (List.mem_append_right _ (List.mem_append_left _ (List.mem_of_getElem? (i := 3) rfl)))))))))))
theorem mw_604 : Cond.methodLink RL 116 yL_factors ∈ BW := List.mem_append_right _ (List.mem_append_right _ (List.mem_append_right _ (List.mem_append_right _ (List.mem_append_right _ (List.mem_append_right _ (List.mem_append_right _ (List.mem_append_right _ (List.mem_append_right _ (List.mem_append_right _ (List.mem_append_left _ (List.mem_of_getElem? (i := 4) rfl)))))))))))
theorem mw_605 : Cond.static yL_factors ∈ BW := List.mem_append_right _ (List.mem_append_right _ (List.mem_append_right _ (List.mem_append_right _ (List.mem_append_right _ (List.mem_append_right _ (List.mem_append_right _ (List.mem_append_right _ (List.mem_append_right _ (List.mem_append_right _ (List.mem_append_left _ (List.mem_of_getElem? (i := 5) rfl)))))))))))
theorem mw_606 : Cond.methodLink RL 118 yX5_factors ∈ BW := List.mem_append_right _ (List.mem_append_right _ (List.mem_append_right _ (List.mem_append_right _ (List.mem_append_right _ (List.mem_append_right _ (List.mem_append_right _ (List.mem_append_right _ (List.mem_append_right _ (List.mem_append_right _ (List.mem_append_left _ (List.mem_of_getElem? (i := 6) rfl)))))))))))
theorem mw_607 : Cond.instanceMethod yX5_factors ∈ BW := List.mem_append_right _ (List.mem_append_right _ (List.mem_append_right _ (List.mem_append_right _ (List.mem_append_right _ (List.mem_append_right _ (List.mem_append_right _ (List.mem_append_right _ (List.mem_append_right _ (List.mem_append_right _ (List.mem_append_left _ (List.mem_of_getElem? (i := 7) rfl)))))))))))
theorem mw_608 : Cond.selects RX5 yX5_factors yX5_factors ∈ BW := List.mem_append_right _ (List.mem_append_right _ (List.mem_append_right _ (List.mem_append_right _ (List.mem_append_right _ (List.mem_append_right _ (List.mem_append_right _ (List.mem_append_right _ (List.mem_append_right _ (List.mem_append_right _ (List.mem_append_left _ (List.mem_of_getElem? (i := 8) rfl)))))))))))
theorem mw_609 : Cond.methodLink RL 119 yL_factor ∈ BW := List.mem_append_right _ (List.mem_append_right _ (List.mem_append_right _ (List.mem_append_right _ (List.mem_append_right _ (List.mem_append_right _ (List.mem_append_right _ (List.mem_append_right _ (List.mem_append_right _ (List.mem_append_right _ (List.mem_append_left _ (List.mem_of_getElem? (i := 9) rfl)))))))))))
theorem mw_610 : Cond.static yL_factor ∈ BW := List.mem_append_right _ (List.mem_append_right _ (List.mem_append_right _ (List.mem_append_right _ (List.mem_append_right _ (List.mem_append_right _ (List.mem_append_right _ (List.mem_append_right _ (List.mem_append_right _ (List.mem_append_right _ (List.mem_append_left _ (List.mem_of_getElem? (i := 10) rfl)))))))))))
theorem mw_611 : Cond.methodLink RL 121 yX5_factor ∈ BW := List.mem_append_right _ (List.mem_append_right _ (List.mem_append_right _ (List.mem_append_right _ (List.mem_append_right _ (List.mem_append_right _ (List.mem_append_right _ (List.mem_append_right _ (List.mem_append_right _ (List.mem_append_right _ (List.mem_append_left _ (List.mem_of_getElem? (i := 11) rfl)))))))))))
theorem mw_612 : Cond.instanceMethod yX5_factor ∈ BW := List.mem_append_right _ (List.mem_append_right _ (List.mem_append_right _ (List.mem_append_right _ (List.mem_append_right _ (List.mem_append_right _ (List.mem_append_right _ (List.mem_append_right _ (List.mem_append_right _ (List.mem_append_right _ (List.mem_append_left _ (List.mem_of_getElem? (i := 12) rfl)))))))))))
theorem mw_613 : Cond.selects RX5 yX5_factor yX5_factor ∈ BW := List.mem_append_right _ (List.mem_append_right _ (List.mem_append_right _ (List.mem_append_right _ (List.mem_append_right _ (List.mem_append_right _ (List.mem_append_right _ (List.mem_append_right _ (List.mem_append_right _ (List.mem_append_right _ (List.mem_append_left _ (List.mem_of_getElem? (i := 13) rfl)))))))))))
theorem mw_614 : Cond.methodLink RL 122 yL_often ∈ BW := List.mem_append_right _ (List.mem_append_right _ (List.mem_append_right _ (List.mem_append_right _ (List.mem_append_right _ (List.mem_append_right _ (List.mem_append_right _ (List.mem_append_right _ (List.mem_append_right _ (List.mem_append_right _ (List.mem_append_left _ (List.mem_of_getElem? (i := 14) rfl)))))))))))
theorem mw_615 : Cond.static yL_often ∈ BW := List.mem_append_right _ (List.mem_append_right _ (List.mem_append_right _ (List.mem_append_right _ (List.mem_append_right _ (List.mem_append_right _ (List.mem_append_right _ (List.mem_append_right _ (List.mem_append_right _ (List.mem_append_right _ (List.mem_append_left _ (List.mem_of_getElem? (i := 15) rfl)))))))))))
theorem mw_616 : Cond.methodLink RL 124 yX5_often ∈ BW := List.mem_append_right _ (List.mem_append_right _ (List.mem_append_right _ (List.mem_append_right _ (List.mem_append_right _ (List.mem_append_right _ (List.mem_append_right _ (List.mem_append_right _ (List.mem_append_right _ (List.mem_append_right _ (List.mem_append_left _ (List.mem_of_getElem? (i := 16) rfl)))))))))))
theorem mw_617 : Cond.instanceMethod yX5_often ∈ BW := List.mem_append_right _ (List.mem_append_right _ (List.mem_append_right _ (List.mem_append_right _ (List.mem_append_right _ (List.mem_append_right _ (List.mem_append_right _ (List.mem_append_right _ (List.mem_append_right _ (List.mem_append_right _ (List.mem_append_left _ (List.mem_of_getElem? (i := 17) rfl)))))))))))
theorem mw_618 : Cond.selects RX5 yX5_often yX5_often ∈ BW := List.mem_append_right _ (List.mem_append_right _ (List.mem_append_right _ (List.mem_append_right _ (List.mem_append_right _ (List.mem_append_right _ (List.mem_append_right _ (List.mem_append_right _ (List.mem_append_right _ (List.mem_append_right _ (List.mem_append_left _ (List.mem_of_getElem? (i := 18) rfl)))))))))))
theorem mw_619 : Cond.methodLink RL 125 yL_splitting ∈ BW := List.mem_append_right _ (List.mem_append_right _ (List.mem_append_right _ (List.mem_append_right _ (List.mem_append_right _ (List.mem_append_right _ (List.mem_append_right _ (List.mem_append_right _ (List.mem_append_right _ (List.mem_append_right _ (List.mem_append_left _ (List.mem_of_getElem? (i := 19) rfl)))))))))))
theorem mw_620 : Cond.static yL_splitting ∈ BW := List.mem_append_right _ (List.mem_append_right _ (List.mem_append_right _ (List.mem_append_right _ (List.mem_append_right _ (List.mem_append_right _ (List.mem_append_right _ (List.mem_append_right _ (List.mem_append_right _ (List.mem_append_right _ (List.mem_append_left _ (List.mem_of_getElem? (i := 20) rfl)))))))))))
theorem mw_621 : Cond.methodLink RL 127 yX5_splitting ∈ BW := List.mem_append_right _ (List.mem_append_right _ (List.mem_append_right _ (List.mem_append_right _ (List.mem_append_right _ (List.mem_append_right _ (List.mem_append_right _ (List.mem_append_right _ (List.mem_append_right _ (List.mem_append_right _ (List.mem_append_left _ (List.mem_of_getElem? (i := 21) rfl)))))))))))
theorem mw_622 : Cond.instanceMethod yX5_splitting ∈ BW := List.mem_append_right _ (List.mem_append_right _ (List.mem_append_right _ (List.mem_append_right _ (List.mem_append_right _ (List.mem_append_right _ (List.mem_append_right _ (List.mem_append_right _ (List.mem_append_right _ (List.mem_append_right _ (List.mem_append_left _ (List.mem_of_getElem? (i := 22) rfl)))))))))))
theorem mw_623 : Cond.selects RX5 yX5_splitting yX5_splitting ∈ BW := List.mem_append_right _ (List.mem_append_right _ (List.mem_append_right _ (List.mem_append_right _ (List.mem_append_right _ (List.mem_append_right _ (List.mem_append_right _ (List.mem_append_right _ (List.mem_append_right _ (List.mem_append_right _ (List.mem_append_left _ (List.mem_of_getElem? (i := 23) rfl)))))))))))
theorem mw_624 : Cond.methodLink RL 128 yL_move ∈ BW := List.mem_append_right _ (List.mem_append_right _ (List.mem_append_right _ (List.mem_append_right _ (List.mem_append_right _ (List.mem_append_right _ (List.mem_append_right _ (List.mem_append_right _ (List.mem_append_right _ (List.mem_append_right _ (List.mem_append_left _ (List.mem_of_getElem? (i := 24) rfl)))))))))))
theorem mw_625 : Cond.static yL_move ∈ BW := List.mem_append_right _ (List.mem_append_right _ (List.mem_append_right _ (List.mem_append_right _ (List.mem_append_right _ (List.mem_append_right _ (List.mem_append_right _ (List.mem_append_right _ (List.mem_append_right _ (List.mem_append_right _ (List.mem_append_left _ (List.mem_of_getElem? (i := 25) rfl)))))))))))
theorem mw_626 : Cond.methodLink RL 131 yX5_move ∈ BW := List.mem_append_right _ (List.mem_append_right _ (List.mem_append_right _ (List.mem_append_right _ (List.mem_append_right _ (List.mem_append_right _ (List.mem_append_right _ (List.mem_append_right _ (List.mem_append_right _ (List.mem_append_right _ (List.mem_append_left _ (List.mem_of_getElem? (i := 26) rfl)))))))))))
theorem mw_627 : Cond.instanceMethod yX5_move ∈ BW := List.mem_append_right _ (List.mem_append_right _ (List.mem_append_right _ (List.mem_append_right _ (List.mem_append_right _ (List.mem_append_right _ (List.mem_append_right _ (List.mem_append_right _ (List.mem_append_right _ (List.mem_append_right _ (List.mem_append_left _ (List.mem_of_getElem? (i := 27) rfl)))))))))))
theorem mw_628 : Cond.selects RX5 yX5_move yX5_move ∈ BW := List.mem_append_right _ (List.mem_append_right _ (List.mem_append_right _ (List.mem_append_right _ (List.mem_append_right _ (List.mem_append_right _ (List.mem_append_right _ (List.mem_append_right _ (List.mem_append_right _ (List.mem_append_right _ (List.mem_append_left _ (List.mem_of_getElem? (i := 28) rfl)))))))))))
theorem mw_629 : Cond.methodLink RL 132 yL_take ∈ BW := List.mem_append_right _ (List.mem_append_right _ (List.mem_append_right _ (List.mem_append_right _ (List.mem_append_right _ (List.mem_append_right _ (List.mem_append_right _ (List.mem_append_right _ (List.mem_append_right _ (List.mem_append_right _ (List.mem_append_left _ (List.mem_of_getElem? (i := 29) rfl)))))))))))
theorem mw_630 : Cond.static yL_take ∈ BW := List.mem_append_right _ (List.mem_append_right _ (List.mem_append_right _ (List.mem_append_right _ (List.mem_append_right _ (List.mem_append_right _ (List.mem_append_right _ (List.mem_append_right _ (List.mem_append_right _ (List.mem_append_right _ (List.mem_append_left _ (List.mem_of_getElem? (i := 30) rfl)))))))))))
theorem mw_631 : Cond.methodLink RL 134 yX5_take ∈ BW := List.mem_append_right _ (List.mem_append_right _ (List.mem_append_right _ (List.mem_append_right _ (List.mem_append_right _ (List.mem_append_right _ (List.mem_append_right _ (List.mem_append_right _ (List.mem_append_right _ (List.mem_append_right _ (List.mem_append_left _ (List.mem_of_getElem? (i := 31) rfl)))))))))))
theorem mw_632 : Cond.instanceMethod yX5_take ∈ BW := List.mem_append_right _ (List.mem_append_right _ (List.mem_append_right _ (List.mem_append_right _ (List.mem_append_right _ (List.mem_append_right _ (List.mem_append_right _ (List.mem_append_right _ (List.mem_append_right _ (List.mem_append_right _ (List.mem_append_left _ (List.mem_of_getElem? (i := 32) rfl)))))))))))
theorem mw_633 : Cond.selects RX5 yX5_take yX5_take ∈ BW := List.mem_append_right _ (List.mem_append_right _ (List.mem_append_right _ (List.mem_append_right _ (List.mem_append_right _ (List.mem_append_right _ (List.mem_append_right _ (List.mem_append_right _ (List.mem_append_right _ (List.mem_append_right _ (List.mem_append_left _ (List.mem_of_getElem? (i := 33) rfl)))))))))))
theorem in_wsX00 : ∀ w ∈ wsX00, w ∈ BW := fun _ h => List.mem_append_right _ (List.mem_append_right _ (List.mem_append_right _ (List.mem_append_right _ (List.mem_append_right _ (List.mem_append_right _ (List.mem_append_right _ (List.mem_append_right _ (List.mem_append_right _ (List.mem_append_right _ (List.mem_append_right _ (List.mem_append_left _ (h))))))))))))
theorem in_wsX10 : ∀ w ∈ wsX10, w ∈ BW := fun _ h => List.mem_append_right _ (List.mem_append_right _ (List.mem_append_right _ (List.mem_append_right _ (List.mem_append_right _ (List.mem_append_right _ (List.mem_append_right _ (List.mem_append_right _ (List.mem_append_right _ (List.mem_append_right _ (List.mem_append_right _ (List.mem_append_right _ (List.mem_append_left _ (h)))))))))))))
theorem in_wsX20 : ∀ w ∈ wsX20, w ∈ BW := fun _ h => List.mem_append_right _ (List.mem_append_right _ (List.mem_append_right _ (List.mem_append_right _ (List.mem_append_right _ (List.mem_append_right _ (List.mem_append_right _ (List.mem_append_right _ (List.mem_append_right _ (List.mem_append_right _ (List.mem_append_right _ (List.mem_append_right _ (List.mem_append_right _ (List.mem_append_left _ (h))))))))))))))
theorem in_wsX30 : ∀ w ∈ wsX30, w ∈ BW := fun _ h => List.mem_append_right _ (List.mem_append_right _ (List.mem_append_right _ (List.mem_append_right _ (List.mem_append_right _ (List.mem_append_right _ (List.mem_append_right _ (List.mem_append_right _ (List.mem_append_right _ (List.mem_append_right _ (List.mem_append_right _ (List.mem_append_right _ (List.mem_append_right _ (List.mem_append_right _ (List.mem_append_left _ (h)))))))))))))))
theorem in_wsX40 : ∀ w ∈ wsX40, w ∈ BW := fun _ h => List.mem_append_right _ (List.mem_append_right _ (List.mem_append_right _ (List.mem_append_right _ (List.mem_append_right _ (List.mem_append_right _ (List.mem_append_right _ (List.mem_append_right _ (List.mem_append_right _ (List.mem_append_right _ (List.mem_append_right _ (List.mem_append_right _ (List.mem_append_right _ (List.mem_append_right _ (List.mem_append_right _ (List.mem_append_left _ (h))))))))))))))))
theorem in_wsX50 : ∀ w ∈ wsX50, w ∈ BW := fun _ h => List.mem_append_right _ (List.mem_append_right _ (List.mem_append_right _ (List.mem_append_right _ (List.mem_append_right _ (List.mem_append_right _ (List.mem_append_right _ (List.mem_append_right _ (List.mem_append_right _ (List.mem_append_right _ (List.mem_append_right _ (List.mem_append_right _ (List.mem_append_right _ (List.mem_append_right _ (List.mem_append_right _ (List.mem_append_right _ (List.mem_append_left _ (h)))))))))))))))))
theorem in_wsJ00 : ∀ w ∈ wsJ00, w ∈ BW := fun _ h => List.mem_append_right _ (List.mem_append_right _ (List.mem_append_right _ (List.mem_append_right _ (List.mem_append_right _ (List.mem_append_right _ (List.mem_append_right _ (List.mem_append_right _ (List.mem_append_right _ (List.mem_append_right _ (List.mem_append_right _ (List.mem_append_right _ (List.mem_append_right _ (List.mem_append_right _ (List.mem_append_right _ (List.mem_append_right _ (List.mem_append_right _ (List.mem_append_left _ (h))))))))))))))))))
theorem in_BWx0 : ∀ w ∈ BWx0, w ∈ BW := fun _ h => List.mem_append_right _ (List.mem_append_right _ (List.mem_append_right _ (List.mem_append_right _ (List.mem_append_right _ (List.mem_append_right _ (List.mem_append_right _ (List.mem_append_right _ (List.mem_append_right _ (List.mem_append_right _ (List.mem_append_right _ (List.mem_append_right _ (List.mem_append_right _ (List.mem_append_right _ (List.mem_append_right _ (List.mem_append_right _ (List.mem_append_right _ (List.mem_append_right _ (List.mem_append_left _ (h)))))))))))))))))))
theorem in_BWx1 : ∀ w ∈ BWx1, w ∈ BW := fun _ h => List.mem_append_right _ (List.mem_append_right _ (List.mem_append_right _ (List.mem_append_right _ (List.mem_append_right _ (List.mem_append_right _ (List.mem_append_right _ (List.mem_append_right _ (List.mem_append_right _ (List.mem_append_right _ (List.mem_append_right _ (List.mem_append_right _ (List.mem_append_right _ (List.mem_append_right _ (List.mem_append_right _ (List.mem_append_right _ (List.mem_append_right _ (List.mem_append_right _ (List.mem_append_right _ (List.mem_append_left _ (h))))))))))))))))))))
theorem in_BWx2 : ∀ w ∈ BWx2, w ∈ BW := fun _ h => List.mem_append_right _ (List.mem_append_right _ (List.mem_append_right _ (List.mem_append_right _ (List.mem_append_right _ (List.mem_append_right _ (List.mem_append_right _ (List.mem_append_right _ (List.mem_append_right _ (List.mem_append_right _ (List.mem_append_right _ (List.mem_append_right _ (List.mem_append_right _ (List.mem_append_right _ (List.mem_append_right _ (List.mem_append_right _ (List.mem_append_right _ (List.mem_append_right _ (List.mem_append_right _ (List.mem_append_right _ (List.mem_append_left _ (h)))))))))))))))))))))
theorem in_BWx3 : ∀ w ∈ BWx3, w ∈ BW := fun _ h => List.mem_append_right _ (List.mem_append_right _ (List.mem_append_right _ (List.mem_append_right _ (List.mem_append_right _ (List.mem_append_right _ (List.mem_append_right _ (List.mem_append_right _ (List.mem_append_right _ (List.mem_append_right _ (List.mem_append_right _ (List.mem_append_right _ (List.mem_append_right _ (List.mem_append_right _ (List.mem_append_right _ (List.mem_append_right _ (List.mem_append_right _ (List.mem_append_right _ (List.mem_append_right _ (List.mem_append_right _ (List.mem_append_right _ (h)))))))))))))))))))))
theorem BW0_good : BW0.all goodWord = true := by decide +kernel
theorem BW1_good : BW1.all goodWord = true := by decide +kernel
theorem BW2_good : BW2.all goodWord = true := by decide +kernel
theorem BW3_good : BW3.all goodWord = true := by decide +kernel
theorem BW4_good : BW4.all goodWord = true := by decide +kernel
theorem BW5_good : BW5.all goodWord = true := by decide +kernel
theorem BW6_good : BW6.all goodWord = true := by decide +kernel
theorem BW7_good : BW7.all goodWord = true := by decide +kernel
theorem BW8_good : BW8.all goodWord = true := by decide +kernel
theorem BW9_good : BW9.all goodWord = true := by decide +kernel
theorem BW10_good : BW10.all goodWord = true := by decide +kernel
theorem wsX00_good : wsX00.all goodWord = true := by decide +kernel
theorem wsX10_good : wsX10.all goodWord = true := by decide +kernel
theorem wsX20_good : wsX20.all goodWord = true := by decide +kernel
theorem wsX30_good : wsX30.all goodWord = true := by decide +kernel
theorem wsX40_good : wsX40.all goodWord = true := by decide +kernel
theorem wsX50_good : wsX50.all goodWord = true := by decide +kernel
theorem wsJ00_good : wsJ00.all goodWord = true := by decide +kernel
theorem BWx0_good : BWx0.all goodWord = true := List.all_eq_true.mpr (fun w h => (List.mem_filter.mp h).2)
theorem BWx1_good : BWx1.all goodWord = true := List.all_eq_true.mpr (fun w h => (List.mem_filter.mp h).2)
theorem BWx2_good : BWx2.all goodWord = true := List.all_eq_true.mpr (fun w h => (List.mem_filter.mp h).2)
theorem BWx3_good : BWx3.all goodWord = true := List.all_eq_true.mpr (fun w h => (List.mem_filter.mp h).2)
theorem BW_good : BW.all goodWord = true := by
  unfold BW
  simp only [List.all_append, Bool.and_eq_true]
  exact ⟨BW0_good, ⟨BW1_good, ⟨BW2_good, ⟨BW3_good, ⟨BW4_good, ⟨BW5_good, ⟨BW6_good, ⟨BW7_good, ⟨BW8_good, ⟨BW9_good, ⟨BW10_good, ⟨wsX00_good, ⟨wsX10_good, ⟨wsX20_good, ⟨wsX30_good, ⟨wsX40_good, ⟨wsX50_good, ⟨wsJ00_good, ⟨BWx0_good, ⟨BWx1_good, ⟨BWx2_good, BWx3_good⟩⟩⟩⟩⟩⟩⟩⟩⟩⟩⟩⟩⟩⟩⟩⟩⟩⟩⟩⟩⟩
theorem BW_in {c w : Cond} (h : w ∈ BW) : w ∈ c :: BW := List.mem_cons_of_mem _ h
theorem BW_g {c w : Cond} (h : w ∈ BW) : w ∈ c :: BW ∧ ((w.onTables && w.keeps) = true ∨ ∃ ty, w = .arrayClass ty) := ⟨BW_in h, good_of_word (List.all_eq_true.mp BW_good w h)⟩
theorem gu_m {c c' : Cond} (h : c' ∈ BW) : GoodIn (c :: BW) (c' :: BW) := fun w hw => (List.mem_cons.mp hw).elim (fun e => BW_g (e ▸ h)) BW_g
theorem gu_V {c c' : Cond} {own C : String} {idx : Nat} {y : MethodName} (h1 : .methodLink own idx y ∈ BW) (h2 : .instanceMethod y ∈ BW) (h3 : .selects C y y ∈ BW) (h4 : .initialized C ∈ BW) (h : c' ∈ BW) : GoodIn (c :: BW) (wsV own idx C y (c' :: BW)) := by
  intro w hw
  unfold wsV at hw
  rcases List.mem_append.mp hw with h5 | h5
  · simp only [List.mem_cons, List.not_mem_nil, or_false] at h5
    rcases h5 with rfl | rfl | rfl | rfl
    · exact BW_g h1
    · exact BW_g h2
    · exact BW_g h3
    · exact BW_g h4
  · exact gu_m h w h5
theorem gu_S {c c' : Cond} {own : String} {idx : Nat} {y : MethodName} (h1 : .methodLink own idx y ∈ BW) (h2 : .static y ∈ BW) (h3 : .initialized own ∈ BW) (h : c' ∈ BW) : GoodIn (c :: BW) (wsS own idx y (c' :: BW)) := by
  intro w hw
  unfold wsS at hw
  rcases List.mem_append.mp hw with h5 | h5
  · simp only [List.mem_cons, List.not_mem_nil, or_false] at h5
    rcases h5 with rfl | rfl | rfl
    · exact BW_g h1
    · exact BW_g h2
    · exact BW_g h3
  · exact gu_m h w h5
abbrev usX0_init : List Cond := .code yX0_init cX0_init 1 none :: BW
abbrev usX0_hasRoot : List Cond := .code yX0_hasRoot cX0_hasRoot 6 (some .boolean) :: BW
abbrev usX0_times : List Cond := .code yX0_times cX0_times 15 (some .int) :: BW
abbrev usX0_power : List Cond := .code yX0_power cX0_power 6 (some .int) :: BW
abbrev usX0_become : List Cond := .code yX0_become cX0_become 7 (some .boolean) :: BW
abbrev usX0_modulusAt : List Cond := .code yX0_modulusAt cX0_modulusAt 2 (some .int) :: BW
abbrev usX0_plus : List Cond := .code yX0_plus cX0_plus 6 (some .int) :: BW
abbrev usX0_minus : List Cond := .code yX0_minus cX0_minus 6 (some .int) :: BW
abbrev usX0_mate : List Cond := .code yX0_mate cX0_mate 4 (some .int) :: BW
abbrev usX0_isSquare : List Cond := .code yX0_isSquare cX0_isSquare 2 (some .boolean) :: BW
abbrev usX0_matesProduct : List Cond := .code yX0_matesProduct cX0_matesProduct 5 (some .int) :: BW
abbrev usX0_matesSum : List Cond := .code yX0_matesSum cX0_matesSum 5 (some .int) :: BW
abbrev usX0_differentMates : List Cond := .code yX0_differentMates cX0_differentMates 2 (some .int) :: BW
abbrev usX2_init : List Cond := .code yX2_init cX2_init 1 none :: BW
abbrev usX1_init : List Cond := .code yX1_init cX1_init 1 none :: BW
abbrev usX2_degree : List Cond := .code yX2_degree cX2_degree 2 (some .int) :: BW
abbrev usX2_get : List Cond := .code yX2_get cX2_get 2 (some .int) :: BW
abbrev usX1_valueOf : List Cond := .code yX1_valueOf cX1_valueOf 5 (some .int) :: BW
abbrev usX2_set : List Cond := .code yX2_set cX2_set 3 none :: BW
abbrev usX1_displace : List Cond := .code yX1_displace cX1_displace 6 none :: BW
abbrev usX2_clear : List Cond := .code yX2_clear cX2_clear 2 none :: BW
abbrev usX2_copy : List Cond := .code yX2_copy cX2_copy 3 none :: BW
abbrev usX1_multiply : List Cond := .code yX1_multiply cX1_multiply 8 none :: BW
abbrev usX1_multiplyLinear : List Cond := .code yX1_multiplyLinear cX1_multiplyLinear 4 none :: BW
abbrev usX1_divide : List Cond := .code yX1_divide cX1_divide 8 none :: BW
abbrev usX1_makeMonic : List Cond := .code yX1_makeMonic cX1_makeMonic 6 none :: BW
abbrev usX1_findCommon : List Cond := .code yX1_findCommon cX1_findCommon 8 none :: BW
abbrev usX1_findSquares : List Cond := .code yX1_findSquares cX1_findSquares 4 none :: BW
abbrev usX2_becomeOne : List Cond := .code yX2_becomeOne cX2_becomeOne 1 none :: BW
abbrev usX1_raiseLinear : List Cond := .code yX1_raiseLinear cX1_raiseLinear 7 none :: BW
abbrev usX1_normOf : List Cond := .code yX1_normOf cX1_normOf 5 (some (.object "NumberFieldFactors$Row")) :: BW
abbrev usX1_leastPolynomial : List Cond := .code yX1_leastPolynomial cX1_leastPolynomial 5 (some (.object "NumberFieldFactors$Row")) :: BW
abbrev usX1_leastShift : List Cond := .code yX1_leastShift cX1_leastShift 3 (some .int) :: BW
abbrev usX2_isBefore : List Cond := .code yX2_isBefore cX2_isBefore 5 (some .boolean) :: BW
abbrev usX3_init : List Cond := .code yX3_init cX3_init 2 none :: BW
abbrev usX3_forget : List Cond := .code yX3_forget cX3_forget 1 none :: BW
abbrev usX3_part : List Cond := .code yX3_part cX3_part 2 (some (.object "NumberFieldFactors$Row")) :: BW
abbrev usX3_timesOf : List Cond := .code yX3_timesOf cX3_timesOf 2 (some .int) :: BW
abbrev usX3_commonDegree : List Cond := .code yX3_commonDegree cX3_commonDegree 5 (some .int) :: BW
abbrev usX3_keepRoot : List Cond := .code yX3_keepRoot cX3_keepRoot 3 none :: BW
abbrev usX3_sizeToThe : List Cond := .code yX3_sizeToThe cX3_sizeToThe 4 (some .long) :: BW
abbrev usX3_add : List Cond := .code yX3_add cX3_add 2 none :: BW
abbrev usX3_collect : List Cond := .code yX3_collect cX3_collect 3 none :: BW
abbrev usX3_separate : List Cond := .code yX3_separate cX3_separate 13 none :: BW
abbrev usX3_sort : List Cond := .code yX3_sort cX3_sort 4 none :: BW
abbrev usX3_countTimes : List Cond := .code yX3_countTimes cX3_countTimes 5 none :: BW
abbrev usX3_find : List Cond := .code yX3_find cX3_find 5 none :: BW
abbrev usX4_init : List Cond := .code yX4_init cX4_init 1 none :: BW
abbrev usX4_numberOf : List Cond := .code yX4_numberOf cX4_numberOf 3 (some .int) :: BW
abbrev usX4_field : List Cond := .code yX4_field cX4_field 8 (some .boolean) :: BW
abbrev usX4_modulus : List Cond := .code yX4_modulus cX4_modulus 2 (some .int) :: BW
abbrev usX4_requirePower : List Cond := .code yX4_requirePower cX4_requirePower 1 none :: BW
abbrev usX4_requireElement : List Cond := .code yX4_requireElement cX4_requireElement 2 none :: BW
abbrev usX4_put : List Cond := .code yX4_put cX4_put 3 (some .boolean) :: BW
abbrev usX4_at : List Cond := .code yX4_at cX4_at 2 (some .int) :: BW
abbrev usX4_reckon : List Cond := .code yX4_reckon cX4_reckon 5 (some .int) :: BW
abbrev usX4_known : List Cond := .code yX4_known cX4_known 4 (some .int) :: BW
abbrev usX4_minimal : List Cond := .code yX4_minimal cX4_minimal 3 (some .int) :: BW
abbrev usX4_value : List Cond := .code yX4_value cX4_value 2 (some .int) :: BW
abbrev usX4_norm : List Cond := .code yX4_norm cX4_norm 2 (some .int) :: BW
abbrev usX4_requireSome : List Cond := .code yX4_requireSome cX4_requireSome 1 none :: BW
abbrev usX4_shift : List Cond := .code yX4_shift cX4_shift 1 (some .int) :: BW
abbrev usX4_factors : List Cond := .code yX4_factors cX4_factors 1 (some .int) :: BW
abbrev usX4_requireFactor : List Cond := .code yX4_requireFactor cX4_requireFactor 2 none :: BW
abbrev usX4_factor : List Cond := .code yX4_factor cX4_factor 3 (some .int) :: BW
abbrev usX4_often : List Cond := .code yX4_often cX4_often 2 (some .int) :: BW
abbrev usX4_splitting : List Cond := .code yX4_splitting cX4_splitting 1 (some .int) :: BW
abbrev usX4_move : List Cond := .code yX4_move cX4_move 2 none :: BW
abbrev usX4_take : List Cond := .code yX4_take cX4_take 2 none :: BW
abbrev usX5_init : List Cond := .code yX5_init cX5_init 2 none :: BW
abbrev usX5_thrown : List Cond := .code yX5_thrown cX5_thrown 1 (some .int) :: BW
abbrev usX5_fails : List Cond := .code yX5_fails cX5_fails 3 (some .boolean) :: BW
abbrev usX5_isElement : List Cond := .code yX5_isElement cX5_isElement 2 (some .boolean) :: BW
abbrev usX5_digit : List Cond := .code yX5_digit cX5_digit 2 (some .int) :: BW
abbrev usX5_add : List Cond := .code yX5_add cX5_add 5 (some .int) :: BW
abbrev usX5_negative : List Cond := .code yX5_negative cX5_negative 4 (some .int) :: BW
abbrev usX5_less : List Cond := .code yX5_less cX5_less 2 (some .int) :: BW
abbrev usX5_times : List Cond := .code yX5_times cX5_times 6 (some .int) :: BW
abbrev usX5_power : List Cond := .code yX5_power cX5_power 8 (some .int) :: BW
abbrev usX5_inverse : List Cond := .code yX5_inverse cX5_inverse 2 (some .int) :: BW
abbrev usX5_mate : List Cond := .code yX5_mate cX5_mate 5 (some .int) :: BW
abbrev usX5_mates : List Cond := .code yX5_mates cX5_mates 3 (some .int) :: BW
abbrev usX5_number : List Cond := .code yX5_number cX5_number 3 (some .int) :: BW
abbrev usX5_clear : List Cond := .code yX5_clear cX5_clear 3 none :: BW
abbrev usX5_field : List Cond := .code yX5_field cX5_field 13 (some .boolean) :: BW
abbrev usX5_modulus : List Cond := .code yX5_modulus cX5_modulus 2 (some .int) :: BW
abbrev usX5_copy : List Cond := .code yX5_copy cX5_copy 4 none :: BW
abbrev usX5_set : List Cond := .code yX5_set cX5_set 5 none :: BW
abbrev usX5_cell : List Cond := .code yX5_cell cX5_cell 3 (some .int) :: BW
abbrev usX5_product : List Cond := .code yX5_product cX5_product 6 none :: BW
abbrev usX5_divide : List Cond := .code yX5_divide cX5_divide 9 none :: BW
abbrev usX5_monic : List Cond := .code yX5_monic cX5_monic 4 none :: BW
abbrev usX5_divisor : List Cond := .code yX5_divisor cX5_divisor 4 none :: BW
abbrev usX5_slope : List Cond := .code yX5_slope cX5_slope 4 none :: BW
abbrev usX5_powers : List Cond := .code yX5_powers cX5_powers 8 none :: BW
abbrev usX5_moved : List Cond := .code yX5_moved cX5_moved 6 none :: BW
abbrev usX5_normOf : List Cond := .code yX5_normOf cX5_normOf 5 none :: BW
abbrev usX5_isPower : List Cond := .code yX5_isPower cX5_isPower 2 (some .boolean) :: BW
abbrev usX5_put : List Cond := .code yX5_put cX5_put 4 (some .boolean) :: BW
abbrev usX5_at : List Cond := .code yX5_at cX5_at 2 (some .int) :: BW
abbrev usX5_reckon : List Cond := .code yX5_reckon cX5_reckon 5 (some .int) :: BW
abbrev usX5_known : List Cond := .code yX5_known cX5_known 6 (some .int) :: BW
abbrev usX5_minimal : List Cond := .code yX5_minimal cX5_minimal 5 (some .int) :: BW
abbrev usX5_value : List Cond := .code yX5_value cX5_value 4 (some .int) :: BW
abbrev usX5_norm : List Cond := .code yX5_norm cX5_norm 2 (some .int) :: BW
abbrev usX5_root : List Cond := .code yX5_root cX5_root 1 none :: BW
abbrev usX5_found : List Cond := .code yX5_found cX5_found 2 none :: BW
abbrev usX5_parts : List Cond := .code yX5_parts cX5_parts 7 none :: BW
abbrev usX5_split : List Cond := .code yX5_split cX5_split 2 none :: BW
abbrev usX5_isAhead : List Cond := .code yX5_isAhead cX5_isAhead 4 (some .boolean) :: BW
abbrev usX5_order : List Cond := .code yX5_order cX5_order 3 none :: BW
abbrev usX5_factorise : List Cond := .code yX5_factorise cX5_factorise 3 none :: BW
abbrev usX5_isNothing : List Cond := .code yX5_isNothing cX5_isNothing 1 (some .boolean) :: BW
abbrev usX5_shift : List Cond := .code yX5_shift cX5_shift 4 (some .int) :: BW
abbrev usX5_factors : List Cond := .code yX5_factors cX5_factors 1 (some .int) :: BW
abbrev usX5_lacks : List Cond := .code yX5_lacks cX5_lacks 2 (some .boolean) :: BW
abbrev usX5_factor : List Cond := .code yX5_factor cX5_factor 3 (some .int) :: BW
abbrev usX5_often : List Cond := .code yX5_often cX5_often 2 (some .int) :: BW
abbrev usX5_splitting : List Cond := .code yX5_splitting cX5_splitting 4 (some .int) :: BW
abbrev usX5_move : List Cond := .code yX5_move cX5_move 2 none :: BW
abbrev usX5_take : List Cond := .code yX5_take cX5_take 2 none :: BW
abbrev usL_field : List Cond := .codeWith yL_field cL_field 10 (some .int) [(0, 22, 25, 13)] :: BW
abbrev usL_modulus : List Cond := .codeWith yL_modulus cL_modulus 4 (some .int) [(0, 9, 12, 19)] :: BW
abbrev usL_put : List Cond := .codeWith yL_put cL_put 5 (some .int) [(0, 17, 20, 19), (0, 17, 24, 13)] :: BW
abbrev usL_at : List Cond := .codeWith yL_at cL_at 4 (some .int) [(0, 9, 12, 19)] :: BW
abbrev usL_reckon : List Cond := .codeWith yL_reckon cL_reckon 6 (some .int) [(0, 12, 15, 13), (0, 12, 19, 32)] :: BW
abbrev usL_known : List Cond := .codeWith yL_known cL_known 5 (some .int) [(0, 10, 13, 13)] :: BW
abbrev usL_minimal : List Cond := .codeWith yL_minimal cL_minimal 5 (some .int) [(0, 10, 13, 19), (0, 10, 17, 13)] :: BW
abbrev usL_value : List Cond := .codeWith yL_value cL_value 4 (some .int) [(0, 9, 12, 13)] :: BW
abbrev usL_shift : List Cond := .codeWith yL_shift cL_shift 3 (some .int) [(0, 8, 11, 48)] :: BW
abbrev usL_factors : List Cond := .codeWith yL_factors cL_factors 3 (some .int) [(0, 8, 11, 48)] :: BW
abbrev usL_factor : List Cond := .codeWith yL_factor cL_factor 5 (some .int) [(0, 10, 13, 48), (0, 10, 17, 19)] :: BW
abbrev usL_often : List Cond := .codeWith yL_often cL_often 4 (some .int) [(0, 9, 12, 48), (0, 9, 15, 19)] :: BW
abbrev usL_splitting : List Cond := .codeWith yL_splitting cL_splitting 3 (some .int) [(0, 8, 11, 48)] :: BW
abbrev usL_move : List Cond := .codeWith yL_move cL_move 3 (some .int) [(0, 5, 8, 13)] :: BW
abbrev usL_take : List Cond := .codeWith yL_take cL_take 3 (some .int) [(0, 5, 8, 48), (0, 5, 11, 19)] :: BW
