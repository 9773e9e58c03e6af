set_option maxRecDepth 20000 in
theorem ggX5_minimal_X5_cell : GoodIn wsX5_minimal wsX5_cell := goodIn_r _ [55, 39, 63, 64, 65, 66, 67, 68, 69, 70, 71, 72] (by decide +kernel) (by decide +kernel)
set_option maxRecDepth 20000 in
theorem gX5_minimal_X5_cell : GoodIn wsX5_minimal (wsV RX5 81 RX5 yX5_cell wsX5_cell) := goodIn_app (goodIn_of _ (by decide +kernel)) ggX5_minimal_X5_cell
set_option maxRecDepth 20000 in
theorem ggX5_value_X5_isElement : GoodIn wsX5_value wsX5_isElement := goodIn_r _ [5, 6, 30, 31, 32, 33, 34, 35, 36, 37, 38, 39] (by decide +kernel) (by decide +kernel)
set_option maxRecDepth 20000 in
theorem gX5_value_X5_isElement : GoodIn wsX5_value (wsV RX5 111 RX5 yX5_isElement wsX5_isElement) := goodIn_app (goodIn_of _ (by decide +kernel)) ggX5_value_X5_isElement
set_option maxRecDepth 20000 in
theorem ggX5_value_X5_fails : GoodIn wsX5_value wsX5_fails := goodIn_r _ [10, 11, 30, 31, 32, 33, 34, 35, 36, 37, 38, 39] (by decide +kernel) (by decide +kernel)
set_option maxRecDepth 20000 in
theorem gX5_value_X5_fails : GoodIn wsX5_value (wsV RX5 61 RX5 yX5_fails wsX5_fails) := goodIn_app (goodIn_of _ (by decide +kernel)) ggX5_value_X5_fails
set_option maxRecDepth 20000 in
theorem ggX5_value_X5_times : GoodIn wsX5_value wsX5_times := goodIn_r _ [15, 16, 17, 18, 19, 20, 4, 21, 30, 31, 32, 33, 34, 35, 36, 37, 38, 39] (by decide +kernel) (by decide +kernel)
set_option maxRecDepth 20000 in
theorem gX5_value_X5_times : GoodIn wsX5_value (wsV RX5 49 RX5 yX5_times wsX5_times) := goodIn_app (goodIn_of _ (by decide +kernel)) ggX5_value_X5_times
set_option maxRecDepth 20000 in
theorem ggX5_value_X5_cell : GoodIn wsX5_value wsX5_cell := goodIn_r _ [25, 26, 30, 31, 32, 33, 34, 35, 36, 37, 38, 39] (by decide +kernel) (by decide +kernel)
set_option maxRecDepth 20000 in
theorem gX5_value_X5_cell : GoodIn wsX5_value (wsV RX5 81 RX5 yX5_cell wsX5_cell) := goodIn_app (goodIn_of _ (by decide +kernel)) ggX5_value_X5_cell
set_option maxRecDepth 20000 in
theorem ggX5_value_X5_add : GoodIn wsX5_value wsX5_add := goodIn_r _ [29] (by decide +kernel) (by decide +kernel)
set_option maxRecDepth 20000 in
theorem gX5_value_X5_add : GoodIn wsX5_value (va_wsS RX5 42 yX5_add wsX5_add) := goodIn_app (goodIn_of _ (by decide +kernel)) ggX5_value_X5_add
set_option maxRecDepth 20000 in
theorem ggX5_norm_X5_normOf : GoodIn wsX5_norm wsX5_normOf := goodIn_r _ [6, 7, 8, 9, 10, 11, 12, 5, 13, 14, 15, 16, 17, 18, 19, 20, 21, 22, 23, 24, 25, 26, 27, 28, 29, 30, 31, 32, 33, 34, 35, 36, 37, 38, 39, 40, 41, 42, 43, 44, 45, 46, 47, 48, 49, 50, 51, 52, 53, 54, 55, 56] (by decide +kernel) (by decide +kernel)
set_option maxRecDepth 20000 in
theorem gX5_norm_X5_normOf : GoodIn wsX5_norm (wsV RX5 117 RX5 yX5_normOf wsX5_normOf) := goodIn_app (goodIn_of _ (by decide +kernel)) ggX5_norm_X5_normOf
set_option maxRecDepth 20000 in
theorem ggX5_norm_X5_cell : GoodIn wsX5_norm wsX5_cell := goodIn_r _ [17, 9, 47, 48, 49, 50, 51, 52, 53, 54, 55, 56] (by decide +kernel) (by decide +kernel)
set_option maxRecDepth 20000 in
theorem gX5_norm_X5_cell : GoodIn wsX5_norm (wsV RX5 81 RX5 yX5_cell wsX5_cell) := goodIn_app (goodIn_of _ (by decide +kernel)) ggX5_norm_X5_cell
set_option maxRecDepth 20000 in
theorem ggX5_root_X5_copy : GoodIn wsX5_root wsX5_copy := goodIn_r _ [5, 6, 7, 65, 66, 67, 68, 69, 70, 71, 72, 73, 74] (by decide +kernel) (by decide +kernel)
set_option maxRecDepth 20000 in
theorem gX5_root_X5_copy : GoodIn wsX5_root (wsV RX5 97 RX5 yX5_copy wsX5_copy) := goodIn_app (goodIn_of _ (by decide +kernel)) ggX5_root_X5_copy
set_option maxRecDepth 20000 in
theorem ggX5_root_X5_slope : GoodIn wsX5_root wsX5_slope := goodIn_r _ [11, 7, 6, 12, 13, 14, 4, 15, 16, 17, 18, 19, 20, 21, 22, 23, 24, 25, 26, 27, 28, 29, 30, 31, 32, 33, 65, 66, 67, 68, 69, 70, 71, 72, 73, 74] (by decide +kernel) (by decide +kernel)
set_option maxRecDepth 20000 in
theorem gX5_root_X5_slope : GoodIn wsX5_root (wsV RX5 120 RX5 yX5_slope wsX5_slope) := goodIn_app (goodIn_of _ (by decide +kernel)) ggX5_root_X5_slope
set_option maxRecDepth 20000 in
theorem ggX5_root_X5_divisor : GoodIn wsX5_root wsX5_divisor := goodIn_r _ [37, 7, 38, 39, 40, 4, 41, 6, 12, 13, 14, 15, 16, 17, 18, 19, 42, 43, 44, 45, 46, 47, 48, 49, 50, 51, 20, 21, 22, 23, 24, 25, 26, 27, 28, 29, 52, 53, 54, 55, 56, 57, 58, 59, 60, 30, 31, 32, 33, 1, 2, 3, 5, 61, 62, 63, 64, 65, 66, 67, 68, 69, 70, 71, 72, 73, 74] (by decide +kernel) (by decide +kernel)
set_option maxRecDepth 20000 in
theorem gX5_root_X5_divisor : GoodIn wsX5_root (wsV RX5 123 RX5 yX5_divisor wsX5_divisor) := goodIn_app (goodIn_of _ (by decide +kernel)) ggX5_root_X5_divisor
set_option maxRecDepth 20000 in
theorem ggX5_root_X5_divide : GoodIn wsX5_root wsX5_divide := goodIn_r _ [41, 7, 6, 12, 13, 14, 4, 15, 16, 17, 18, 19, 42, 43, 44, 45, 46, 47, 48, 49, 50, 51, 20, 21, 22, 23, 24, 25, 26, 27, 28, 29, 52, 53, 54, 55, 56, 57, 58, 59, 60, 30, 31, 32, 33, 65, 66, 67, 68, 69, 70, 71, 72, 73, 74] (by decide +kernel) (by decide +kernel)
set_option maxRecDepth 20000 in
theorem gX5_root_X5_divide : GoodIn wsX5_root (wsV RX5 94 RX5 yX5_divide wsX5_divide) := goodIn_app (goodIn_of _ (by decide +kernel)) ggX5_root_X5_divide
set_option maxRecDepth 20000 in
theorem ggX5_root_X5_monic : GoodIn wsX5_root wsX5_monic := goodIn_r _ [64, 7, 6, 16, 17, 18, 4, 19, 42, 43, 44, 45, 46, 47, 48, 49, 50, 51, 20, 21, 22, 23, 24, 25, 26, 27, 28, 29, 65, 66, 67, 68, 69, 70, 71, 72, 73, 74] (by decide +kernel) (by decide +kernel)
set_option maxRecDepth 20000 in
theorem gX5_root_X5_monic : GoodIn wsX5_root (wsV RX5 101 RX5 yX5_monic wsX5_monic) := goodIn_app (goodIn_of _ (by decide +kernel)) ggX5_root_X5_monic
set_option maxRecDepth 20000 in
theorem ggX5_found_X5_copy : GoodIn wsX5_found wsX5_copy := goodIn_r _ [6, 7, 8, 9, 10, 11, 12, 13, 14, 15, 16, 17, 18] (by decide +kernel) (by decide +kernel)
set_option maxRecDepth 20000 in
theorem gX5_found_X5_copy : GoodIn wsX5_found (wsV RX5 97 RX5 yX5_copy wsX5_copy) := goodIn_app (goodIn_of _ (by decide +kernel)) ggX5_found_X5_copy
set_option maxRecDepth 20000 in
theorem ggX5_parts_X5_copy : GoodIn wsX5_parts wsX5_copy := goodIn_r _ [8, 9, 3, 74, 75, 76, 77, 78, 79, 80, 81, 82, 83] (by decide +kernel) (by decide +kernel)
set_option maxRecDepth 20000 in
theorem gX5_parts_X5_copy : GoodIn wsX5_parts (wsV RX5 97 RX5 yX5_copy wsX5_copy) := goodIn_app (goodIn_of _ (by decide +kernel)) ggX5_parts_X5_copy
set_option maxRecDepth 20000 in
theorem ggX5_parts_X5_found : GoodIn wsX5_parts wsX5_found := goodIn_r _ [13, 14, 4, 5, 6, 7, 8, 9, 3, 74, 75, 76, 77, 78, 79, 80, 81, 82, 83] (by decide +kernel) (by decide +kernel)
set_option maxRecDepth 20000 in
theorem gX5_parts_X5_found : GoodIn wsX5_parts (wsV RX5 129 RX5 yX5_found wsX5_found) := goodIn_app (goodIn_of _ (by decide +kernel)) ggX5_parts_X5_found
set_option maxRecDepth 20000 in
theorem ggX5_parts_X5_clear : GoodIn wsX5_parts wsX5_clear := goodIn_r _ [18, 9, 3, 74, 75, 76, 77, 78, 79, 80, 81, 82, 83] (by decide +kernel) (by decide +kernel)
set_option maxRecDepth 20000 in
theorem gX5_parts_X5_clear : GoodIn wsX5_parts (wsV RX5 73 RX5 yX5_clear wsX5_clear) := goodIn_app (goodIn_of _ (by decide +kernel)) ggX5_parts_X5_clear
set_option maxRecDepth 20000 in
theorem ggX5_parts_X5_set : GoodIn wsX5_parts wsX5_set := goodIn_r _ [22, 9, 3, 74, 75, 76, 77, 78, 79, 80, 81, 82, 83] (by decide +kernel) (by decide +kernel)
set_option maxRecDepth 20000 in
theorem gX5_parts_X5_set : GoodIn wsX5_parts (wsV RX5 90 RX5 yX5_set wsX5_set) := goodIn_app (goodIn_of _ (by decide +kernel)) ggX5_parts_X5_set
set_option maxRecDepth 20000 in
theorem ggX5_parts_X5_powers : GoodIn wsX5_parts wsX5_powers := goodIn_r _ [26, 15, 16, 17, 7, 18, 9, 3, 19, 20, 21, 22, 4, 5, 6, 8, 27, 28, 29, 30, 31, 32, 33, 34, 35, 36, 37, 38, 1, 2, 39, 40, 41, 42, 43, 44, 45, 46, 47, 48, 49, 50, 51, 52, 53, 54, 55, 56, 57, 58, 59, 60, 61, 62, 63, 64, 65, 74, 75, 76, 77, 78, 79, 80, 81, 82, 83] (by decide +kernel) (by decide +kernel)
set_option maxRecDepth 20000 in
theorem gX5_parts_X5_powers : GoodIn wsX5_parts (wsV RX5 132 RX5 yX5_powers wsX5_powers) := goodIn_app (goodIn_of _ (by decide +kernel)) ggX5_parts_X5_powers
set_option maxRecDepth 20000 in
theorem ggX5_parts_X5_cell : GoodIn wsX5_parts wsX5_cell := goodIn_r _ [34, 9, 74, 75, 76, 77, 78, 79, 80, 81, 82, 83] (by decide +kernel) (by decide +kernel)
set_option maxRecDepth 20000 in
theorem gX5_parts_X5_cell : GoodIn wsX5_parts (wsV RX5 81 RX5 yX5_cell wsX5_cell) := goodIn_app (goodIn_of _ (by decide +kernel)) ggX5_parts_X5_cell
set_option maxRecDepth 20000 in
theorem ggX5_parts_X5_less : GoodIn wsX5_parts wsX5_less := goodIn_r _ [55, 56, 57, 7, 58, 59, 60, 61] (by decide +kernel) (by decide +kernel)
set_option maxRecDepth 20000 in
theorem gX5_parts_X5_less : GoodIn wsX5_parts (va_wsS RX5 87 yX5_less wsX5_less) := goodIn_app (goodIn_of _ (by decide +kernel)) ggX5_parts_X5_less
set_option maxRecDepth 20000 in
theorem ggX5_parts_X5_divisor : GoodIn wsX5_parts wsX5_divisor := goodIn_r _ [69, 3, 27, 28, 29, 7, 30, 9, 15, 16, 17, 18, 31, 32, 33, 34, 35, 36, 37, 38, 1, 2, 39, 40, 41, 42, 43, 44, 45, 46, 47, 48, 49, 50, 51, 52, 53, 54, 55, 56, 57, 58, 59, 60, 61, 19, 20, 21, 22, 4, 5, 6, 8, 70, 71, 72, 73, 74, 75, 76, 77, 78, 79, 80, 81, 82, 83] (by decide +kernel) (by decide +kernel)
set_option maxRecDepth 20000 in
theorem gX5_parts_X5_divisor : GoodIn wsX5_parts (wsV RX5 123 RX5 yX5_divisor wsX5_divisor) := goodIn_app (goodIn_of _ (by decide +kernel)) ggX5_parts_X5_divisor
set_option maxRecDepth 20000 in
theorem ggX5_parts_X5_divide : GoodIn wsX5_parts wsX5_divide := goodIn_r _ [30, 3, 9, 15, 16, 17, 7, 18, 31, 32, 33, 34, 35, 36, 37, 38, 1, 2, 39, 40, 41, 42, 43, 44, 45, 46, 47, 48, 49, 50, 51, 52, 53, 54, 55, 56, 57, 58, 59, 60, 61, 19, 20, 21, 22, 74, 75, 76, 77, 78, 79, 80, 81, 82, 83] (by decide +kernel) (by decide +kernel)
set_option maxRecDepth 20000 in
theorem gX5_parts_X5_divide : GoodIn wsX5_parts (wsV RX5 94 RX5 yX5_divide wsX5_divide) := goodIn_app (goodIn_of _ (by decide +kernel)) ggX5_parts_X5_divide
set_option maxRecDepth 20000 in
theorem ggX5_split_X5_copy : GoodIn wsX5_split wsX5_copy := goodIn_r _ [8, 9, 2, 78, 79, 80, 81, 82, 83, 84, 85, 86, 87] (by decide +kernel) (by decide +kernel)
set_option maxRecDepth 20000 in
theorem gX5_split_X5_copy : GoodIn wsX5_split (wsV RX5 97 RX5 yX5_copy wsX5_copy) := goodIn_app (goodIn_of _ (by decide +kernel)) ggX5_split_X5_copy
set_option maxRecDepth 20000 in
theorem ggX5_split_X5_clear : GoodIn wsX5_split wsX5_clear := goodIn_r _ [13, 9, 2, 78, 79, 80, 81, 82, 83, 84, 85, 86, 87] (by decide +kernel) (by decide +kernel)
set_option maxRecDepth 20000 in
theorem gX5_split_X5_clear : GoodIn wsX5_split (wsV RX5 73 RX5 yX5_clear wsX5_clear) := goodIn_app (goodIn_of _ (by decide +kernel)) ggX5_split_X5_clear
set_option maxRecDepth 20000 in
theorem ggX5_split_X5_set : GoodIn wsX5_split wsX5_set := goodIn_r _ [17, 9, 2, 78, 79, 80, 81, 82, 83, 84, 85, 86, 87] (by decide +kernel) (by decide +kernel)
set_option maxRecDepth 20000 in
theorem gX5_split_X5_set : GoodIn wsX5_split (wsV RX5 90 RX5 yX5_set wsX5_set) := goodIn_app (goodIn_of _ (by decide +kernel)) ggX5_split_X5_set
set_option maxRecDepth 20000 in
theorem ggX5_split_X5_found : GoodIn wsX5_split wsX5_found := goodIn_r _ [21, 1, 4, 5, 6, 7, 8, 9, 2, 78, 79, 80, 81, 82, 83, 84, 85, 86, 87] (by decide +kernel) (by decide +kernel)
set_option maxRecDepth 20000 in
theorem gX5_split_X5_found : GoodIn wsX5_split (wsV RX5 129 RX5 yX5_found wsX5_found) := goodIn_app (goodIn_of _ (by decide +kernel)) ggX5_split_X5_found
set_option maxRecDepth 20000 in
theorem ggX5_split_X5_powers : GoodIn wsX5_split wsX5_powers := goodIn_r _ [25, 10, 11, 12, 7, 13, 9, 2, 14, 15, 16, 17, 4, 5, 6, 8, 26, 27, 28, 29, 30, 31, 32, 33, 34, 35, 36, 37, 3, 38, 39, 40, 41, 42, 43, 44, 45, 46, 47, 48, 49, 50, 51, 52, 53, 54, 55, 56, 57, 58, 59, 60, 61, 62, 63, 64, 65, 78, 79, 80, 81, 82, 83, 84, 85, 86, 87] (by decide +kernel) (by decide +kernel)
set_option maxRecDepth 20000 in
theorem gX5_split_X5_powers : GoodIn wsX5_split (wsV RX5 132 RX5 yX5_powers wsX5_powers) := goodIn_app (goodIn_of _ (by decide +kernel)) ggX5_split_X5_powers
set_option maxRecDepth 20000 in
theorem ggX5_split_X5_cell : GoodIn wsX5_split wsX5_cell := goodIn_r _ [33, 9, 78, 79, 80, 81, 82, 83, 84, 85, 86, 87] (by decide +kernel) (by decide +kernel)
set_option maxRecDepth 20000 in
theorem gX5_split_X5_cell : GoodIn wsX5_split (wsV RX5 81 RX5 yX5_cell wsX5_cell) := goodIn_app (goodIn_of _ (by decide +kernel)) ggX5_split_X5_cell
set_option maxRecDepth 20000 in
theorem ggX5_split_X5_less : GoodIn wsX5_split wsX5_less := goodIn_r _ [55, 56, 57, 7, 58, 59, 60, 61] (by decide +kernel) (by decide +kernel)
set_option maxRecDepth 20000 in
theorem gX5_split_X5_less : GoodIn wsX5_split (va_wsS RX5 87 yX5_less wsX5_less) := goodIn_app (goodIn_of _ (by decide +kernel)) ggX5_split_X5_less
set_option maxRecDepth 20000 in
theorem ggX5_split_X5_divisor : GoodIn wsX5_split wsX5_divisor := goodIn_r _ [69, 2, 26, 27, 28, 7, 29, 9, 10, 11, 12, 13, 30, 31, 32, 33, 34, 35, 36, 37, 3, 38, 39, 40, 41, 42, 43, 44, 45, 46, 47, 48, 49, 50, 51, 52, 53, 54, 55, 56, 57, 58, 59, 60, 61, 14, 15, 16, 17, 4, 5, 6, 8, 70, 71, 72, 73, 78, 79, 80, 81, 82, 83, 84, 85, 86, 87] (by decide +kernel) (by decide +kernel)
set_option maxRecDepth 20000 in
theorem gX5_split_X5_divisor : GoodIn wsX5_split (wsV RX5 123 RX5 yX5_divisor wsX5_divisor) := goodIn_app (goodIn_of _ (by decide +kernel)) ggX5_split_X5_divisor
set_option maxRecDepth 20000 in
theorem ggX5_split_X5_divide : GoodIn wsX5_split wsX5_divide := goodIn_r _ [29, 2, 9, 10, 11, 12, 7, 13, 30, 31, 32, 33, 34, 35, 36, 37, 3, 38, 39, 40, 41, 42, 43, 44, 45, 46, 47, 48, 49, 50, 51, 52, 53, 54, 55, 56, 57, 58, 59, 60, 61, 14, 15, 16, 17, 78, 79, 80, 81, 82, 83, 84, 85, 86, 87] (by decide +kernel) (by decide +kernel)
set_option maxRecDepth 20000 in
theorem gX5_split_X5_divide : GoodIn wsX5_split (wsV RX5 94 RX5 yX5_divide wsX5_divide) := goodIn_app (goodIn_of _ (by decide +kernel)) ggX5_split_X5_divide
set_option maxRecDepth 20000 in
theorem ggX5_split_X5_parts : GoodIn wsX5_split wsX5_parts := goodIn_r _ [77, 3, 38, 2, 4, 5, 6, 7, 8, 9, 18, 19, 20, 21, 1, 10, 11, 12, 13, 14, 15, 16, 17, 22, 23, 24, 25, 26, 27, 28, 29, 30, 31, 32, 33, 34, 35, 36, 37, 39, 40, 41, 42, 43, 44, 45, 46, 47, 48, 49, 50, 51, 52, 53, 54, 55, 56, 57, 58, 59, 60, 61, 62, 63, 64, 65, 66, 67, 68, 69, 70, 71, 72, 73, 78, 79, 80, 81, 82, 83, 84, 85, 86, 87] (by decide +kernel) (by decide +kernel)
set_option maxRecDepth 20000 in
theorem gX5_split_X5_parts : GoodIn wsX5_split (wsV RX5 136 RX5 yX5_parts wsX5_parts) := goodIn_app (goodIn_of _ (by decide +kernel)) ggX5_split_X5_parts
set_option maxRecDepth 20000 in
theorem ggX5_isAhead_X5_cell : GoodIn wsX5_isAhead wsX5_cell := goodIn_r _ [6, 7, 8, 9, 10, 11, 12, 13, 14, 15, 16, 17] (by decide +kernel) (by decide +kernel)
set_option maxRecDepth 20000 in
theorem gX5_isAhead_X5_cell : GoodIn wsX5_isAhead (wsV RX5 81 RX5 yX5_cell wsX5_cell) := goodIn_app (goodIn_of _ (by decide +kernel)) ggX5_isAhead_X5_cell
set_option maxRecDepth 20000 in
theorem ggX5_order_X5_isAhead : GoodIn wsX5_order wsX5_isAhead := goodIn_r _ [6, 7, 8, 9, 10, 5, 11, 12, 17, 18, 19, 20, 21, 22, 23, 24, 25, 26] (by decide +kernel) (by decide +kernel)
set_option maxRecDepth 20000 in
theorem gX5_order_X5_isAhead : GoodIn wsX5_order (wsV RX5 139 RX5 yX5_isAhead wsX5_isAhead) := goodIn_app (goodIn_of _ (by decide +kernel)) ggX5_order_X5_isAhead
set_option maxRecDepth 20000 in
theorem ggX5_order_X5_copy : GoodIn wsX5_order wsX5_copy := goodIn_r _ [16, 12, 7, 17, 18, 19, 20, 21, 22, 23, 24, 25, 26] (by decide +kernel) (by decide +kernel)
set_option maxRecDepth 20000 in
theorem gX5_order_X5_copy : GoodIn wsX5_order (wsV RX5 97 RX5 yX5_copy wsX5_copy) := goodIn_app (goodIn_of _ (by decide +kernel)) ggX5_order_X5_copy
set_option maxRecDepth 20000 in
theorem ggX5_factorise_X5_root : GoodIn wsX5_factorise wsX5_root := goodIn_r _ [9, 10, 11, 12, 8, 13, 14, 4, 15, 16, 17, 18, 19, 20, 21, 22, 23, 24, 25, 26, 27, 28, 29, 30, 31, 32, 33, 34, 35, 36, 37, 38, 39, 40, 41, 42, 43, 44, 45, 46, 47, 48, 49, 50, 51, 52, 53, 54, 55, 56, 57, 58, 59, 60, 61, 62, 63, 64, 65, 66, 67, 68, 69, 70, 71, 100, 101, 102, 103, 104, 105, 106, 107, 108, 109] (by decide +kernel) (by decide +kernel)
set_option maxRecDepth 20000 in
theorem gX5_factorise_X5_root : GoodIn wsX5_factorise (wsV RX5 143 RX5 yX5_root wsX5_root) := goodIn_app (goodIn_of _ (by decide +kernel)) ggX5_factorise_X5_root
set_option maxRecDepth 20000 in
theorem ggX5_factorise_X5_split : GoodIn wsX5_factorise wsX5_split := goodIn_r _ [75, 2, 4, 53, 10, 11, 12, 8, 13, 14, 19, 20, 21, 22, 37, 38, 39, 40, 76, 77, 78, 79, 80, 81, 82, 83, 45, 46, 47, 48, 23, 24, 25, 26, 49, 50, 51, 52, 54, 55, 56, 57, 58, 27, 28, 29, 30, 31, 32, 33, 34, 35, 36, 59, 60, 61, 62, 63, 64, 65, 66, 67, 84, 85, 86, 87, 41, 42, 43, 44, 68, 69, 70, 71, 88, 89, 90, 91, 100, 101, 102, 103, 104, 105, 106, 107, 108, 109] (by decide +kernel) (by decide +kernel)
set_option maxRecDepth 20000 in
theorem gX5_factorise_X5_split : GoodIn wsX5_factorise (wsV RX5 146 RX5 yX5_split wsX5_split) := goodIn_app (goodIn_of _ (by decide +kernel)) ggX5_factorise_X5_split
set_option maxRecDepth 20000 in
theorem ggX5_factorise_X5_order : GoodIn wsX5_factorise wsX5_order := goodIn_r _ [95, 2, 96, 97, 98, 8, 99, 4, 23, 24, 25, 26, 14, 10, 11, 12, 13, 100, 101, 102, 103, 104, 105, 106, 107, 108, 109] (by decide +kernel) (by decide +kernel)
set_option maxRecDepth 20000 in
theorem gX5_factorise_X5_order : GoodIn wsX5_factorise (wsV RX5 149 RX5 yX5_order wsX5_order) := goodIn_app (goodIn_of _ (by decide +kernel)) ggX5_factorise_X5_order
set_option maxRecDepth 20000 in
theorem ggX5_factorise_X5_copy : GoodIn wsX5_factorise wsX5_copy := goodIn_r _ [13, 14, 4, 100, 101, 102, 103, 104, 105, 106, 107, 108, 109] (by decide +kernel) (by decide +kernel)
set_option maxRecDepth 20000 in
theorem gX5_factorise_X5_copy : GoodIn wsX5_factorise (wsV RX5 97 RX5 yX5_copy wsX5_copy) := goodIn_app (goodIn_of _ (by decide +kernel)) ggX5_factorise_X5_copy
set_option maxRecDepth 20000 in
theorem ggX5_factorise_X5_divide : GoodIn wsX5_factorise wsX5_divide := goodIn_r _ [48, 4, 14, 19, 20, 21, 8, 22, 23, 24, 25, 26, 49, 50, 51, 52, 53, 54, 55, 56, 57, 58, 27, 28, 29, 30, 31, 32, 33, 34, 35, 36, 59, 60, 61, 62, 63, 64, 65, 66, 67, 37, 38, 39, 40, 100, 101, 102, 103, 104, 105, 106, 107, 108, 109] (by decide +kernel) (by decide +kernel)
set_option maxRecDepth 20000 in
theorem gX5_factorise_X5_divide : GoodIn wsX5_factorise (wsV RX5 94 RX5 yX5_divide wsX5_divide) := goodIn_app (goodIn_of _ (by decide +kernel)) ggX5_factorise_X5_divide
set_option maxRecDepth 20000 in
theorem ggX5_shift_X5_isNothing : GoodIn wsX5_shift wsX5_isNothing := goodIn_r _ [7, 2, 95, 96, 97, 98, 99, 100, 101, 102, 103, 104] (by decide +kernel) (by decide +kernel)
set_option maxRecDepth 20000 in
theorem gX5_shift_X5_isNothing : GoodIn wsX5_shift (wsV RX5 152 RX5 yX5_isNothing wsX5_isNothing) := goodIn_app (goodIn_of _ (by decide +kernel)) ggX5_shift_X5_isNothing
set_option maxRecDepth 20000 in
theorem ggX5_shift_X5_fails : GoodIn wsX5_shift wsX5_fails := goodIn_r _ [11, 12, 95, 96, 97, 98, 99, 100, 101, 102, 103, 104] (by decide +kernel) (by decide +kernel)
set_option maxRecDepth 20000 in
theorem gX5_shift_X5_fails : GoodIn wsX5_shift (wsV RX5 61 RX5 yX5_fails wsX5_fails) := goodIn_app (goodIn_of _ (by decide +kernel)) ggX5_shift_X5_fails
set_option maxRecDepth 20000 in
theorem ggX5_shift_X5_root : GoodIn wsX5_shift wsX5_root := goodIn_r _ [16, 17, 18, 19, 6, 20, 21, 2, 22, 23, 24, 25, 26, 27, 28, 29, 30, 31, 32, 33, 34, 35, 36, 37, 38, 1, 39, 40, 41, 42, 43, 44, 45, 46, 47, 48, 49, 50, 51, 52, 53, 54, 55, 56, 57, 58, 59, 60, 61, 62, 63, 64, 65, 66, 67, 68, 69, 70, 71, 72, 73, 74, 75, 76, 77, 95, 96, 97, 98, 99, 100, 101, 102, 103, 104] (by decide +kernel) (by decide +kernel)
set_option maxRecDepth 20000 in
theorem gX5_shift_X5_root : GoodIn wsX5_shift (wsV RX5 143 RX5 yX5_root wsX5_root) := goodIn_app (goodIn_of _ (by decide +kernel)) ggX5_shift_X5_root
set_option maxRecDepth 20000 in
theorem ggX5_shift_X5_times : GoodIn wsX5_shift wsX5_times := goodIn_r _ [37, 38, 1, 39, 40, 41, 6, 42, 95, 96, 97, 98, 99, 100, 101, 102, 103, 104] (by decide +kernel) (by decide +kernel)
set_option maxRecDepth 20000 in
theorem gX5_shift_X5_times : GoodIn wsX5_shift (wsV RX5 49 RX5 yX5_times wsX5_times) := goodIn_app (goodIn_of _ (by decide +kernel)) ggX5_shift_X5_times
set_option maxRecDepth 20000 in
theorem ggX5_shift_X5_negative : GoodIn wsX5_shift wsX5_negative := goodIn_r _ [70] (by decide +kernel) (by decide +kernel)
set_option maxRecDepth 20000 in
theorem gX5_shift_X5_negative : GoodIn wsX5_shift (va_wsS RX5 38 yX5_negative wsX5_negative) := goodIn_app (goodIn_of _ (by decide +kernel)) ggX5_shift_X5_negative
set_option maxRecDepth 20000 in
theorem ggX5_shift_X5_moved : GoodIn wsX5_shift wsX5_moved := goodIn_r _ [81, 2, 21, 26, 27, 28, 6, 29, 34, 35, 36, 37, 38, 1, 39, 40, 41, 42, 71, 72, 73, 30, 31, 32, 33, 43, 44, 45, 46, 95, 96, 97, 98, 99, 100, 101, 102, 103, 104] (by decide +kernel) (by decide +kernel)
set_option maxRecDepth 20000 in
theorem gX5_shift_X5_moved : GoodIn wsX5_shift (wsV RX5 156 RX5 yX5_moved wsX5_moved) := goodIn_app (goodIn_of _ (by decide +kernel)) ggX5_shift_X5_moved
set_option maxRecDepth 20000 in
theorem ggX5_shift_X5_normOf : GoodIn wsX5_shift wsX5_normOf := goodIn_r _ [85, 1, 2, 21, 17, 18, 19, 6, 20, 30, 31, 32, 33, 86, 87, 88, 89, 90, 61, 62, 63, 64, 34, 35, 36, 37, 38, 39, 40, 41, 42, 91, 92, 93, 94, 26, 27, 28, 29, 71, 72, 73, 95, 96, 97, 98, 99, 100, 101, 102, 103, 104] (by decide +kernel) (by decide +kernel)
set_option maxRecDepth 20000 in
theorem gX5_shift_X5_normOf : GoodIn wsX5_shift (wsV RX5 117 RX5 yX5_normOf wsX5_normOf) := goodIn_app (goodIn_of _ (by decide +kernel)) ggX5_shift_X5_normOf
set_option maxRecDepth 20000 in
theorem ggX5_shift_X5_copy : GoodIn wsX5_shift wsX5_copy := goodIn_r _ [20, 21, 2, 95, 96, 97, 98, 99, 100, 101, 102, 103, 104] (by decide +kernel) (by decide +kernel)
set_option maxRecDepth 20000 in
theorem gX5_shift_X5_copy : GoodIn wsX5_shift (wsV RX5 97 RX5 yX5_copy wsX5_copy) := goodIn_app (goodIn_of _ (by decide +kernel)) ggX5_shift_X5_copy
set_option maxRecDepth 20000 in
theorem ggX5_shift_X5_slope : GoodIn wsX5_shift wsX5_slope := goodIn_r _ [25, 2, 21, 26, 27, 28, 6, 29, 30, 31, 32, 33, 34, 35, 36, 37, 38, 1, 39, 40, 41, 42, 43, 44, 45, 46, 95, 96, 97, 98, 99, 100, 101, 102, 103, 104] (by decide +kernel) (by decide +kernel)
set_option maxRecDepth 20000 in
theorem gX5_shift_X5_slope : GoodIn wsX5_shift (wsV RX5 120 RX5 yX5_slope wsX5_slope) := goodIn_app (goodIn_of _ (by decide +kernel)) ggX5_shift_X5_slope
set_option maxRecDepth 20000 in
theorem ggX5_shift_X5_divisor : GoodIn wsX5_shift wsX5_divisor := goodIn_r _ [50, 2, 51, 52, 53, 6, 54, 21, 26, 27, 28, 29, 30, 31, 32, 33, 55, 56, 57, 58, 59, 60, 61, 62, 63, 64, 34, 35, 36, 37, 38, 1, 39, 40, 41, 42, 65, 66, 67, 68, 69, 70, 71, 72, 73, 43, 44, 45, 46, 17, 18, 19, 20, 74, 75, 76, 77, 95, 96, 97, 98, 99, 100, 101, 102, 103, 104] (by decide +kernel) (by decide +kernel)
set_option maxRecDepth 20000 in
theorem gX5_shift_X5_divisor : GoodIn wsX5_shift (wsV RX5 123 RX5 yX5_divisor wsX5_divisor) := goodIn_app (goodIn_of _ (by decide +kernel)) ggX5_shift_X5_divisor
set_option maxRecDepth 20000 in
theorem ggX5_factors_X5_isNothing : GoodIn wsX5_factors wsX5_isNothing := goodIn_r _ [6, 7, 113, 114, 115, 116, 117, 118, 119, 120, 121, 122] (by decide +kernel) (by decide +kernel)
set_option maxRecDepth 20000 in
theorem gX5_factors_X5_isNothing : GoodIn wsX5_factors (wsV RX5 152 RX5 yX5_isNothing wsX5_isNothing) := goodIn_app (goodIn_of _ (by decide +kernel)) ggX5_factors_X5_isNothing
set_option maxRecDepth 20000 in
theorem ggX5_factors_X5_fails : GoodIn wsX5_factors wsX5_fails := goodIn_r _ [11, 12, 113, 114, 115, 116, 117, 118, 119, 120, 121, 122] (by decide +kernel) (by decide +kernel)
set_option maxRecDepth 20000 in
theorem gX5_factors_X5_fails : GoodIn wsX5_factors (wsV RX5 61 RX5 yX5_fails wsX5_fails) := goodIn_app (goodIn_of _ (by decide +kernel)) ggX5_factors_X5_fails
set_option maxRecDepth 20000 in
theorem ggX5_factors_X5_factorise : GoodIn wsX5_factors wsX5_factorise := goodIn_r _ [16, 17, 1, 18, 7, 19, 20, 21, 5, 22, 23, 24, 25, 26, 27, 28, 29, 30, 31, 32, 33, 34, 35, 36, 37, 38, 39, 40, 41, 42, 43, 44, 45, 46, 47, 48, 49, 50, 51, 52, 53, 54, 55, 56, 57, 58, 59, 60, 61, 62, 63, 64, 65, 66, 67, 68, 69, 70, 71, 72, 73, 74, 75, 76, 77, 78, 79, 80, 81, 82, 83, 84, 85, 86, 87, 88, 89, 90, 91, 92, 93, 94, 95, 96, 97, 98, 99, 100, 101, 102, 103, 104, 105, 106, 107, 108, 109, 110, 111, 112, 113, 114, 115, 116, 117, 118, 119, 120, 121, 122] (by decide +kernel) (by decide +kernel)
set_option maxRecDepth 20000 in
theorem gX5_factors_X5_factorise : GoodIn wsX5_factors (wsV RX5 159 RX5 yX5_factorise wsX5_factorise) := goodIn_app (goodIn_of _ (by decide +kernel)) ggX5_factors_X5_factorise
set_option maxRecDepth 20000 in
theorem ggX5_lacks_X5_isNothing : GoodIn wsX5_lacks wsX5_isNothing := goodIn_r _ [6, 7, 108, 109, 110, 111, 112, 113, 114, 115, 116, 117] (by decide +kernel) (by decide +kernel)
set_option maxRecDepth 20000 in
theorem gX5_lacks_X5_isNothing : GoodIn wsX5_lacks (wsV RX5 152 RX5 yX5_isNothing wsX5_isNothing) := goodIn_app (goodIn_of _ (by decide +kernel)) ggX5_lacks_X5_isNothing
set_option maxRecDepth 20000 in
theorem ggX5_lacks_X5_factorise : GoodIn wsX5_lacks wsX5_factorise := goodIn_r _ [11, 12, 1, 13, 7, 14, 15, 16, 5, 17, 18, 19, 20, 21, 22, 23, 24, 25, 26, 27, 28, 29, 30, 31, 32, 33, 34, 35, 36, 37, 38, 39, 40, 41, 42, 43, 44, 45, 46, 47, 48, 49, 50, 51, 52, 53, 54, 55, 56, 57, 58, 59, 60, 61, 62, 63, 64, 65, 66, 67, 68, 69, 70, 71, 72, 73, 74, 75, 76, 77, 78, 79, 80, 81, 82, 83, 84, 85, 86, 87, 88, 89, 90, 91, 92, 93, 94, 95, 96, 97, 98, 99, 100, 101, 102, 103, 104, 105, 106, 107, 108, 109, 110, 111, 112, 113, 114, 115, 116, 117] (by decide +kernel) (by decide +kernel)
set_option maxRecDepth 20000 in
theorem gX5_lacks_X5_factorise : GoodIn wsX5_lacks (wsV RX5 159 RX5 yX5_factorise wsX5_factorise) := goodIn_app (goodIn_of _ (by decide +kernel)) ggX5_lacks_X5_factorise
set_option maxRecDepth 20000 in
theorem ggX5_factor_X5_isNothing : GoodIn wsX5_factor wsX5_isNothing := goodIn_r _ [5, 6, 121, 122, 123, 124, 125, 126, 127, 128, 129, 130] (by decide +kernel) (by decide +kernel)
set_option maxRecDepth 20000 in
theorem gX5_factor_X5_isNothing : GoodIn wsX5_factor (wsV RX5 152 RX5 yX5_isNothing wsX5_isNothing) := goodIn_app (goodIn_of _ (by decide +kernel)) ggX5_factor_X5_isNothing
set_option maxRecDepth 20000 in
theorem ggX5_factor_X5_lacks : GoodIn wsX5_factor wsX5_lacks := goodIn_r _ [10, 11, 1, 2, 3, 4, 5, 6, 12, 13, 14, 15, 16, 17, 18, 19, 20, 21, 22, 23, 24, 25, 26, 27, 28, 29, 30, 31, 32, 33, 34, 35, 36, 37, 38, 39, 40, 41, 42, 43, 44, 45, 46, 47, 48, 49, 50, 51, 52, 53, 54, 55, 56, 57, 58, 59, 60, 61, 62, 63, 64, 65, 66, 67, 68, 69, 70, 71, 72, 73, 74, 75, 76, 77, 78, 79, 80, 81, 82, 83, 84, 85, 86, 87, 88, 89, 90, 91, 92, 93, 94, 95, 96, 97, 98, 99, 100, 101, 102, 103, 104, 105, 106, 107, 108, 109, 110, 111, 121, 122, 123, 124, 125, 126, 127, 128, 129, 130] (by decide +kernel) (by decide +kernel)
set_option maxRecDepth 20000 in
theorem gX5_factor_X5_lacks : GoodIn wsX5_factor (wsV RX5 162 RX5 yX5_lacks wsX5_lacks) := goodIn_app (goodIn_of _ (by decide +kernel)) ggX5_factor_X5_lacks
set_option maxRecDepth 20000 in
theorem ggX5_factor_X5_isPower : GoodIn wsX5_factor wsX5_isPower := goodIn_r _ [115] (by decide +kernel) (by decide +kernel)
set_option maxRecDepth 20000 in
theorem gX5_factor_X5_isPower : GoodIn wsX5_factor (wsV RX5 107 RX5 yX5_isPower wsX5_isPower) := goodIn_app (goodIn_of _ (by decide +kernel)) ggX5_factor_X5_isPower
set_option maxRecDepth 20000 in
theorem ggX5_factor_X5_fails : GoodIn wsX5_factor wsX5_fails := goodIn_r _ [119, 120, 121, 122, 123, 124, 125, 126, 127, 128, 129, 130] (by decide +kernel) (by decide +kernel)
set_option maxRecDepth 20000 in
theorem gX5_factor_X5_fails : GoodIn wsX5_factor (wsV RX5 61 RX5 yX5_fails wsX5_fails) := goodIn_app (goodIn_of _ (by decide +kernel)) ggX5_factor_X5_fails
set_option maxRecDepth 20000 in
theorem ggX5_factor_X5_cell : GoodIn wsX5_factor wsX5_cell := goodIn_r _ [38, 26, 121, 122, 123, 124, 125, 126, 127, 128, 129, 130] (by decide +kernel) (by decide +kernel)
set_option maxRecDepth 20000 in
theorem gX5_factor_X5_cell : GoodIn wsX5_factor (wsV RX5 81 RX5 yX5_cell wsX5_cell) := goodIn_app (goodIn_of _ (by decide +kernel)) ggX5_factor_X5_cell
set_option maxRecDepth 20000 in
theorem ggX5_often_X5_isNothing : GoodIn wsX5_often wsX5_isNothing := goodIn_r _ [6, 7, 117, 118, 119, 120, 121, 122, 123, 124, 125, 126] (by decide +kernel) (by decide +kernel)
set_option maxRecDepth 20000 in
theorem gX5_often_X5_isNothing : GoodIn wsX5_often (wsV RX5 152 RX5 yX5_isNothing wsX5_isNothing) := goodIn_app (goodIn_of _ (by decide +kernel)) ggX5_often_X5_isNothing
set_option maxRecDepth 20000 in
theorem ggX5_often_X5_lacks : GoodIn wsX5_often wsX5_lacks := goodIn_r _ [11, 12, 2, 3, 4, 5, 6, 7, 13, 14, 15, 16, 17, 1, 18, 19, 20, 21, 22, 23, 24, 25, 26, 27, 28, 29, 30, 31, 32, 33, 34, 35, 36, 37, 38, 39, 40, 41, 42, 43, 44, 45, 46, 47, 48, 49, 50, 51, 52, 53, 54, 55, 56, 57, 58, 59, 60, 61, 62, 63, 64, 65, 66, 67, 68, 69, 70, 71, 72, 73, 74, 75, 76, 77, 78, 79, 80, 81, 82, 83, 84, 85, 86, 87, 88, 89, 90, 91, 92, 93, 94, 95, 96, 97, 98, 99, 100, 101, 102, 103, 104, 105, 106, 107, 108, 109, 110, 111, 117, 118, 119, 120, 121, 122, 123, 124, 125, 126] (by decide +kernel) (by decide +kernel)
set_option maxRecDepth 20000 in
theorem gX5_often_X5_lacks : GoodIn wsX5_often (wsV RX5 162 RX5 yX5_lacks wsX5_lacks) := goodIn_app (goodIn_of _ (by decide +kernel)) ggX5_often_X5_lacks
set_option maxRecDepth 20000 in
theorem ggX5_often_X5_fails : GoodIn wsX5_often wsX5_fails := goodIn_r _ [115, 116, 117, 118, 119, 120, 121, 122, 123, 124, 125, 126] (by decide +kernel) (by decide +kernel)
set_option maxRecDepth 20000 in
theorem gX5_often_X5_fails : GoodIn wsX5_often (wsV RX5 61 RX5 yX5_fails wsX5_fails) := goodIn_app (goodIn_of _ (by decide +kernel)) ggX5_often_X5_fails
set_option maxRecDepth 20000 in
theorem ggX5_splitting_X5_isNothing : GoodIn wsX5_splitting wsX5_isNothing := goodIn_r _ [7, 2, 113, 114, 115, 116, 117, 118, 119, 120, 121, 122] (by decide +kernel) (by decide +kernel)
set_option maxRecDepth 20000 in
theorem gX5_splitting_X5_isNothing : GoodIn wsX5_splitting (wsV RX5 152 RX5 yX5_isNothing wsX5_isNothing) := goodIn_app (goodIn_of _ (by decide +kernel)) ggX5_splitting_X5_isNothing
set_option maxRecDepth 20000 in
theorem ggX5_splitting_X5_fails : GoodIn wsX5_splitting wsX5_fails := goodIn_r _ [11, 12, 113, 114, 115, 116, 117, 118, 119, 120, 121, 122] (by decide +kernel) (by decide +kernel)
set_option maxRecDepth 20000 in
theorem gX5_splitting_X5_fails : GoodIn wsX5_splitting (wsV RX5 61 RX5 yX5_fails wsX5_fails) := goodIn_app (goodIn_of _ (by decide +kernel)) ggX5_splitting_X5_fails
set_option maxRecDepth 20000 in
theorem ggX5_splitting_X5_factorise : GoodIn wsX5_splitting wsX5_factorise := goodIn_r _ [16, 17, 1, 18, 2, 19, 20, 21, 6, 22, 23, 24, 25, 26, 27, 28, 29, 30, 31, 32, 33, 34, 35, 36, 37, 38, 39, 40, 41, 42, 43, 44, 45, 46, 47, 48, 49, 50, 51, 52, 53, 54, 55, 56, 57, 58, 59, 60, 61, 62, 63, 64, 65, 66, 67, 68, 69, 70, 71, 72, 73, 74, 75, 76, 77, 78, 79, 80, 81, 82, 83, 84, 85, 86, 87, 88, 89, 90, 91, 92, 93, 94, 95, 96, 97, 98, 99, 100, 101, 102, 103, 104, 105, 106, 107, 108, 109, 110, 111, 112, 113, 114, 115, 116, 117, 118, 119, 120, 121, 122] (by decide +kernel) (by decide +kernel)
set_option maxRecDepth 20000 in
theorem gX5_splitting_X5_factorise : GoodIn wsX5_splitting (wsV RX5 159 RX5 yX5_factorise wsX5_factorise) := goodIn_app (goodIn_of _ (by decide +kernel)) ggX5_splitting_X5_factorise
set_option maxRecDepth 20000 in
theorem ggX5_move_X5_isElement : GoodIn wsX5_move wsX5_isElement := goodIn_r _ [6, 7, 48, 49, 50, 51, 52, 53, 54, 55, 56, 57] (by decide +kernel) (by decide +kernel)
set_option maxRecDepth 20000 in
theorem gX5_move_X5_isElement : GoodIn wsX5_move (wsV RX5 111 RX5 yX5_isElement wsX5_isElement) := goodIn_app (goodIn_of _ (by decide +kernel)) ggX5_move_X5_isElement
set_option maxRecDepth 20000 in
theorem ggX5_move_X5_fails : GoodIn wsX5_move wsX5_fails := goodIn_r _ [11, 12, 48, 49, 50, 51, 52, 53, 54, 55, 56, 57] (by decide +kernel) (by decide +kernel)
set_option maxRecDepth 20000 in
theorem gX5_move_X5_fails : GoodIn wsX5_move (wsV RX5 61 RX5 yX5_fails wsX5_fails) := goodIn_app (goodIn_of _ (by decide +kernel)) ggX5_move_X5_fails
set_option maxRecDepth 20000 in
theorem ggX5_move_X5_moved : GoodIn wsX5_move wsX5_moved := goodIn_r _ [16, 17, 18, 19, 20, 21, 5, 22, 23, 24, 25, 26, 27, 28, 29, 30, 31, 32, 33, 34, 35, 36, 37, 38, 39, 40, 41, 42, 43, 48, 49, 50, 51, 52, 53, 54, 55, 56, 57] (by decide +kernel) (by decide +kernel)
set_option maxRecDepth 20000 in
theorem gX5_move_X5_moved : GoodIn wsX5_move (wsV RX5 156 RX5 yX5_moved wsX5_moved) := goodIn_app (goodIn_of _ (by decide +kernel)) ggX5_move_X5_moved
set_option maxRecDepth 20000 in
theorem ggX5_move_X5_copy : GoodIn wsX5_move wsX5_copy := goodIn_r _ [47, 18, 17, 48, 49, 50, 51, 52, 53, 54, 55, 56, 57] (by decide +kernel) (by decide +kernel)
set_option maxRecDepth 20000 in
theorem gX5_move_X5_copy : GoodIn wsX5_move (wsV RX5 97 RX5 yX5_copy wsX5_copy) := goodIn_app (goodIn_of _ (by decide +kernel)) ggX5_move_X5_copy
set_option maxRecDepth 20000 in
theorem ggX5_take_X5_isNothing : GoodIn wsX5_take wsX5_isNothing := goodIn_r _ [6, 7, 117, 118, 119, 120, 121, 122, 123, 124, 125, 126] (by decide +kernel) (by decide +kernel)
set_option maxRecDepth 20000 in
theorem gX5_take_X5_isNothing : GoodIn wsX5_take (wsV RX5 152 RX5 yX5_isNothing wsX5_isNothing) := goodIn_app (goodIn_of _ (by decide +kernel)) ggX5_take_X5_isNothing
set_option maxRecDepth 20000 in
theorem ggX5_take_X5_lacks : GoodIn wsX5_take wsX5_lacks := goodIn_r _ [11, 12, 2, 3, 4, 5, 6, 7, 13, 14, 15, 16, 1, 17, 18, 19, 20, 21, 22, 23, 24, 25, 26, 27, 28, 29, 30, 31, 32, 33, 34, 35, 36, 37, 38, 39, 40, 41, 42, 43, 44, 45, 46, 47, 48, 49, 50, 51, 52, 53, 54, 55, 56, 57, 58, 59, 60, 61, 62, 63, 64, 65, 66, 67, 68, 69, 70, 71, 72, 73, 74, 75, 76, 77, 78, 79, 80, 81, 82, 83, 84, 85, 86, 87, 88, 89, 90, 91, 92, 93, 94, 95, 96, 97, 98, 99, 100, 101, 102, 103, 104, 105, 106, 107, 108, 109, 110, 111, 117, 118, 119, 120, 121, 122, 123, 124, 125, 126] (by decide +kernel) (by decide +kernel)
set_option maxRecDepth 20000 in
theorem gX5_take_X5_lacks : GoodIn wsX5_take (wsV RX5 162 RX5 yX5_lacks wsX5_lacks) := goodIn_app (goodIn_of _ (by decide +kernel)) ggX5_take_X5_lacks
set_option maxRecDepth 20000 in
theorem ggX5_take_X5_fails : GoodIn wsX5_take wsX5_fails := goodIn_r _ [115, 116, 117, 118, 119, 120, 121, 122, 123, 124, 125, 126] (by decide +kernel) (by decide +kernel)
set_option maxRecDepth 20000 in
theorem gX5_take_X5_fails : GoodIn wsX5_take (wsV RX5 61 RX5 yX5_fails wsX5_fails) := goodIn_app (goodIn_of _ (by decide +kernel)) ggX5_take_X5_fails
set_option maxRecDepth 20000 in
theorem ggX5_take_X5_copy : GoodIn wsX5_take wsX5_copy := goodIn_r _ [25, 26, 7, 117, 118, 119, 120, 121, 122, 123, 124, 125, 126] (by decide +kernel) (by decide +kernel)
set_option maxRecDepth 20000 in
theorem gX5_take_X5_copy : GoodIn wsX5_take (wsV RX5 97 RX5 yX5_copy wsX5_copy) := goodIn_app (goodIn_of _ (by decide +kernel)) ggX5_take_X5_copy
