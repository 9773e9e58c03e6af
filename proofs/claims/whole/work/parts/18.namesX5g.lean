set_option maxRecDepth 20000 in
theorem ggX5_less_X5_negative : GoodIn wsX5_less wsX5_negative := goodIn_r _ [4] (by decide +kernel) (by decide +kernel)
set_option maxRecDepth 20000 in
theorem gX5_less_X5_negative : GoodIn wsX5_less (va_wsS RX5 38 yX5_negative wsX5_negative) := goodIn_app (goodIn_of _ (by decide +kernel)) ggX5_less_X5_negative
set_option maxRecDepth 20000 in
theorem ggX5_less_X5_add : GoodIn wsX5_less wsX5_add := goodIn_r _ [7] (by decide +kernel) (by decide +kernel)
set_option maxRecDepth 20000 in
theorem gX5_less_X5_add : GoodIn wsX5_less (va_wsS RX5 42 yX5_add wsX5_add) := goodIn_app (goodIn_of _ (by decide +kernel)) ggX5_less_X5_add
set_option maxRecDepth 20000 in
theorem ggX5_times_X5_digit : GoodIn wsX5_times wsX5_digit := goodIn_r _ [7] (by decide +kernel) (by decide +kernel)
set_option maxRecDepth 20000 in
theorem gX5_times_X5_digit : GoodIn wsX5_times (va_wsS RX5 46 yX5_digit wsX5_digit) := goodIn_app (goodIn_of _ (by decide +kernel)) ggX5_times_X5_digit
set_option maxRecDepth 20000 in
theorem ggX5_power_X5_times : GoodIn wsX5_power wsX5_times := goodIn_r _ [5, 6, 7, 8, 9, 10, 4, 11, 12, 13, 14, 15, 16, 17, 18, 19, 20, 21] (by decide +kernel) (by decide +kernel)
set_option maxRecDepth 20000 in
theorem gX5_power_X5_times : GoodIn wsX5_power (wsV RX5 49 RX5 yX5_times wsX5_times) := goodIn_app (goodIn_of _ (by decide +kernel)) ggX5_power_X5_times
set_option maxRecDepth 20000 in
theorem ggX5_inverse_X5_power : GoodIn wsX5_inverse wsX5_power := goodIn_r _ [7, 8, 9, 10, 6, 11, 12, 13, 14, 15, 16, 17, 18, 19, 20, 21, 22, 23, 24, 25, 26, 27] (by decide +kernel) (by decide +kernel)
set_option maxRecDepth 20000 in
theorem gX5_inverse_X5_power : GoodIn wsX5_inverse (wsV RX5 54 RX5 yX5_power wsX5_power) := goodIn_app (goodIn_of _ (by decide +kernel)) ggX5_inverse_X5_power
set_option maxRecDepth 20000 in
theorem ggX5_mate_X5_power : GoodIn wsX5_mate wsX5_power := goodIn_r _ [6, 7, 8, 9, 5, 10, 11, 12, 13, 14, 15, 16, 17, 18, 19, 20, 21, 22, 23, 24, 25, 26] (by decide +kernel) (by decide +kernel)
set_option maxRecDepth 20000 in
theorem gX5_mate_X5_power : GoodIn wsX5_mate (wsV RX5 54 RX5 yX5_power wsX5_power) := goodIn_app (goodIn_of _ (by decide +kernel)) ggX5_mate_X5_power
set_option maxRecDepth 20000 in
theorem ggX5_mates_X5_mate : GoodIn wsX5_mates wsX5_mate := goodIn_r _ [6, 7, 8, 9, 10, 5, 11, 12, 13, 14, 15, 16, 1, 17, 18, 19, 20, 21, 22, 23, 24, 25, 26, 27, 28, 29, 30] (by decide +kernel) (by decide +kernel)
set_option maxRecDepth 20000 in
theorem gX5_mates_X5_mate : GoodIn wsX5_mates (wsV RX5 58 RX5 yX5_mate wsX5_mate) := goodIn_app (goodIn_of _ (by decide +kernel)) ggX5_mates_X5_mate
set_option maxRecDepth 20000 in
theorem ggX5_field_X5_fails : GoodIn wsX5_field wsX5_fails := goodIn_r _ [12, 13, 23, 24, 25, 26, 27, 28, 29, 30, 31, 32] (by decide +kernel) (by decide +kernel)
set_option maxRecDepth 20000 in
theorem gX5_field_X5_fails : GoodIn wsX5_field (wsV RX5 61 RX5 yX5_fails wsX5_fails) := goodIn_app (goodIn_of _ (by decide +kernel)) ggX5_field_X5_fails
set_option maxRecDepth 20000 in
theorem ggX5_field_X5_number : GoodIn wsX5_field wsX5_number := goodIn_r _ [16, 2] (by decide +kernel) (by decide +kernel)
set_option maxRecDepth 20000 in
theorem gX5_field_X5_number : GoodIn wsX5_field (va_wsS RX5 65 yX5_number wsX5_number) := goodIn_app (goodIn_of _ (by decide +kernel)) ggX5_field_X5_number
set_option maxRecDepth 20000 in
theorem ggX5_field_X5_clear : GoodIn wsX5_field wsX5_clear := goodIn_r _ [20, 21, 22, 23, 24, 25, 26, 27, 28, 29, 30, 31, 32] (by decide +kernel) (by decide +kernel)
set_option maxRecDepth 20000 in
theorem gX5_field_X5_clear : GoodIn wsX5_field (wsV RX5 73 RX5 yX5_clear wsX5_clear) := goodIn_app (goodIn_of _ (by decide +kernel)) ggX5_field_X5_clear
set_option maxRecDepth 20000 in
theorem ggX5_modulus_X5_fails : GoodIn wsX5_modulus wsX5_fails := goodIn_r _ [6, 7, 8, 9, 10, 11, 12, 13, 14, 15, 16, 17] (by decide +kernel) (by decide +kernel)
set_option maxRecDepth 20000 in
theorem gX5_modulus_X5_fails : GoodIn wsX5_modulus (wsV RX5 61 RX5 yX5_fails wsX5_fails) := goodIn_app (goodIn_of _ (by decide +kernel)) ggX5_modulus_X5_fails
set_option maxRecDepth 20000 in
theorem ggX5_product_X5_clear : GoodIn wsX5_product wsX5_clear := goodIn_r _ [7, 2, 1, 25, 26, 27, 28, 29, 30, 31, 32, 33, 34] (by decide +kernel) (by decide +kernel)
set_option maxRecDepth 20000 in
theorem gX5_product_X5_clear : GoodIn wsX5_product (wsV RX5 73 RX5 yX5_clear wsX5_clear) := goodIn_app (goodIn_of _ (by decide +kernel)) ggX5_product_X5_clear
set_option maxRecDepth 20000 in
theorem ggX5_product_X5_cell : GoodIn wsX5_product wsX5_cell := goodIn_r _ [11, 2, 25, 26, 27, 28, 29, 30, 31, 32, 33, 34] (by decide +kernel) (by decide +kernel)
set_option maxRecDepth 20000 in
theorem gX5_product_X5_cell : GoodIn wsX5_product (wsV RX5 81 RX5 yX5_cell wsX5_cell) := goodIn_app (goodIn_of _ (by decide +kernel)) ggX5_product_X5_cell
set_option maxRecDepth 20000 in
theorem ggX5_product_X5_times : GoodIn wsX5_product wsX5_times := goodIn_r _ [15, 16, 17, 18, 19, 20, 6, 21, 25, 26, 27, 28, 29, 30, 31, 32, 33, 34] (by decide +kernel) (by decide +kernel)
set_option maxRecDepth 20000 in
theorem gX5_product_X5_times : GoodIn wsX5_product (wsV RX5 49 RX5 yX5_times wsX5_times) := goodIn_app (goodIn_of _ (by decide +kernel)) ggX5_product_X5_times
set_option maxRecDepth 20000 in
theorem ggX5_product_X5_add : GoodIn wsX5_product wsX5_add := goodIn_r _ [24] (by decide +kernel) (by decide +kernel)
set_option maxRecDepth 20000 in
theorem gX5_product_X5_add : GoodIn wsX5_product (va_wsS RX5 42 yX5_add wsX5_add) := goodIn_app (goodIn_of _ (by decide +kernel)) ggX5_product_X5_add
set_option maxRecDepth 20000 in
theorem ggX5_divide_X5_clear : GoodIn wsX5_divide wsX5_clear := goodIn_r _ [7, 2, 1, 45, 46, 47, 48, 49, 50, 51, 52, 53, 54] (by decide +kernel) (by decide +kernel)
set_option maxRecDepth 20000 in
theorem gX5_divide_X5_clear : GoodIn wsX5_divide (wsV RX5 73 RX5 yX5_clear wsX5_clear) := goodIn_app (goodIn_of _ (by decide +kernel)) ggX5_divide_X5_clear
set_option maxRecDepth 20000 in
theorem ggX5_divide_X5_cell : GoodIn wsX5_divide wsX5_cell := goodIn_r _ [11, 2, 45, 46, 47, 48, 49, 50, 51, 52, 53, 54] (by decide +kernel) (by decide +kernel)
set_option maxRecDepth 20000 in
theorem gX5_divide_X5_cell : GoodIn wsX5_divide (wsV RX5 81 RX5 yX5_cell wsX5_cell) := goodIn_app (goodIn_of _ (by decide +kernel)) ggX5_divide_X5_cell
set_option maxRecDepth 20000 in
theorem ggX5_divide_X5_inverse : GoodIn wsX5_divide wsX5_inverse := goodIn_r _ [15, 16, 17, 18, 19, 20, 6, 21, 22, 23, 24, 25, 26, 27, 28, 29, 30, 31, 45, 46, 47, 48, 49, 50, 51, 52, 53, 54] (by decide +kernel) (by decide +kernel)
set_option maxRecDepth 20000 in
theorem gX5_divide_X5_inverse : GoodIn wsX5_divide (wsV RX5 84 RX5 yX5_inverse wsX5_inverse) := goodIn_app (goodIn_of _ (by decide +kernel)) ggX5_divide_X5_inverse
set_option maxRecDepth 20000 in
theorem ggX5_divide_X5_times : GoodIn wsX5_divide wsX5_times := goodIn_r _ [25, 26, 27, 28, 29, 30, 6, 31, 45, 46, 47, 48, 49, 50, 51, 52, 53, 54] (by decide +kernel) (by decide +kernel)
set_option maxRecDepth 20000 in
theorem gX5_divide_X5_times : GoodIn wsX5_divide (wsV RX5 49 RX5 yX5_times wsX5_times) := goodIn_app (goodIn_of _ (by decide +kernel)) ggX5_divide_X5_times
set_option maxRecDepth 20000 in
theorem ggX5_divide_X5_less : GoodIn wsX5_divide wsX5_less := goodIn_r _ [34, 35, 36, 6, 37, 38, 39, 40] (by decide +kernel) (by decide +kernel)
set_option maxRecDepth 20000 in
theorem gX5_divide_X5_less : GoodIn wsX5_divide (va_wsS RX5 87 yX5_less wsX5_less) := goodIn_app (goodIn_of _ (by decide +kernel)) ggX5_divide_X5_less
set_option maxRecDepth 20000 in
theorem ggX5_divide_X5_set : GoodIn wsX5_divide wsX5_set := goodIn_r _ [44, 2, 1, 45, 46, 47, 48, 49, 50, 51, 52, 53, 54] (by decide +kernel) (by decide +kernel)
set_option maxRecDepth 20000 in
theorem gX5_divide_X5_set : GoodIn wsX5_divide (wsV RX5 90 RX5 yX5_set wsX5_set) := goodIn_app (goodIn_of _ (by decide +kernel)) ggX5_divide_X5_set
set_option maxRecDepth 20000 in
theorem ggX5_monic_X5_cell : GoodIn wsX5_monic wsX5_cell := goodIn_r _ [7, 2, 28, 29, 30, 31, 32, 33, 34, 35, 36, 37] (by decide +kernel) (by decide +kernel)
set_option maxRecDepth 20000 in
theorem gX5_monic_X5_cell : GoodIn wsX5_monic (wsV RX5 81 RX5 yX5_cell wsX5_cell) := goodIn_app (goodIn_of _ (by decide +kernel)) ggX5_monic_X5_cell
set_option maxRecDepth 20000 in
theorem ggX5_monic_X5_inverse : GoodIn wsX5_monic wsX5_inverse := goodIn_r _ [11, 12, 13, 14, 15, 16, 6, 17, 18, 19, 20, 21, 22, 23, 24, 25, 26, 27, 28, 29, 30, 31, 32, 33, 34, 35, 36, 37] (by decide +kernel) (by decide +kernel)
set_option maxRecDepth 20000 in
theorem gX5_monic_X5_inverse : GoodIn wsX5_monic (wsV RX5 84 RX5 yX5_inverse wsX5_inverse) := goodIn_app (goodIn_of _ (by decide +kernel)) ggX5_monic_X5_inverse
set_option maxRecDepth 20000 in
theorem ggX5_monic_X5_times : GoodIn wsX5_monic wsX5_times := goodIn_r _ [21, 22, 23, 24, 25, 26, 6, 27, 28, 29, 30, 31, 32, 33, 34, 35, 36, 37] (by decide +kernel) (by decide +kernel)
set_option maxRecDepth 20000 in
theorem gX5_monic_X5_times : GoodIn wsX5_monic (wsV RX5 49 RX5 yX5_times wsX5_times) := goodIn_app (goodIn_of _ (by decide +kernel)) ggX5_monic_X5_times
set_option maxRecDepth 20000 in
theorem ggX5_divisor_X5_divide : GoodIn wsX5_divisor wsX5_divide := goodIn_r _ [6, 1, 7, 8, 9, 10, 5, 11, 12, 13, 14, 15, 16, 17, 18, 19, 20, 21, 22, 23, 24, 25, 26, 27, 28, 29, 30, 31, 32, 33, 34, 35, 36, 37, 38, 39, 40, 41, 42, 43, 44, 45, 46, 47, 48, 57, 58, 59, 60, 61, 62, 63, 64, 65, 66] (by decide +kernel) (by decide +kernel)
set_option maxRecDepth 20000 in
theorem gX5_divisor_X5_divide : GoodIn wsX5_divisor (wsV RX5 94 RX5 yX5_divide wsX5_divide) := goodIn_app (goodIn_of _ (by decide +kernel)) ggX5_divisor_X5_divide
set_option maxRecDepth 20000 in
theorem ggX5_divisor_X5_copy : GoodIn wsX5_divisor wsX5_copy := goodIn_r _ [52, 7, 1, 57, 58, 59, 60, 61, 62, 63, 64, 65, 66] (by decide +kernel) (by decide +kernel)
set_option maxRecDepth 20000 in
theorem gX5_divisor_X5_copy : GoodIn wsX5_divisor (wsV RX5 97 RX5 yX5_copy wsX5_copy) := goodIn_app (goodIn_of _ (by decide +kernel)) ggX5_divisor_X5_copy
set_option maxRecDepth 20000 in
theorem ggX5_divisor_X5_monic : GoodIn wsX5_divisor wsX5_monic := goodIn_r _ [56, 1, 7, 12, 13, 14, 5, 15, 16, 17, 18, 19, 20, 21, 22, 23, 24, 25, 26, 27, 28, 29, 30, 31, 32, 33, 34, 35, 57, 58, 59, 60, 61, 62, 63, 64, 65, 66] (by decide +kernel) (by decide +kernel)
set_option maxRecDepth 20000 in
theorem gX5_divisor_X5_monic : GoodIn wsX5_divisor (wsV RX5 101 RX5 yX5_monic wsX5_monic) := goodIn_app (goodIn_of _ (by decide +kernel)) ggX5_divisor_X5_monic
set_option maxRecDepth 20000 in
theorem ggX5_slope_X5_clear : GoodIn wsX5_slope wsX5_clear := goodIn_r _ [7, 2, 1, 26, 27, 28, 29, 30, 31, 32, 33, 34, 35] (by decide +kernel) (by decide +kernel)
set_option maxRecDepth 20000 in
theorem gX5_slope_X5_clear : GoodIn wsX5_slope (wsV RX5 73 RX5 yX5_clear wsX5_clear) := goodIn_app (goodIn_of _ (by decide +kernel)) ggX5_slope_X5_clear
set_option maxRecDepth 20000 in
theorem ggX5_slope_X5_cell : GoodIn wsX5_slope wsX5_cell := goodIn_r _ [11, 2, 26, 27, 28, 29, 30, 31, 32, 33, 34, 35] (by decide +kernel) (by decide +kernel)
set_option maxRecDepth 20000 in
theorem gX5_slope_X5_cell : GoodIn wsX5_slope (wsV RX5 81 RX5 yX5_cell wsX5_cell) := goodIn_app (goodIn_of _ (by decide +kernel)) ggX5_slope_X5_cell
set_option maxRecDepth 20000 in
theorem ggX5_slope_X5_times : GoodIn wsX5_slope wsX5_times := goodIn_r _ [15, 16, 17, 18, 19, 20, 6, 21, 26, 27, 28, 29, 30, 31, 32, 33, 34, 35] (by decide +kernel) (by decide +kernel)
set_option maxRecDepth 20000 in
theorem gX5_slope_X5_times : GoodIn wsX5_slope (wsV RX5 49 RX5 yX5_times wsX5_times) := goodIn_app (goodIn_of _ (by decide +kernel)) ggX5_slope_X5_times
set_option maxRecDepth 20000 in
theorem ggX5_slope_X5_set : GoodIn wsX5_slope wsX5_set := goodIn_r _ [25, 2, 1, 26, 27, 28, 29, 30, 31, 32, 33, 34, 35] (by decide +kernel) (by decide +kernel)
set_option maxRecDepth 20000 in
theorem gX5_slope_X5_set : GoodIn wsX5_slope (wsV RX5 90 RX5 yX5_set wsX5_set) := goodIn_app (goodIn_of _ (by decide +kernel)) ggX5_slope_X5_set
set_option maxRecDepth 20000 in
theorem ggX5_powers_X5_clear : GoodIn wsX5_powers wsX5_clear := goodIn_r _ [5, 6, 7, 57, 58, 59, 60, 61, 62, 63, 64, 65, 66] (by decide +kernel) (by decide +kernel)
set_option maxRecDepth 20000 in
theorem gX5_powers_X5_clear : GoodIn wsX5_powers (wsV RX5 73 RX5 yX5_clear wsX5_clear) := goodIn_app (goodIn_of _ (by decide +kernel)) ggX5_powers_X5_clear
set_option maxRecDepth 20000 in
theorem ggX5_powers_X5_set : GoodIn wsX5_powers wsX5_set := goodIn_r _ [11, 6, 7, 57, 58, 59, 60, 61, 62, 63, 64, 65, 66] (by decide +kernel) (by decide +kernel)
set_option maxRecDepth 20000 in
theorem gX5_powers_X5_set : GoodIn wsX5_powers (wsV RX5 90 RX5 yX5_set wsX5_set) := goodIn_app (goodIn_of _ (by decide +kernel)) ggX5_powers_X5_set
set_option maxRecDepth 20000 in
theorem ggX5_powers_X5_copy : GoodIn wsX5_powers wsX5_copy := goodIn_r _ [15, 6, 7, 57, 58, 59, 60, 61, 62, 63, 64, 65, 66] (by decide +kernel) (by decide +kernel)
set_option maxRecDepth 20000 in
theorem gX5_powers_X5_copy : GoodIn wsX5_powers (wsV RX5 97 RX5 yX5_copy wsX5_copy) := goodIn_app (goodIn_of _ (by decide +kernel)) ggX5_powers_X5_copy
set_option maxRecDepth 20000 in
theorem ggX5_powers_X5_divide : GoodIn wsX5_powers wsX5_divide := goodIn_r _ [19, 7, 6, 1, 2, 3, 4, 5, 20, 21, 22, 23, 24, 25, 26, 27, 28, 29, 30, 31, 32, 33, 34, 35, 36, 37, 38, 39, 40, 41, 42, 43, 44, 45, 46, 47, 48, 49, 50, 51, 52, 8, 9, 10, 11, 57, 58, 59, 60, 61, 62, 63, 64, 65, 66] (by decide +kernel) (by decide +kernel)
set_option maxRecDepth 20000 in
theorem gX5_powers_X5_divide : GoodIn wsX5_powers (wsV RX5 94 RX5 yX5_divide wsX5_divide) := goodIn_app (goodIn_of _ (by decide +kernel)) ggX5_powers_X5_divide
set_option maxRecDepth 20000 in
theorem ggX5_powers_X5_product : GoodIn wsX5_powers wsX5_product := goodIn_r _ [56, 7, 6, 1, 2, 3, 4, 5, 20, 21, 22, 23, 34, 35, 36, 37, 38, 39, 40, 41, 42, 43, 50, 51, 52, 57, 58, 59, 60, 61, 62, 63, 64, 65, 66] (by decide +kernel) (by decide +kernel)
set_option maxRecDepth 20000 in
theorem gX5_powers_X5_product : GoodIn wsX5_powers (wsV RX5 104 RX5 yX5_product wsX5_product) := goodIn_app (goodIn_of _ (by decide +kernel)) ggX5_powers_X5_product
set_option maxRecDepth 20000 in
theorem ggX5_moved_X5_clear : GoodIn wsX5_moved wsX5_clear := goodIn_r _ [7, 2, 1, 29, 30, 31, 32, 33, 34, 35, 36, 37, 38] (by decide +kernel) (by decide +kernel)
set_option maxRecDepth 20000 in
theorem gX5_moved_X5_clear : GoodIn wsX5_moved (wsV RX5 73 RX5 yX5_clear wsX5_clear) := goodIn_app (goodIn_of _ (by decide +kernel)) ggX5_moved_X5_clear
set_option maxRecDepth 20000 in
theorem ggX5_moved_X5_times : GoodIn wsX5_moved wsX5_times := goodIn_r _ [11, 12, 13, 14, 15, 16, 6, 17, 29, 30, 31, 32, 33, 34, 35, 36, 37, 38] (by decide +kernel) (by decide +kernel)
set_option maxRecDepth 20000 in
theorem gX5_moved_X5_times : GoodIn wsX5_moved (wsV RX5 49 RX5 yX5_times wsX5_times) := goodIn_app (goodIn_of _ (by decide +kernel)) ggX5_moved_X5_times
set_option maxRecDepth 20000 in
theorem ggX5_moved_X5_add : GoodIn wsX5_moved wsX5_add := goodIn_r _ [20] (by decide +kernel) (by decide +kernel)
set_option maxRecDepth 20000 in
theorem gX5_moved_X5_add : GoodIn wsX5_moved (va_wsS RX5 42 yX5_add wsX5_add) := goodIn_app (goodIn_of _ (by decide +kernel)) ggX5_moved_X5_add
set_option maxRecDepth 20000 in
theorem ggX5_moved_X5_cell : GoodIn wsX5_moved wsX5_cell := goodIn_r _ [24, 2, 29, 30, 31, 32, 33, 34, 35, 36, 37, 38] (by decide +kernel) (by decide +kernel)
set_option maxRecDepth 20000 in
theorem gX5_moved_X5_cell : GoodIn wsX5_moved (wsV RX5 81 RX5 yX5_cell wsX5_cell) := goodIn_app (goodIn_of _ (by decide +kernel)) ggX5_moved_X5_cell
set_option maxRecDepth 20000 in
theorem ggX5_moved_X5_set : GoodIn wsX5_moved wsX5_set := goodIn_r _ [28, 2, 1, 29, 30, 31, 32, 33, 34, 35, 36, 37, 38] (by decide +kernel) (by decide +kernel)
set_option maxRecDepth 20000 in
theorem gX5_moved_X5_set : GoodIn wsX5_moved (wsV RX5 90 RX5 yX5_set wsX5_set) := goodIn_app (goodIn_of _ (by decide +kernel)) ggX5_moved_X5_set
set_option maxRecDepth 20000 in
theorem ggX5_normOf_X5_copy : GoodIn wsX5_normOf wsX5_copy := goodIn_r _ [8, 3, 2, 42, 43, 44, 45, 46, 47, 48, 49, 50, 51] (by decide +kernel) (by decide +kernel)
set_option maxRecDepth 20000 in
theorem gX5_normOf_X5_copy : GoodIn wsX5_normOf (wsV RX5 97 RX5 yX5_copy wsX5_copy) := goodIn_app (goodIn_of _ (by decide +kernel)) ggX5_normOf_X5_copy
set_option maxRecDepth 20000 in
theorem ggX5_normOf_X5_cell : GoodIn wsX5_normOf wsX5_cell := goodIn_r _ [12, 3, 42, 43, 44, 45, 46, 47, 48, 49, 50, 51] (by decide +kernel) (by decide +kernel)
set_option maxRecDepth 20000 in
theorem gX5_normOf_X5_cell : GoodIn wsX5_normOf (wsV RX5 81 RX5 yX5_cell wsX5_cell) := goodIn_app (goodIn_of _ (by decide +kernel)) ggX5_normOf_X5_cell
set_option maxRecDepth 20000 in
theorem ggX5_normOf_X5_mate : GoodIn wsX5_normOf wsX5_mate := goodIn_r _ [16, 17, 18, 19, 20, 7, 21, 22, 23, 24, 25, 26, 1, 27, 28, 29, 30, 42, 43, 44, 45, 46, 47, 48, 49, 50, 51] (by decide +kernel) (by decide +kernel)
set_option maxRecDepth 20000 in
theorem gX5_normOf_X5_mate : GoodIn wsX5_normOf (wsV RX5 58 RX5 yX5_mate wsX5_mate) := goodIn_app (goodIn_of _ (by decide +kernel)) ggX5_normOf_X5_mate
set_option maxRecDepth 20000 in
theorem ggX5_normOf_X5_product : GoodIn wsX5_normOf wsX5_product := goodIn_r _ [34, 2, 3, 35, 36, 37, 7, 38, 9, 10, 11, 12, 22, 23, 24, 25, 26, 1, 27, 28, 29, 30, 39, 40, 41, 42, 43, 44, 45, 46, 47, 48, 49, 50, 51] (by decide +kernel) (by decide +kernel)
set_option maxRecDepth 20000 in
theorem gX5_normOf_X5_product : GoodIn wsX5_normOf (wsV RX5 104 RX5 yX5_product wsX5_product) := goodIn_app (goodIn_of _ (by decide +kernel)) ggX5_normOf_X5_product
set_option maxRecDepth 20000 in
theorem ggX5_put_X5_isPower : GoodIn wsX5_put wsX5_isPower := goodIn_r _ [6] (by decide +kernel) (by decide +kernel)
set_option maxRecDepth 20000 in
theorem gX5_put_X5_isPower : GoodIn wsX5_put (wsV RX5 107 RX5 yX5_isPower wsX5_isPower) := goodIn_app (goodIn_of _ (by decide +kernel)) ggX5_put_X5_isPower
set_option maxRecDepth 20000 in
theorem ggX5_put_X5_isElement : GoodIn wsX5_put wsX5_isElement := goodIn_r _ [10, 11, 27, 28, 29, 30, 31, 32, 33, 34, 35, 36] (by decide +kernel) (by decide +kernel)
set_option maxRecDepth 20000 in
theorem gX5_put_X5_isElement : GoodIn wsX5_put (wsV RX5 111 RX5 yX5_isElement wsX5_isElement) := goodIn_app (goodIn_of _ (by decide +kernel)) ggX5_put_X5_isElement
set_option maxRecDepth 20000 in
theorem ggX5_put_X5_fails : GoodIn wsX5_put wsX5_fails := goodIn_r _ [15, 16, 27, 28, 29, 30, 31, 32, 33, 34, 35, 36] (by decide +kernel) (by decide +kernel)
set_option maxRecDepth 20000 in
theorem gX5_put_X5_fails : GoodIn wsX5_put (wsV RX5 61 RX5 yX5_fails wsX5_fails) := goodIn_app (goodIn_of _ (by decide +kernel)) ggX5_put_X5_fails
set_option maxRecDepth 20000 in
theorem ggX5_put_X5_cell : GoodIn wsX5_put wsX5_cell := goodIn_r _ [20, 21, 27, 28, 29, 30, 31, 32, 33, 34, 35, 36] (by decide +kernel) (by decide +kernel)
set_option maxRecDepth 20000 in
theorem gX5_put_X5_cell : GoodIn wsX5_put (wsV RX5 81 RX5 yX5_cell wsX5_cell) := goodIn_app (goodIn_of _ (by decide +kernel)) ggX5_put_X5_cell
set_option maxRecDepth 20000 in
theorem ggX5_put_X5_set : GoodIn wsX5_put wsX5_set := goodIn_r _ [25, 21, 26, 27, 28, 29, 30, 31, 32, 33, 34, 35, 36] (by decide +kernel) (by decide +kernel)
set_option maxRecDepth 20000 in
theorem gX5_put_X5_set : GoodIn wsX5_put (wsV RX5 90 RX5 yX5_set wsX5_set) := goodIn_app (goodIn_of _ (by decide +kernel)) ggX5_put_X5_set
set_option maxRecDepth 20000 in
theorem ggX5_at_X5_isPower : GoodIn wsX5_at wsX5_isPower := goodIn_r _ [5] (by decide +kernel) (by decide +kernel)
set_option maxRecDepth 20000 in
theorem gX5_at_X5_isPower : GoodIn wsX5_at (wsV RX5 107 RX5 yX5_isPower wsX5_isPower) := goodIn_app (goodIn_of _ (by decide +kernel)) ggX5_at_X5_isPower
set_option maxRecDepth 20000 in
theorem ggX5_at_X5_fails : GoodIn wsX5_at wsX5_fails := goodIn_r _ [9, 10, 16, 17, 18, 19, 20, 21, 22, 23, 24, 25] (by decide +kernel) (by decide +kernel)
set_option maxRecDepth 20000 in
theorem gX5_at_X5_fails : GoodIn wsX5_at (wsV RX5 61 RX5 yX5_fails wsX5_fails) := goodIn_app (goodIn_of _ (by decide +kernel)) ggX5_at_X5_fails
set_option maxRecDepth 20000 in
theorem ggX5_at_X5_cell : GoodIn wsX5_at wsX5_cell := goodIn_r _ [14, 15, 16, 17, 18, 19, 20, 21, 22, 23, 24, 25] (by decide +kernel) (by decide +kernel)
set_option maxRecDepth 20000 in
theorem gX5_at_X5_cell : GoodIn wsX5_at (wsV RX5 81 RX5 yX5_cell wsX5_cell) := goodIn_app (goodIn_of _ (by decide +kernel)) ggX5_at_X5_cell
set_option maxRecDepth 20000 in
theorem ggX5_reckon_X5_isElement : GoodIn wsX5_reckon wsX5_isElement := goodIn_r _ [5, 6, 40, 41, 42, 43, 44, 45, 46, 47, 48, 49] (by decide +kernel) (by decide +kernel)
set_option maxRecDepth 20000 in
theorem gX5_reckon_X5_isElement : GoodIn wsX5_reckon (wsV RX5 111 RX5 yX5_isElement wsX5_isElement) := goodIn_app (goodIn_of _ (by decide +kernel)) ggX5_reckon_X5_isElement
set_option maxRecDepth 20000 in
theorem ggX5_reckon_X5_fails : GoodIn wsX5_reckon wsX5_fails := goodIn_r _ [10, 11, 40, 41, 42, 43, 44, 45, 46, 47, 48, 49] (by decide +kernel) (by decide +kernel)
set_option maxRecDepth 20000 in
theorem gX5_reckon_X5_fails : GoodIn wsX5_reckon (wsV RX5 61 RX5 yX5_fails wsX5_fails) := goodIn_app (goodIn_of _ (by decide +kernel)) ggX5_reckon_X5_fails
set_option maxRecDepth 20000 in
theorem ggX5_reckon_X5_add : GoodIn wsX5_reckon wsX5_add := goodIn_r _ [14] (by decide +kernel) (by decide +kernel)
set_option maxRecDepth 20000 in
theorem gX5_reckon_X5_add : GoodIn wsX5_reckon (va_wsS RX5 42 yX5_add wsX5_add) := goodIn_app (goodIn_of _ (by decide +kernel)) ggX5_reckon_X5_add
set_option maxRecDepth 20000 in
theorem ggX5_reckon_X5_less : GoodIn wsX5_reckon wsX5_less := goodIn_r _ [17, 18, 19, 4, 20, 12, 13, 14] (by decide +kernel) (by decide +kernel)
set_option maxRecDepth 20000 in
theorem gX5_reckon_X5_less : GoodIn wsX5_reckon (va_wsS RX5 87 yX5_less wsX5_less) := goodIn_app (goodIn_of _ (by decide +kernel)) ggX5_reckon_X5_less
set_option maxRecDepth 20000 in
theorem ggX5_reckon_X5_inverse : GoodIn wsX5_reckon wsX5_inverse := goodIn_r _ [24, 6, 25, 26, 27, 28, 4, 29, 30, 31, 32, 33, 34, 35, 36, 37, 38, 39, 40, 41, 42, 43, 44, 45, 46, 47, 48, 49] (by decide +kernel) (by decide +kernel)
set_option maxRecDepth 20000 in
theorem gX5_reckon_X5_inverse : GoodIn wsX5_reckon (wsV RX5 84 RX5 yX5_inverse wsX5_inverse) := goodIn_app (goodIn_of _ (by decide +kernel)) ggX5_reckon_X5_inverse
set_option maxRecDepth 20000 in
theorem ggX5_reckon_X5_times : GoodIn wsX5_reckon wsX5_times := goodIn_r _ [33, 34, 35, 36, 37, 38, 4, 39, 40, 41, 42, 43, 44, 45, 46, 47, 48, 49] (by decide +kernel) (by decide +kernel)
set_option maxRecDepth 20000 in
theorem gX5_reckon_X5_times : GoodIn wsX5_reckon (wsV RX5 49 RX5 yX5_times wsX5_times) := goodIn_app (goodIn_of _ (by decide +kernel)) ggX5_reckon_X5_times
set_option maxRecDepth 20000 in
theorem ggX5_known_X5_isElement : GoodIn wsX5_known wsX5_isElement := goodIn_r _ [8, 2, 39, 40, 41, 42, 43, 44, 45, 46, 47, 48] (by decide +kernel) (by decide +kernel)
set_option maxRecDepth 20000 in
theorem gX5_known_X5_isElement : GoodIn wsX5_known (wsV RX5 111 RX5 yX5_isElement wsX5_isElement) := goodIn_app (goodIn_of _ (by decide +kernel)) ggX5_known_X5_isElement
set_option maxRecDepth 20000 in
theorem ggX5_known_X5_fails : GoodIn wsX5_known wsX5_fails := goodIn_r _ [12, 13, 39, 40, 41, 42, 43, 44, 45, 46, 47, 48] (by decide +kernel) (by decide +kernel)
set_option maxRecDepth 20000 in
theorem gX5_known_X5_fails : GoodIn wsX5_known (wsV RX5 61 RX5 yX5_fails wsX5_fails) := goodIn_app (goodIn_of _ (by decide +kernel)) ggX5_known_X5_fails
set_option maxRecDepth 20000 in
theorem ggX5_known_X5_mate : GoodIn wsX5_known wsX5_mate := goodIn_r _ [17, 18, 19, 20, 21, 7, 22, 23, 24, 25, 26, 27, 1, 28, 29, 30, 31, 39, 40, 41, 42, 43, 44, 45, 46, 47, 48] (by decide +kernel) (by decide +kernel)
set_option maxRecDepth 20000 in
theorem gX5_known_X5_mate : GoodIn wsX5_known (wsV RX5 58 RX5 yX5_mate wsX5_mate) := goodIn_app (goodIn_of _ (by decide +kernel)) ggX5_known_X5_mate
set_option maxRecDepth 20000 in
theorem ggX5_known_X5_times : GoodIn wsX5_known wsX5_times := goodIn_r _ [26, 27, 1, 28, 29, 30, 7, 31, 39, 40, 41, 42, 43, 44, 45, 46, 47, 48] (by decide +kernel) (by decide +kernel)
set_option maxRecDepth 20000 in
theorem gX5_known_X5_times : GoodIn wsX5_known (wsV RX5 49 RX5 yX5_times wsX5_times) := goodIn_app (goodIn_of _ (by decide +kernel)) ggX5_known_X5_times
set_option maxRecDepth 20000 in
theorem ggX5_known_X5_add : GoodIn wsX5_known wsX5_add := goodIn_r _ [34] (by decide +kernel) (by decide +kernel)
set_option maxRecDepth 20000 in
theorem gX5_known_X5_add : GoodIn wsX5_known (va_wsS RX5 42 yX5_add wsX5_add) := goodIn_app (goodIn_of _ (by decide +kernel)) ggX5_known_X5_add
set_option maxRecDepth 20000 in
theorem ggX5_known_X5_power : GoodIn wsX5_known wsX5_power := goodIn_r _ [22, 23, 24, 25, 7, 26, 27, 1, 28, 29, 30, 31, 39, 40, 41, 42, 43, 44, 45, 46, 47, 48] (by decide +kernel) (by decide +kernel)
set_option maxRecDepth 20000 in
theorem gX5_known_X5_power : GoodIn wsX5_known (wsV RX5 54 RX5 yX5_power wsX5_power) := goodIn_app (goodIn_of _ (by decide +kernel)) ggX5_known_X5_power
set_option maxRecDepth 20000 in
theorem ggX5_known_X5_mates : GoodIn wsX5_known wsX5_mates := goodIn_r _ [38, 1, 14, 15, 16, 7, 17, 18, 19, 20, 21, 22, 23, 24, 25, 26, 27, 28, 29, 30, 31, 39, 40, 41, 42, 43, 44, 45, 46, 47, 48] (by decide +kernel) (by decide +kernel)
set_option maxRecDepth 20000 in
theorem gX5_known_X5_mates : GoodIn wsX5_known (wsV RX5 114 RX5 yX5_mates wsX5_mates) := goodIn_app (goodIn_of _ (by decide +kernel)) ggX5_known_X5_mates
set_option maxRecDepth 20000 in
theorem ggX5_minimal_X5_isElement : GoodIn wsX5_minimal wsX5_isElement := goodIn_r _ [5, 6, 63, 64, 65, 66, 67, 68, 69, 70, 71, 72] (by decide +kernel) (by decide +kernel)
set_option maxRecDepth 20000 in
theorem gX5_minimal_X5_isElement : GoodIn wsX5_minimal (wsV RX5 111 RX5 yX5_isElement wsX5_isElement) := goodIn_app (goodIn_of _ (by decide +kernel)) ggX5_minimal_X5_isElement
set_option maxRecDepth 20000 in
theorem ggX5_minimal_X5_fails : GoodIn wsX5_minimal wsX5_fails := goodIn_r _ [10, 11, 63, 64, 65, 66, 67, 68, 69, 70, 71, 72] (by decide +kernel) (by decide +kernel)
set_option maxRecDepth 20000 in
theorem gX5_minimal_X5_fails : GoodIn wsX5_minimal (wsV RX5 61 RX5 yX5_fails wsX5_fails) := goodIn_app (goodIn_of _ (by decide +kernel)) ggX5_minimal_X5_fails
set_option maxRecDepth 20000 in
theorem ggX5_minimal_X5_mates : GoodIn wsX5_minimal wsX5_mates := goodIn_r _ [15, 16, 17, 18, 19, 4, 20, 21, 22, 23, 24, 25, 26, 27, 28, 29, 30, 31, 32, 33, 34, 63, 64, 65, 66, 67, 68, 69, 70, 71, 72] (by decide +kernel) (by decide +kernel)
set_option maxRecDepth 20000 in
theorem gX5_minimal_X5_mates : GoodIn wsX5_minimal (wsV RX5 114 RX5 yX5_mates wsX5_mates) := goodIn_app (goodIn_of _ (by decide +kernel)) ggX5_minimal_X5_mates
set_option maxRecDepth 20000 in
theorem ggX5_minimal_X5_clear : GoodIn wsX5_minimal wsX5_clear := goodIn_r _ [38, 39, 40, 63, 64, 65, 66, 67, 68, 69, 70, 71, 72] (by decide +kernel) (by decide +kernel)
set_option maxRecDepth 20000 in
theorem gX5_minimal_X5_clear : GoodIn wsX5_minimal (wsV RX5 73 RX5 yX5_clear wsX5_clear) := goodIn_app (goodIn_of _ (by decide +kernel)) ggX5_minimal_X5_clear
set_option maxRecDepth 20000 in
theorem ggX5_minimal_X5_set : GoodIn wsX5_minimal wsX5_set := goodIn_r _ [44, 39, 40, 63, 64, 65, 66, 67, 68, 69, 70, 71, 72] (by decide +kernel) (by decide +kernel)
set_option maxRecDepth 20000 in
theorem gX5_minimal_X5_set : GoodIn wsX5_minimal (wsV RX5 90 RX5 yX5_set wsX5_set) := goodIn_app (goodIn_of _ (by decide +kernel)) ggX5_minimal_X5_set
set_option maxRecDepth 20000 in
theorem ggX5_minimal_X5_mate : GoodIn wsX5_minimal wsX5_mate := goodIn_r _ [20, 21, 22, 23, 24, 4, 25, 26, 27, 28, 29, 30, 16, 31, 32, 33, 34, 63, 64, 65, 66, 67, 68, 69, 70, 71, 72] (by decide +kernel) (by decide +kernel)
set_option maxRecDepth 20000 in
theorem gX5_minimal_X5_mate : GoodIn wsX5_minimal (wsV RX5 58 RX5 yX5_mate wsX5_mate) := goodIn_app (goodIn_of _ (by decide +kernel)) ggX5_minimal_X5_mate
set_option maxRecDepth 20000 in
theorem ggX5_minimal_X5_negative : GoodIn wsX5_minimal wsX5_negative := goodIn_r _ [47] (by decide +kernel) (by decide +kernel)
set_option maxRecDepth 20000 in
theorem gX5_minimal_X5_negative : GoodIn wsX5_minimal (va_wsS RX5 38 yX5_negative wsX5_negative) := goodIn_app (goodIn_of _ (by decide +kernel)) ggX5_minimal_X5_negative
set_option maxRecDepth 20000 in
theorem ggX5_minimal_X5_product : GoodIn wsX5_minimal wsX5_product := goodIn_r _ [51, 40, 39, 35, 36, 37, 4, 38, 52, 53, 54, 55, 26, 27, 28, 29, 30, 16, 31, 32, 33, 34, 56, 57, 58, 63, 64, 65, 66, 67, 68, 69, 70, 71, 72] (by decide +kernel) (by decide +kernel)
set_option maxRecDepth 20000 in
theorem gX5_minimal_X5_product : GoodIn wsX5_minimal (wsV RX5 104 RX5 yX5_product wsX5_product) := goodIn_app (goodIn_of _ (by decide +kernel)) ggX5_minimal_X5_product
set_option maxRecDepth 20000 in
theorem ggX5_minimal_X5_copy : GoodIn wsX5_minimal wsX5_copy := goodIn_r _ [62, 39, 40, 63, 64, 65, 66, 67, 68, 69, 70, 71, 72] (by decide +kernel) (by decide +kernel)
set_option maxRecDepth 20000 in
theorem gX5_minimal_X5_copy : GoodIn wsX5_minimal (wsV RX5 97 RX5 yX5_copy wsX5_copy) := goodIn_app (goodIn_of _ (by decide +kernel)) ggX5_minimal_X5_copy
