set_option maxRecDepth 20000 in
theorem ggX6_form_X6_isOf : GoodIn wsX6_form wsX6_isOf := goodIn_r _ [12] (by decide +kernel) (by decide +kernel)
set_option maxRecDepth 20000 in
theorem gX6_form_X6_isOf : GoodIn wsX6_form (va_wsS RX6 55 yX6_isOf wsX6_isOf) := goodIn_app (goodIn_of _ (by decide +kernel)) ggX6_form_X6_isOf
set_option maxRecDepth 20000 in
theorem ggX6_isSum_X6_isForm : GoodIn wsX6_isSum wsX6_isForm := goodIn_r _ [6, 7, 11, 12, 13, 14, 15, 16, 17, 18, 19, 20, 21, 22, 23, 24, 25, 26] (by decide +kernel) (by decide +kernel)
set_option maxRecDepth 20000 in
theorem gX6_isSum_X6_isForm : GoodIn wsX6_isSum (wsV RX6 68 RX6 yX6_isForm wsX6_isForm) := goodIn_app (goodIn_of _ (by decide +kernel)) ggX6_isSum_X6_isForm
set_option maxRecDepth 20000 in
theorem ggX6_isSum_X6_isOf : GoodIn wsX6_isSum wsX6_isOf := goodIn_r _ [10] (by decide +kernel) (by decide +kernel)
set_option maxRecDepth 20000 in
theorem gX6_isSum_X6_isOf : GoodIn wsX6_isSum (va_wsS RX6 55 yX6_isOf wsX6_isOf) := goodIn_app (goodIn_of _ (by decide +kernel)) ggX6_isSum_X6_isOf
set_option maxRecDepth 20000 in
theorem ggX6_times_X6_up : GoodIn wsX6_times wsX6_up := goodIn_r _ [6, 1, 7, 8, 9, 10, 11, 12, 13, 14, 15, 16, 17, 18, 19, 20, 21, 22, 23] (by decide +kernel) (by decide +kernel)
set_option maxRecDepth 20000 in
theorem gX6_times_X6_up : GoodIn wsX6_times (wsV RX6 72 RX6 yX6_up wsX6_up) := goodIn_app (goodIn_of _ (by decide +kernel)) ggX6_times_X6_up
set_option maxRecDepth 20000 in
theorem ggX6_power_X6_times : GoodIn wsX6_power wsX6_times := goodIn_r _ [5, 6, 7, 8, 9, 4, 10, 11, 12, 13, 14, 15, 16, 17, 18, 19, 20, 21, 22, 23, 24, 25, 26, 27] (by decide +kernel) (by decide +kernel)
set_option maxRecDepth 20000 in
theorem gX6_power_X6_times : GoodIn wsX6_power (wsV RX6 76 RX6 yX6_times wsX6_times) := goodIn_app (goodIn_of _ (by decide +kernel)) ggX6_power_X6_times
set_option maxRecDepth 20000 in
theorem ggX6_moved_X6_up : GoodIn wsX6_moved wsX6_up := goodIn_r _ [5, 6, 7, 16, 17, 18, 19, 20, 21, 22, 23, 24, 25, 26, 27, 28, 29, 30, 31] (by decide +kernel) (by decide +kernel)
set_option maxRecDepth 20000 in
theorem gX6_moved_X6_up : GoodIn wsX6_moved (wsV RX6 72 RX6 yX6_up wsX6_up) := goodIn_app (goodIn_of _ (by decide +kernel)) ggX6_moved_X6_up
set_option maxRecDepth 20000 in
theorem ggX6_moved_X6_power : GoodIn wsX6_moved wsX6_power := goodIn_r _ [11, 12, 13, 14, 4, 15, 6, 1, 2, 3, 5, 7, 16, 17, 18, 19, 20, 21, 22, 23, 24, 25, 26, 27, 28, 29, 30, 31] (by decide +kernel) (by decide +kernel)
set_option maxRecDepth 20000 in
theorem gX6_moved_X6_power : GoodIn wsX6_moved (wsV RX6 80 RX6 yX6_power wsX6_power) := goodIn_app (goodIn_of _ (by decide +kernel)) ggX6_moved_X6_power
set_option maxRecDepth 20000 in
theorem ggX6_moved_X6_times : GoodIn wsX6_moved wsX6_times := goodIn_r _ [15, 6, 1, 2, 3, 4, 5, 7, 16, 17, 18, 19, 20, 21, 22, 23, 24, 25, 26, 27, 28, 29, 30, 31] (by decide +kernel) (by decide +kernel)
set_option maxRecDepth 20000 in
theorem gX6_moved_X6_times : GoodIn wsX6_moved (wsV RX6 76 RX6 yX6_times wsX6_times) := goodIn_app (goodIn_of _ (by decide +kernel)) ggX6_moved_X6_times
set_option maxRecDepth 20000 in
theorem ggX6_taken_X6_up : GoodIn wsX6_taken wsX6_up := goodIn_r _ [7, 2, 8, 9, 10, 11, 12, 13, 14, 15, 16, 17, 18, 19, 20, 21, 22, 23, 24] (by decide +kernel) (by decide +kernel)
set_option maxRecDepth 20000 in
theorem gX6_taken_X6_up : GoodIn wsX6_taken (wsV RX6 72 RX6 yX6_up wsX6_up) := goodIn_app (goodIn_of _ (by decide +kernel)) ggX6_taken_X6_up
set_option maxRecDepth 20000 in
theorem ggX6_told_X6_turned : GoodIn wsX6_told wsX6_turned := goodIn_r _ [7] (by decide +kernel) (by decide +kernel)
set_option maxRecDepth 20000 in
theorem gX6_told_X6_turned : GoodIn wsX6_told (va_wsS RX6 83 yX6_turned wsX6_turned) := goodIn_app (goodIn_of _ (by decide +kernel)) ggX6_told_X6_turned
set_option maxRecDepth 20000 in
theorem ggX6_register_X6_turned : GoodIn wsX6_register wsX6_turned := goodIn_r _ [7] (by decide +kernel) (by decide +kernel)
set_option maxRecDepth 20000 in
theorem gX6_register_X6_turned : GoodIn wsX6_register (va_wsS RX6 83 yX6_turned wsX6_turned) := goodIn_app (goodIn_of _ (by decide +kernel)) ggX6_register_X6_turned
set_option maxRecDepth 20000 in
theorem ggX6_sum_X6_isForm : GoodIn wsX6_sum wsX6_isForm := goodIn_r _ [8, 9, 35, 36, 37, 38, 39, 40, 41, 42, 43, 44, 45, 46, 47, 48, 49, 50] (by decide +kernel) (by decide +kernel)
set_option maxRecDepth 20000 in
theorem gX6_sum_X6_isForm : GoodIn wsX6_sum (wsV RX6 68 RX6 yX6_isForm wsX6_isForm) := goodIn_app (goodIn_of _ (by decide +kernel)) ggX6_sum_X6_isForm
set_option maxRecDepth 20000 in
theorem ggX6_sum_X6_isSpan : GoodIn wsX6_sum wsX6_isSpan := goodIn_r _ [13, 14, 35, 36, 37, 38, 39, 40, 41, 42, 43, 44, 45, 46, 47, 48, 49, 50] (by decide +kernel) (by decide +kernel)
set_option maxRecDepth 20000 in
theorem gX6_sum_X6_isSpan : GoodIn wsX6_sum (wsV RX6 87 RX6 yX6_isSpan wsX6_isSpan) := goodIn_app (goodIn_of _ (by decide +kernel)) ggX6_sum_X6_isSpan
set_option maxRecDepth 20000 in
theorem ggX6_sum_X6_taken : GoodIn wsX6_sum wsX6_taken := goodIn_r _ [18, 19, 20, 21, 22, 23, 7, 24, 25, 35, 36, 37, 38, 39, 40, 41, 42, 43, 44, 45, 46, 47, 48, 49, 50] (by decide +kernel) (by decide +kernel)
set_option maxRecDepth 20000 in
theorem gX6_sum_X6_taken : GoodIn wsX6_sum (wsV RX6 93 RX6 yX6_taken wsX6_taken) := goodIn_app (goodIn_of _ (by decide +kernel)) ggX6_sum_X6_taken
set_option maxRecDepth 20000 in
theorem ggX6_sum_X6_told : GoodIn wsX6_sum wsX6_told := goodIn_r _ [29, 30, 20, 31, 32, 33, 7, 34, 35, 36, 37, 38, 39, 40, 41, 42, 43, 44, 45, 46, 47, 48, 49, 50] (by decide +kernel) (by decide +kernel)
set_option maxRecDepth 20000 in
theorem gX6_sum_X6_told : GoodIn wsX6_sum (wsV RX6 97 RX6 yX6_told wsX6_told) := goodIn_app (goodIn_of _ (by decide +kernel)) ggX6_sum_X6_told
set_option maxRecDepth 20000 in
theorem ggX6_joined_X6_isSum : GoodIn wsX6_joined wsX6_isSum := goodIn_r _ [7, 8, 9, 10, 11, 6, 12, 13, 14, 15, 16, 51, 52, 53, 54, 55, 56, 57, 58, 59, 60, 61, 62, 63, 64, 65, 66] (by decide +kernel) (by decide +kernel)
set_option maxRecDepth 20000 in
theorem gX6_joined_X6_isSum : GoodIn wsX6_joined (wsV RX6 102 RX6 yX6_isSum wsX6_isSum) := goodIn_app (goodIn_of _ (by decide +kernel)) ggX6_joined_X6_isSum
set_option maxRecDepth 20000 in
theorem ggX6_joined_X6_isFar : GoodIn wsX6_joined wsX6_isFar := goodIn_r _ [19, 20] (by decide +kernel) (by decide +kernel)
set_option maxRecDepth 20000 in
theorem gX6_joined_X6_isFar : GoodIn wsX6_joined (va_wsS RX6 105 yX6_isFar wsX6_isFar) := goodIn_app (goodIn_of _ (by decide +kernel)) ggX6_joined_X6_isFar
set_option maxRecDepth 20000 in
theorem ggX6_joined_X6_register : GoodIn wsX6_joined wsX6_register := goodIn_r _ [24, 25, 26, 8, 27, 28, 6, 29, 51, 52, 53, 54, 55, 56, 57, 58, 59, 60, 61, 62, 63, 64, 65, 66] (by decide +kernel) (by decide +kernel)
set_option maxRecDepth 20000 in
theorem gX6_joined_X6_register : GoodIn wsX6_joined (wsV RX6 109 RX6 yX6_register wsX6_register) := goodIn_app (goodIn_of _ (by decide +kernel)) ggX6_joined_X6_register
set_option maxRecDepth 20000 in
theorem ggX6_joined_X6_moved : GoodIn wsX6_joined wsX6_moved := goodIn_r _ [33, 34, 35, 36, 6, 37, 8, 38, 39, 40, 41, 42, 43, 44, 45, 46, 51, 52, 53, 54, 55, 56, 57, 58, 59, 60, 61, 62, 63, 64, 65, 66] (by decide +kernel) (by decide +kernel)
set_option maxRecDepth 20000 in
theorem gX6_joined_X6_moved : GoodIn wsX6_joined (wsV RX6 112 RX6 yX6_moved wsX6_moved) := goodIn_app (goodIn_of _ (by decide +kernel)) ggX6_joined_X6_moved
set_option maxRecDepth 20000 in
theorem ggX6_joined_X6_told : GoodIn wsX6_joined wsX6_told := goodIn_r _ [50, 26, 8, 25, 27, 28, 6, 29, 51, 52, 53, 54, 55, 56, 57, 58, 59, 60, 61, 62, 63, 64, 65, 66] (by decide +kernel) (by decide +kernel)
set_option maxRecDepth 20000 in
theorem gX6_joined_X6_told : GoodIn wsX6_joined (wsV RX6 97 RX6 yX6_told wsX6_told) := goodIn_app (goodIn_of _ (by decide +kernel)) ggX6_joined_X6_told
set_option maxRecDepth 20000 in
theorem ggX6_zeros_X6_isSum : GoodIn wsX6_zeros wsX6_isSum := goodIn_r _ [6, 7, 8, 9, 10, 5, 11, 12, 13, 14, 15, 50, 51, 52, 53, 54, 55, 56, 57, 58, 59, 60, 61, 62, 63, 64, 65] (by decide +kernel) (by decide +kernel)
set_option maxRecDepth 20000 in
theorem gX6_zeros_X6_isSum : GoodIn wsX6_zeros (wsV RX6 102 RX6 yX6_isSum wsX6_isSum) := goodIn_app (goodIn_of _ (by decide +kernel)) ggX6_zeros_X6_isSum
set_option maxRecDepth 20000 in
theorem ggX6_zeros_X6_isFar : GoodIn wsX6_zeros wsX6_isFar := goodIn_r _ [18, 19] (by decide +kernel) (by decide +kernel)
set_option maxRecDepth 20000 in
theorem gX6_zeros_X6_isFar : GoodIn wsX6_zeros (va_wsS RX6 105 yX6_isFar wsX6_isFar) := goodIn_app (goodIn_of _ (by decide +kernel)) ggX6_zeros_X6_isFar
set_option maxRecDepth 20000 in
theorem ggX6_zeros_X6_register : GoodIn wsX6_zeros wsX6_register := goodIn_r _ [23, 24, 25, 7, 26, 27, 5, 28, 50, 51, 52, 53, 54, 55, 56, 57, 58, 59, 60, 61, 62, 63, 64, 65] (by decide +kernel) (by decide +kernel)
set_option maxRecDepth 20000 in
theorem gX6_zeros_X6_register : GoodIn wsX6_zeros (wsV RX6 109 RX6 yX6_register wsX6_register) := goodIn_app (goodIn_of _ (by decide +kernel)) ggX6_zeros_X6_register
set_option maxRecDepth 20000 in
theorem ggX6_zeros_X6_moved : GoodIn wsX6_zeros wsX6_moved := goodIn_r _ [32, 33, 34, 35, 5, 36, 7, 37, 38, 39, 40, 41, 42, 43, 44, 45, 50, 51, 52, 53, 54, 55, 56, 57, 58, 59, 60, 61, 62, 63, 64, 65] (by decide +kernel) (by decide +kernel)
set_option maxRecDepth 20000 in
theorem gX6_zeros_X6_moved : GoodIn wsX6_zeros (wsV RX6 112 RX6 yX6_moved wsX6_moved) := goodIn_app (goodIn_of _ (by decide +kernel)) ggX6_zeros_X6_moved
set_option maxRecDepth 20000 in
theorem ggX6_zeros_X6_told : GoodIn wsX6_zeros wsX6_told := goodIn_r _ [49, 25, 7, 24, 26, 27, 5, 28, 50, 51, 52, 53, 54, 55, 56, 57, 58, 59, 60, 61, 62, 63, 64, 65] (by decide +kernel) (by decide +kernel)
set_option maxRecDepth 20000 in
theorem gX6_zeros_X6_told : GoodIn wsX6_zeros (wsV RX6 97 RX6 yX6_told wsX6_told) := goodIn_app (goodIn_of _ (by decide +kernel)) ggX6_zeros_X6_told
set_option maxRecDepth 20000 in
theorem ggX6_changed_X6_isSum : GoodIn wsX6_changed wsX6_isSum := goodIn_r _ [6, 7, 8, 9, 10, 5, 11, 12, 13, 14, 15, 55, 56, 57, 58, 59, 60, 61, 62, 63, 64, 65, 66, 67, 68, 69, 70] (by decide +kernel) (by decide +kernel)
set_option maxRecDepth 20000 in
theorem gX6_changed_X6_isSum : GoodIn wsX6_changed (wsV RX6 102 RX6 yX6_isSum wsX6_isSum) := goodIn_app (goodIn_of _ (by decide +kernel)) ggX6_changed_X6_isSum
set_option maxRecDepth 20000 in
theorem ggX6_changed_X6_isFar : GoodIn wsX6_changed wsX6_isFar := goodIn_r _ [18, 19] (by decide +kernel) (by decide +kernel)
set_option maxRecDepth 20000 in
theorem gX6_changed_X6_isFar : GoodIn wsX6_changed (va_wsS RX6 105 yX6_isFar wsX6_isFar) := goodIn_app (goodIn_of _ (by decide +kernel)) ggX6_changed_X6_isFar
set_option maxRecDepth 20000 in
theorem ggX6_changed_X6_register : GoodIn wsX6_changed wsX6_register := goodIn_r _ [23, 24, 25, 7, 26, 27, 5, 28, 55, 56, 57, 58, 59, 60, 61, 62, 63, 64, 65, 66, 67, 68, 69, 70] (by decide +kernel) (by decide +kernel)
set_option maxRecDepth 20000 in
theorem gX6_changed_X6_register : GoodIn wsX6_changed (wsV RX6 109 RX6 yX6_register wsX6_register) := goodIn_app (goodIn_of _ (by decide +kernel)) ggX6_changed_X6_register
set_option maxRecDepth 20000 in
theorem ggX6_changed_X6_taken : GoodIn wsX6_changed wsX6_taken := goodIn_r _ [32, 33, 7, 34, 35, 36, 5, 37, 38, 55, 56, 57, 58, 59, 60, 61, 62, 63, 64, 65, 66, 67, 68, 69, 70] (by decide +kernel) (by decide +kernel)
set_option maxRecDepth 20000 in
theorem gX6_changed_X6_taken : GoodIn wsX6_changed (wsV RX6 93 RX6 yX6_taken wsX6_taken) := goodIn_app (goodIn_of _ (by decide +kernel)) ggX6_changed_X6_taken
set_option maxRecDepth 20000 in
theorem ggX6_changed_X6_moved : GoodIn wsX6_changed wsX6_moved := goodIn_r _ [42, 34, 35, 36, 5, 37, 7, 38, 43, 44, 45, 46, 47, 48, 49, 50, 55, 56, 57, 58, 59, 60, 61, 62, 63, 64, 65, 66, 67, 68, 69, 70] (by decide +kernel) (by decide +kernel)
set_option maxRecDepth 20000 in
theorem gX6_changed_X6_moved : GoodIn wsX6_changed (wsV RX6 112 RX6 yX6_moved wsX6_moved) := goodIn_app (goodIn_of _ (by decide +kernel)) ggX6_changed_X6_moved
set_option maxRecDepth 20000 in
theorem ggX6_changed_X6_told : GoodIn wsX6_changed wsX6_told := goodIn_r _ [54, 25, 7, 24, 26, 27, 5, 28, 55, 56, 57, 58, 59, 60, 61, 62, 63, 64, 65, 66, 67, 68, 69, 70] (by decide +kernel) (by decide +kernel)
set_option maxRecDepth 20000 in
theorem gX6_changed_X6_told : GoodIn wsX6_changed (wsV RX6 97 RX6 yX6_told wsX6_told) := goodIn_app (goodIn_of _ (by decide +kernel)) ggX6_changed_X6_told
set_option maxRecDepth 20000 in
theorem ggX6_tail_X6_isSum : GoodIn wsX6_tail wsX6_isSum := goodIn_r _ [9, 1, 10, 11, 12, 8, 13, 14, 15, 16, 17, 32, 33, 34, 35, 36, 37, 38, 39, 40, 41, 42, 43, 44, 45, 46, 47] (by decide +kernel) (by decide +kernel)
set_option maxRecDepth 20000 in
theorem gX6_tail_X6_isSum : GoodIn wsX6_tail (wsV RX6 102 RX6 yX6_isSum wsX6_isSum) := goodIn_app (goodIn_of _ (by decide +kernel)) ggX6_tail_X6_isSum
set_option maxRecDepth 20000 in
theorem ggX6_tail_X6_register : GoodIn wsX6_tail wsX6_register := goodIn_r _ [21, 22, 23, 1, 24, 25, 8, 26, 32, 33, 34, 35, 36, 37, 38, 39, 40, 41, 42, 43, 44, 45, 46, 47] (by decide +kernel) (by decide +kernel)
set_option maxRecDepth 20000 in
theorem gX6_tail_X6_register : GoodIn wsX6_tail (wsV RX6 109 RX6 yX6_register wsX6_register) := goodIn_app (goodIn_of _ (by decide +kernel)) ggX6_tail_X6_register
set_option maxRecDepth 20000 in
theorem ggX6_tail_X6_down : GoodIn wsX6_tail wsX6_down := goodIn_r _ [30, 1, 31, 32, 33, 34, 35, 36, 37, 38, 39, 40, 41, 42, 43, 44, 45, 46, 47] (by decide +kernel) (by decide +kernel)
set_option maxRecDepth 20000 in
theorem gX6_tail_X6_down : GoodIn wsX6_tail (wsV RX6 115 RX6 yX6_down wsX6_down) := goodIn_app (goodIn_of _ (by decide +kernel)) ggX6_tail_X6_down
set_option maxRecDepth 20000 in
theorem ggX6_tail_X6_turned : GoodIn wsX6_tail wsX6_turned := goodIn_r _ [26] (by decide +kernel) (by decide +kernel)
set_option maxRecDepth 20000 in
theorem gX6_tail_X6_turned : GoodIn wsX6_tail (va_wsS RX6 83 yX6_turned wsX6_turned) := goodIn_app (goodIn_of _ (by decide +kernel)) ggX6_tail_X6_turned
set_option maxRecDepth 20000 in
theorem ggX6_know_X6_degree : GoodIn wsX6_know wsX6_degree := goodIn_r _ [13] (by decide +kernel) (by decide +kernel)
set_option maxRecDepth 20000 in
theorem gX6_know_X6_degree : GoodIn wsX6_know (va_wsS RX6 120 yX6_degree wsX6_degree) := goodIn_app (goodIn_of _ (by decide +kernel)) ggX6_know_X6_degree
set_option maxRecDepth 20000 in
theorem ggX6_know_X6_rest : GoodIn wsX6_know wsX6_rest := goodIn_r _ [16] (by decide +kernel) (by decide +kernel)
set_option maxRecDepth 20000 in
theorem gX6_know_X6_rest : GoodIn wsX6_know (va_wsS RX6 124 yX6_rest wsX6_rest) := goodIn_app (goodIn_of _ (by decide +kernel)) ggX6_know_X6_rest
set_option maxRecDepth 20000 in
theorem ggX6_know_X6_quotient : GoodIn wsX6_know wsX6_quotient := goodIn_r _ [19] (by decide +kernel) (by decide +kernel)
set_option maxRecDepth 20000 in
theorem gX6_know_X6_quotient : GoodIn wsX6_know (va_wsS RX6 128 yX6_quotient wsX6_quotient) := goodIn_app (goodIn_of _ (by decide +kernel)) ggX6_know_X6_quotient
set_option maxRecDepth 20000 in
theorem ggX6_know_X6_findOrder : GoodIn wsX6_know wsX6_findOrder := goodIn_r _ [23, 2, 6, 7, 8, 10, 11, 12, 13, 24, 25, 26, 27, 28, 29, 30, 3, 4, 31, 32, 33, 34, 35, 36, 37, 38, 39, 40, 41, 42, 43, 44, 45, 46, 47, 48, 49, 50, 51, 52, 53, 54] (by decide +kernel) (by decide +kernel)
set_option maxRecDepth 20000 in
theorem gX6_know_X6_findOrder : GoodIn wsX6_know (wsV RX6 133 RX6 yX6_findOrder wsX6_findOrder) := goodIn_app (goodIn_of _ (by decide +kernel)) ggX6_know_X6_findOrder
set_option maxRecDepth 20000 in
theorem ggX6_findOrder_X6_degree : GoodIn wsX6_findOrder wsX6_degree := goodIn_r _ [8] (by decide +kernel) (by decide +kernel)
set_option maxRecDepth 20000 in
theorem gX6_findOrder_X6_degree : GoodIn wsX6_findOrder (va_wsS RX6 120 yX6_degree wsX6_degree) := goodIn_app (goodIn_of _ (by decide +kernel)) ggX6_findOrder_X6_degree
set_option maxRecDepth 20000 in
theorem ggX6_findOrder_X6_common : GoodIn wsX6_findOrder wsX6_common := goodIn_r _ [11] (by decide +kernel) (by decide +kernel)
set_option maxRecDepth 20000 in
theorem gX6_findOrder_X6_common : GoodIn wsX6_findOrder (va_wsS RX6 137 yX6_common wsX6_common) := goodIn_app (goodIn_of _ (by decide +kernel)) ggX6_findOrder_X6_common
set_option maxRecDepth 20000 in
theorem ggX6_findOrder_X6_up : GoodIn wsX6_findOrder wsX6_up := goodIn_r _ [15, 16, 17, 26, 27, 28, 29, 30, 31, 32, 33, 34, 35, 36, 37, 38, 39, 40, 41] (by decide +kernel) (by decide +kernel)
set_option maxRecDepth 20000 in
theorem gX6_findOrder_X6_up : GoodIn wsX6_findOrder (wsV RX6 72 RX6 yX6_up wsX6_up) := goodIn_app (goodIn_of _ (by decide +kernel)) ggX6_findOrder_X6_up
set_option maxRecDepth 20000 in
theorem ggX6_findOrder_X6_power : GoodIn wsX6_findOrder wsX6_power := goodIn_r _ [21, 22, 23, 24, 7, 25, 16, 12, 13, 14, 15, 17, 26, 27, 28, 29, 30, 31, 32, 33, 34, 35, 36, 37, 38, 39, 40, 41] (by decide +kernel) (by decide +kernel)
set_option maxRecDepth 20000 in
theorem gX6_findOrder_X6_power : GoodIn wsX6_findOrder (wsV RX6 80 RX6 yX6_power wsX6_power) := goodIn_app (goodIn_of _ (by decide +kernel)) ggX6_findOrder_X6_power
set_option maxRecDepth 20000 in
theorem ggX6_factors_X6_isForm : GoodIn wsX6_factors wsX6_isForm := goodIn_r _ [6, 7, 48, 49, 50, 51, 52, 53, 54, 55, 56, 57, 58, 59, 60, 61, 62, 63] (by decide +kernel) (by decide +kernel)
set_option maxRecDepth 20000 in
theorem gX6_factors_X6_isForm : GoodIn wsX6_factors (wsV RX6 68 RX6 yX6_isForm wsX6_isForm) := goodIn_app (goodIn_of _ (by decide +kernel)) ggX6_factors_X6_isForm
set_option maxRecDepth 20000 in
theorem ggX6_factors_X6_know : GoodIn wsX6_factors wsX6_know := goodIn_r _ [11, 12, 1, 13, 14, 15, 16, 17, 18, 19, 20, 21, 5, 22, 23, 24, 25, 26, 27, 28, 29, 30, 31, 32, 33, 34, 35, 36, 37, 38, 39, 40, 41, 42, 43, 44, 45, 46, 47, 48, 49, 50, 51, 52, 53, 54, 55, 56, 57, 58, 59, 60, 61, 62, 63] (by decide +kernel) (by decide +kernel)
set_option maxRecDepth 20000 in
theorem gX6_factors_X6_know : GoodIn wsX6_factors (wsV RX6 141 RX6 yX6_know wsX6_know) := goodIn_app (goodIn_of _ (by decide +kernel)) ggX6_factors_X6_know
set_option maxRecDepth 20000 in
theorem ggX6_factor_X6_isForm : GoodIn wsX6_factor wsX6_isForm := goodIn_r _ [9, 10, 49, 50, 51, 52, 53, 54, 55, 56, 57, 58, 59, 60, 61, 62, 63, 64] (by decide +kernel) (by decide +kernel)
set_option maxRecDepth 20000 in
theorem gX6_factor_X6_isForm : GoodIn wsX6_factor (wsV RX6 68 RX6 yX6_isForm wsX6_isForm) := goodIn_app (goodIn_of _ (by decide +kernel)) ggX6_factor_X6_isForm
set_option maxRecDepth 20000 in
theorem ggX6_factor_X6_know : GoodIn wsX6_factor wsX6_know := goodIn_r _ [14, 15, 2, 16, 17, 18, 3, 4, 19, 20, 21, 22, 8, 23, 24, 25, 26, 27, 28, 29, 30, 31, 32, 33, 34, 35, 36, 37, 38, 39, 40, 41, 42, 43, 44, 45, 46, 47, 48, 49, 50, 51, 52, 53, 54, 55, 56, 57, 58, 59, 60, 61, 62, 63, 64] (by decide +kernel) (by decide +kernel)
set_option maxRecDepth 20000 in
theorem gX6_factor_X6_know : GoodIn wsX6_factor (wsV RX6 141 RX6 yX6_know wsX6_know) := goodIn_app (goodIn_of _ (by decide +kernel)) ggX6_factor_X6_know
set_option maxRecDepth 20000 in
theorem ggX6_order_X6_isForm : GoodIn wsX6_order wsX6_isForm := goodIn_r _ [7, 8, 49, 50, 51, 52, 53, 54, 55, 56, 57, 58, 59, 60, 61, 62, 63, 64] (by decide +kernel) (by decide +kernel)
set_option maxRecDepth 20000 in
theorem gX6_order_X6_isForm : GoodIn wsX6_order (wsV RX6 68 RX6 yX6_isForm wsX6_isForm) := goodIn_app (goodIn_of _ (by decide +kernel)) ggX6_order_X6_isForm
set_option maxRecDepth 20000 in
theorem ggX6_order_X6_know : GoodIn wsX6_order wsX6_know := goodIn_r _ [12, 13, 14, 15, 16, 17, 18, 19, 20, 2, 21, 22, 6, 23, 24, 25, 26, 27, 28, 29, 30, 31, 32, 33, 34, 35, 36, 37, 38, 39, 40, 41, 42, 43, 44, 45, 46, 47, 48, 49, 50, 51, 52, 53, 54, 55, 56, 57, 58, 59, 60, 61, 62, 63, 64] (by decide +kernel) (by decide +kernel)
set_option maxRecDepth 20000 in
theorem gX6_order_X6_know : GoodIn wsX6_order (wsV RX6 141 RX6 yX6_know wsX6_know) := goodIn_app (goodIn_of _ (by decide +kernel)) ggX6_order_X6_know
set_option maxRecDepth 20000 in
theorem ggX6_distance_X6_isForm : GoodIn wsX6_distance wsX6_isForm := goodIn_r _ [6, 7, 27, 28, 29, 30, 31, 32, 33, 34, 35, 36, 37, 38, 39, 40, 41, 42] (by decide +kernel) (by decide +kernel)
set_option maxRecDepth 20000 in
theorem gX6_distance_X6_isForm : GoodIn wsX6_distance (wsV RX6 68 RX6 yX6_isForm wsX6_isForm) := goodIn_app (goodIn_of _ (by decide +kernel)) ggX6_distance_X6_isForm
set_option maxRecDepth 20000 in
theorem ggX6_distance_X6_clear : GoodIn wsX6_distance wsX6_clear := goodIn_r _ [11, 12, 13, 27, 28, 29, 30, 31, 32, 33, 34, 35, 36, 37, 38, 39, 40, 41, 42] (by decide +kernel) (by decide +kernel)
set_option maxRecDepth 20000 in
theorem gX6_distance_X6_clear : GoodIn wsX6_distance (wsV RX6 150 RX6 yX6_clear wsX6_clear) := goodIn_app (goodIn_of _ (by decide +kernel)) ggX6_distance_X6_clear
set_option maxRecDepth 20000 in
theorem ggX6_distance_X6_up : GoodIn wsX6_distance wsX6_up := goodIn_r _ [17, 18, 19, 27, 28, 29, 30, 31, 32, 33, 34, 35, 36, 37, 38, 39, 40, 41, 42] (by decide +kernel) (by decide +kernel)
set_option maxRecDepth 20000 in
theorem gX6_distance_X6_up : GoodIn wsX6_distance (wsV RX6 72 RX6 yX6_up wsX6_up) := goodIn_app (goodIn_of _ (by decide +kernel)) ggX6_distance_X6_up
set_option maxRecDepth 20000 in
theorem ggX6_distance_X6_had : GoodIn wsX6_distance wsX6_had := goodIn_r _ [23, 24, 25, 13, 26, 27, 28, 29, 30, 31, 32, 33, 34, 35, 36, 37, 38, 39, 40, 41, 42] (by decide +kernel) (by decide +kernel)
set_option maxRecDepth 20000 in
theorem gX6_distance_X6_had : GoodIn wsX6_distance (wsV RX6 153 RX6 yX6_had wsX6_had) := goodIn_app (goodIn_of _ (by decide +kernel)) ggX6_distance_X6_had
set_option maxRecDepth 20000 in
theorem ggX6_added_X6_isSpan : GoodIn wsX6_added wsX6_isSpan := goodIn_r _ [11, 12, 13, 14, 15, 16, 17, 18, 19, 20, 21, 22, 23, 24, 25, 26, 27, 28] (by decide +kernel) (by decide +kernel)
set_option maxRecDepth 20000 in
theorem gX6_added_X6_isSpan : GoodIn wsX6_added (wsV RX6 87 RX6 yX6_isSpan wsX6_isSpan) := goodIn_app (goodIn_of _ (by decide +kernel)) ggX6_added_X6_isSpan
set_option maxRecDepth 20000 in
theorem ggX6_addedJoined_X6_isAdded : GoodIn wsX6_addedJoined wsX6_isAdded := goodIn_r _ [9, 2, 3, 4, 5] (by decide +kernel) (by decide +kernel)
set_option maxRecDepth 20000 in
theorem gX6_addedJoined_X6_isAdded : GoodIn wsX6_addedJoined (va_wsS RX6 163 yX6_isAdded wsX6_isAdded) := goodIn_app (goodIn_of _ (by decide +kernel)) ggX6_addedJoined_X6_isAdded
set_option maxRecDepth 20000 in
theorem ggX6_addedJoined_X6_isFar : GoodIn wsX6_addedJoined wsX6_isFar := goodIn_r _ [12, 13] (by decide +kernel) (by decide +kernel)
set_option maxRecDepth 20000 in
theorem gX6_addedJoined_X6_isFar : GoodIn wsX6_addedJoined (va_wsS RX6 105 yX6_isFar wsX6_isFar) := goodIn_app (goodIn_of _ (by decide +kernel)) ggX6_addedJoined_X6_isFar
