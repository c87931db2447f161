set_option maxRecDepth 20000 in
theorem ggX0_findFor_X2_degree : GoodIn wsX0_findFor wsX2_degree := goodIn_r _ [7] (by decide +kernel) (by decide +kernel)
set_option maxRecDepth 20000 in
theorem gX0_findFor_X2_degree_n34 : GoodIn wsX0_findFor (wsX2_degree) := ggX0_findFor_X2_degree
set_option maxRecDepth 20000 in
theorem ggX0_findFor_X2_product : GoodIn wsX0_findFor wsX2_product := goodIn_r _ [9, 10, 5, 6, 7, 11, 12, 13] (by decide +kernel) (by decide +kernel)
set_option maxRecDepth 20000 in
theorem gX0_findFor_X2_product_n38 : GoodIn wsX0_findFor (wsX2_product) := ggX0_findFor_X2_product
set_option maxRecDepth 20000 in
theorem ggX0_findFor_X2_greatestCommon : GoodIn wsX0_findFor wsX2_greatestCommon := goodIn_r _ [15, 16, 17, 6, 18, 10, 5, 7] (by decide +kernel) (by decide +kernel)
set_option maxRecDepth 20000 in
theorem gX0_findFor_X2_greatestCommon_n42 : GoodIn wsX0_findFor (wsX2_greatestCommon) := ggX0_findFor_X2_greatestCommon
set_option maxRecDepth 20000 in
theorem ggX0_findFor_X0_append : GoodIn wsX0_findFor wsX0_append := goodIn_r _ [23, 2, 24, 25, 47, 48, 49, 50, 51] (by decide +kernel) (by decide +kernel)
set_option maxRecDepth 20000 in
theorem gX0_findFor_X0_append : GoodIn wsX0_findFor (wsV RX0 46 RX0 yX0_append wsX0_append) := goodIn_app (goodIn_of _ (by decide +kernel)) ggX0_findFor_X0_append
set_option maxRecDepth 20000 in
theorem ggX0_findFor_X0_split : GoodIn wsX0_findFor wsX0_split := goodIn_r _ [29, 2, 5, 6, 7, 12, 13, 30, 31, 32, 8, 9, 10, 11, 33, 34, 35, 22, 36, 24, 17, 18, 14, 15, 16, 37, 38, 19, 20, 21, 23, 25, 47, 48, 49, 50, 51] (by decide +kernel) (by decide +kernel)
set_option maxRecDepth 20000 in
theorem gX0_findFor_X0_split : GoodIn wsX0_findFor (wsV RX0 50 RX0 yX0_split wsX0_split) := goodIn_app (goodIn_of _ (by decide +kernel)) ggX0_findFor_X0_split
set_option maxRecDepth 20000 in
theorem ggX0_findFor_X0_sort : GoodIn wsX0_findFor wsX0_sort := goodIn_r _ [42, 2, 24, 47, 48, 49, 50, 51] (by decide +kernel) (by decide +kernel)
set_option maxRecDepth 20000 in
theorem gX0_findFor_X0_sort : GoodIn wsX0_findFor (wsV RX0 54 RX0 yX0_sort wsX0_sort) := goodIn_app (goodIn_of _ (by decide +kernel)) ggX0_findFor_X0_sort
set_option maxRecDepth 20000 in
theorem ggX0_findFor_X0_withoutFactorsFrom : GoodIn wsX0_findFor wsX0_withoutFactorsFrom := goodIn_r _ [46, 2, 25, 24, 17, 6, 18, 10, 5, 7, 37, 38, 47, 48, 49, 50, 51] (by decide +kernel) (by decide +kernel)
set_option maxRecDepth 20000 in
theorem gX0_findFor_X0_withoutFactorsFrom : GoodIn wsX0_findFor (wsV RX0 58 RX0 yX0_withoutFactorsFrom wsX0_withoutFactorsFrom) := goodIn_app (goodIn_of _ (by decide +kernel)) ggX0_findFor_X0_withoutFactorsFrom
set_option maxRecDepth 20000 in
theorem ggX0_findFor_X2_remainder : GoodIn wsX0_findFor wsX2_remainder := goodIn_r _ [18, 10, 5, 6, 7] (by decide +kernel) (by decide +kernel)
set_option maxRecDepth 20000 in
theorem gX0_findFor_X2_remainder_n62 : GoodIn wsX0_findFor (wsX2_remainder) := ggX0_findFor_X2_remainder
set_option maxRecDepth 20000 in
theorem ggX0_split_X2_degree : GoodIn wsX0_split wsX2_degree := goodIn_r _ [4] (by decide +kernel) (by decide +kernel)
set_option maxRecDepth 20000 in
theorem gX0_split_X2_degree_n34 : GoodIn wsX0_split (wsX2_degree) := ggX0_split_X2_degree
set_option maxRecDepth 20000 in
theorem ggX0_split_X2_timesX : GoodIn wsX0_split wsX2_timesX := goodIn_r _ [6] (by decide +kernel) (by decide +kernel)
set_option maxRecDepth 20000 in
theorem gX0_split_X2_timesX_n65 : GoodIn wsX0_split (wsX2_timesX) := ggX0_split_X2_timesX
set_option maxRecDepth 20000 in
theorem ggX0_split_X2_trace : GoodIn wsX0_split wsX2_trace := goodIn_r _ [8, 9, 10, 3, 11, 12, 2, 4, 13, 5, 6] (by decide +kernel) (by decide +kernel)
set_option maxRecDepth 20000 in
theorem gX0_split_X2_trace_n69 : GoodIn wsX0_split (wsX2_trace) := ggX0_split_X2_trace
set_option maxRecDepth 20000 in
theorem ggX0_split_X0_splitOne : GoodIn wsX0_split wsX0_splitOne := goodIn_r _ [18, 19, 20, 3, 21, 12, 2, 4, 22, 23, 24, 25, 26, 27, 28, 29, 17, 30, 1, 31, 32, 33, 34, 35, 36] (by decide +kernel) (by decide +kernel)
set_option maxRecDepth 20000 in
theorem gX0_split_X0_splitOne : GoodIn wsX0_split (wsV RX0 73 RX0 yX0_splitOne wsX0_splitOne) := goodIn_app (goodIn_of _ (by decide +kernel)) ggX0_split_X0_splitOne
set_option maxRecDepth 20000 in
theorem ggX0_splitOne_X2_remainder : GoodIn wsX0_splitOne wsX2_remainder := goodIn_r _ [4, 5, 6, 3, 7] (by decide +kernel) (by decide +kernel)
set_option maxRecDepth 20000 in
theorem gX0_splitOne_X2_remainder_n62 : GoodIn wsX0_splitOne (wsX2_remainder) := ggX0_splitOne_X2_remainder
set_option maxRecDepth 20000 in
theorem ggX0_splitOne_X2_greatestCommon : GoodIn wsX0_splitOne wsX2_greatestCommon := goodIn_r _ [9, 10, 2, 3, 4, 5, 6, 7] (by decide +kernel) (by decide +kernel)
set_option maxRecDepth 20000 in
theorem gX0_splitOne_X2_greatestCommon_n42 : GoodIn wsX0_splitOne (wsX2_greatestCommon) := ggX0_splitOne_X2_greatestCommon
set_option maxRecDepth 20000 in
theorem ggX0_splitOne_X2_quotient : GoodIn wsX0_splitOne wsX2_quotient := goodIn_r _ [12, 5, 6, 3, 7] (by decide +kernel) (by decide +kernel)
set_option maxRecDepth 20000 in
theorem gX0_splitOne_X2_quotient_n77 : GoodIn wsX0_splitOne (wsX2_quotient) := ggX0_splitOne_X2_quotient
set_option maxRecDepth 20000 in
theorem ggX0_splitOne_X0_append : GoodIn wsX0_splitOne wsX0_append := goodIn_r _ [17, 18, 1, 19, 20, 21, 22, 23, 24] (by decide +kernel) (by decide +kernel)
set_option maxRecDepth 20000 in
theorem gX0_splitOne_X0_append : GoodIn wsX0_splitOne (wsV RX0 46 RX0 yX0_append wsX0_append) := goodIn_app (goodIn_of _ (by decide +kernel)) ggX0_splitOne_X0_append
set_option maxRecDepth 20000 in
theorem ggX0_withoutFactorsFrom_X2_remainder : GoodIn wsX0_withoutFactorsFrom wsX2_remainder := goodIn_r _ [6, 7, 8, 5, 9] (by decide +kernel) (by decide +kernel)
set_option maxRecDepth 20000 in
theorem gX0_withoutFactorsFrom_X2_remainder_n62 : GoodIn wsX0_withoutFactorsFrom (wsX2_remainder) := ggX0_withoutFactorsFrom_X2_remainder
set_option maxRecDepth 20000 in
theorem ggX0_withoutFactorsFrom_X2_quotient : GoodIn wsX0_withoutFactorsFrom wsX2_quotient := goodIn_r _ [11, 7, 8, 5, 9] (by decide +kernel) (by decide +kernel)
set_option maxRecDepth 20000 in
theorem gX0_withoutFactorsFrom_X2_quotient_n77 : GoodIn wsX0_withoutFactorsFrom (wsX2_quotient) := ggX0_withoutFactorsFrom_X2_quotient
set_option maxRecDepth 20000 in
theorem ggX0_foundPeriod_X0_periodOf : GoodIn wsX0_foundPeriod wsX0_periodOf := goodIn_r _ [9, 10, 11, 12, 13, 14, 15, 8, 16, 17, 18, 19, 20, 21, 22, 23, 24, 25] (by decide +kernel) (by decide +kernel)
set_option maxRecDepth 20000 in
theorem gX0_foundPeriod_X0_periodOf : GoodIn wsX0_foundPeriod (va_wsS RX0 80 yX0_periodOf wsX0_periodOf) := goodIn_app (goodIn_of _ (by decide +kernel)) ggX0_foundPeriod_X0_periodOf
set_option maxRecDepth 20000 in
theorem ggX0_foundPeriod_X0_leastCommonMultiple : GoodIn wsX0_foundPeriod wsX0_leastCommonMultiple := goodIn_r _ [28] (by decide +kernel) (by decide +kernel)
set_option maxRecDepth 20000 in
theorem gX0_foundPeriod_X0_leastCommonMultiple : GoodIn wsX0_foundPeriod (va_wsS RX0 84 yX0_leastCommonMultiple wsX0_leastCommonMultiple) := goodIn_app (goodIn_of _ (by decide +kernel)) ggX0_foundPeriod_X0_leastCommonMultiple
set_option maxRecDepth 20000 in
theorem ggX0_periodOf_X2_degree : GoodIn wsX0_periodOf wsX2_degree := goodIn_r _ [4] (by decide +kernel) (by decide +kernel)
set_option maxRecDepth 20000 in
theorem gX0_periodOf_X2_degree_n34 : GoodIn wsX0_periodOf (wsX2_degree) := ggX0_periodOf_X2_degree
set_option maxRecDepth 20000 in
theorem ggX0_periodOf_X0_withoutPrime : GoodIn wsX0_periodOf wsX0_withoutPrime := goodIn_r _ [8, 9, 3, 10, 11, 2, 4, 12, 13, 14, 15, 16, 17] (by decide +kernel) (by decide +kernel)
set_option maxRecDepth 20000 in
theorem gX0_periodOf_X0_withoutPrime : GoodIn wsX0_periodOf (va_wsS RX0 90 yX0_withoutPrime wsX0_withoutPrime) := goodIn_app (goodIn_of _ (by decide +kernel)) ggX0_periodOf_X0_withoutPrime
set_option maxRecDepth 20000 in
theorem ggX0_withoutPrime_X2_powerOfX : GoodIn wsX0_withoutPrime wsX2_powerOfX := goodIn_r _ [3, 4, 5, 2, 6, 7, 8, 9, 10, 11, 12] (by decide +kernel) (by decide +kernel)
set_option maxRecDepth 20000 in
theorem gX0_withoutPrime_X2_powerOfX_n93 : GoodIn wsX0_withoutPrime (wsX2_powerOfX) := ggX0_withoutPrime_X2_powerOfX
