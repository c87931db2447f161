set_option maxRecDepth 20000 in
theorem ggX2_remainder_X2_degree : GoodIn wsX2_remainder wsX2_degree := goodIn_r _ [4] (by decide +kernel) (by decide +kernel)
set_option maxRecDepth 20000 in
theorem gX2_remainder_X2_degree : GoodIn wsX2_remainder (va_wsS RX2 7 yX2_degree wsX2_degree) := goodIn_app (goodIn_of _ (by decide +kernel)) ggX2_remainder_X2_degree
set_option maxRecDepth 20000 in
theorem ggX2_quotient_X2_degree : GoodIn wsX2_quotient wsX2_degree := goodIn_r _ [4] (by decide +kernel) (by decide +kernel)
set_option maxRecDepth 20000 in
theorem gX2_quotient_X2_degree : GoodIn wsX2_quotient (va_wsS RX2 7 yX2_degree wsX2_degree) := goodIn_app (goodIn_of _ (by decide +kernel)) ggX2_quotient_X2_degree
set_option maxRecDepth 20000 in
theorem ggX2_greatestCommon_X2_remainder : GoodIn wsX2_greatestCommon wsX2_remainder := goodIn_r _ [4, 5, 6, 3, 7] (by decide +kernel) (by decide +kernel)
set_option maxRecDepth 20000 in
theorem gX2_greatestCommon_X2_remainder : GoodIn wsX2_greatestCommon (va_wsS RX2 13 yX2_remainder wsX2_remainder) := goodIn_app (goodIn_of _ (by decide +kernel)) ggX2_greatestCommon_X2_remainder
set_option maxRecDepth 20000 in
theorem ggX2_product_X2_degree : GoodIn wsX2_product wsX2_degree := goodIn_r _ [4] (by decide +kernel) (by decide +kernel)
set_option maxRecDepth 20000 in
theorem gX2_product_X2_degree : GoodIn wsX2_product (va_wsS RX2 7 yX2_degree wsX2_degree) := goodIn_app (goodIn_of _ (by decide +kernel)) ggX2_product_X2_degree
set_option maxRecDepth 20000 in
theorem ggX2_product_X2_timesX : GoodIn wsX2_product wsX2_timesX := goodIn_r _ [7] (by decide +kernel) (by decide +kernel)
set_option maxRecDepth 20000 in
theorem gX2_product_X2_timesX : GoodIn wsX2_product (va_wsS RX2 17 yX2_timesX wsX2_timesX) := goodIn_app (goodIn_of _ (by decide +kernel)) ggX2_product_X2_timesX
set_option maxRecDepth 20000 in
theorem ggX2_powerOfX_X2_degree : GoodIn wsX2_powerOfX wsX2_degree := goodIn_r _ [4] (by decide +kernel) (by decide +kernel)
set_option maxRecDepth 20000 in
theorem gX2_powerOfX_X2_degree : GoodIn wsX2_powerOfX (va_wsS RX2 7 yX2_degree wsX2_degree) := goodIn_app (goodIn_of _ (by decide +kernel)) ggX2_powerOfX_X2_degree
set_option maxRecDepth 20000 in
theorem ggX2_powerOfX_X2_product : GoodIn wsX2_powerOfX wsX2_product := goodIn_r _ [7, 1, 2, 3, 4, 8, 9, 10] (by decide +kernel) (by decide +kernel)
set_option maxRecDepth 20000 in
theorem gX2_powerOfX_X2_product : GoodIn wsX2_powerOfX (va_wsS RX2 21 yX2_product wsX2_product) := goodIn_app (goodIn_of _ (by decide +kernel)) ggX2_powerOfX_X2_product
set_option maxRecDepth 20000 in
theorem ggX2_powerOfX_X2_timesX : GoodIn wsX2_powerOfX wsX2_timesX := goodIn_r _ [10] (by decide +kernel) (by decide +kernel)
set_option maxRecDepth 20000 in
theorem gX2_powerOfX_X2_timesX : GoodIn wsX2_powerOfX (va_wsS RX2 17 yX2_timesX wsX2_timesX) := goodIn_app (goodIn_of _ (by decide +kernel)) ggX2_powerOfX_X2_timesX
set_option maxRecDepth 20000 in
theorem ggX2_trace_X2_product : GoodIn wsX2_trace wsX2_product := goodIn_r _ [4, 5, 6, 3, 7, 8, 9, 10] (by decide +kernel) (by decide +kernel)
set_option maxRecDepth 20000 in
theorem gX2_trace_X2_product : GoodIn wsX2_trace (va_wsS RX2 21 yX2_product wsX2_product) := goodIn_app (goodIn_of _ (by decide +kernel)) ggX2_trace_X2_product
