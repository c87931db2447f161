set_option maxRecDepth 20000 in
theorem ggX4_findFor_X2_degree : GoodIn wsX4_findFor wsX2_degree := goodIn_r _ [7] (by decide +kernel) (by decide +kernel)
set_option maxRecDepth 20000 in
theorem gX4_findFor_X2_degree_n25 : GoodIn wsX4_findFor (wsX2_degree) := ggX4_findFor_X2_degree
set_option maxRecDepth 20000 in
theorem ggX4_findFor_X3_clear : GoodIn wsX4_findFor wsX3_clear := goodIn_r _ [11, 12, 13, 41, 42, 43] (by decide +kernel) (by decide +kernel)
set_option maxRecDepth 20000 in
theorem gX4_findFor_X3_clear_n31 : GoodIn wsX4_findFor (wsX3_clear) := ggX4_findFor_X3_clear
set_option maxRecDepth 20000 in
theorem ggX4_findFor_X3_add : GoodIn wsX4_findFor wsX3_add := goodIn_r _ [16, 12, 17, 13, 18, 19, 20, 9, 21, 22, 41, 42, 43] (by decide +kernel) (by decide +kernel)
set_option maxRecDepth 20000 in
theorem gX4_findFor_X3_add_n36 : GoodIn wsX4_findFor (wsX3_add) := ggX4_findFor_X3_add
set_option maxRecDepth 20000 in
theorem ggX4_findFor_X2_timesX : GoodIn wsX4_findFor wsX2_timesX := goodIn_r _ [24] (by decide +kernel) (by decide +kernel)
set_option maxRecDepth 20000 in
theorem gX4_findFor_X2_timesX_n40 : GoodIn wsX4_findFor (wsX2_timesX) := ggX4_findFor_X2_timesX
set_option maxRecDepth 20000 in
theorem ggX4_findFor_X4_lookAt : GoodIn wsX4_findFor wsX4_lookAt := goodIn_r _ [29, 2, 3, 4, 30, 9, 31, 32, 13, 18, 19, 20, 21, 22, 33, 34, 35, 12, 17, 36, 37, 38, 39, 40, 41, 42, 43] (by decide +kernel) (by decide +kernel)
set_option maxRecDepth 20000 in
theorem gX4_findFor_X4_lookAt : GoodIn wsX4_findFor (wsV RX4 44 RX4 yX4_lookAt wsX4_lookAt) := goodIn_app (goodIn_of _ (by decide +kernel)) ggX4_findFor_X4_lookAt
set_option maxRecDepth 20000 in
theorem ggX4_lookAt_X3_has : GoodIn wsX4_lookAt wsX3_has := goodIn_r _ [7, 8, 9, 10, 11, 5, 12, 13, 24, 25, 26] (by decide +kernel) (by decide +kernel)
set_option maxRecDepth 20000 in
theorem gX4_lookAt_X3_has_n48 : GoodIn wsX4_lookAt (wsX3_has) := ggX4_lookAt_X3_has
set_option maxRecDepth 20000 in
theorem ggX4_lookAt_X3_hasTwo : GoodIn wsX4_lookAt wsX3_hasTwo := goodIn_r _ [16, 17, 18, 19, 4, 6, 5, 7, 8, 9, 10, 11, 12, 13, 24, 25, 26] (by decide +kernel) (by decide +kernel)
set_option maxRecDepth 20000 in
theorem gX4_lookAt_X3_hasTwo_n52 : GoodIn wsX4_lookAt (wsX3_hasTwo) := ggX4_lookAt_X3_hasTwo
