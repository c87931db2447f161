set_option maxRecDepth 20000 in
theorem ggX1_init_X0_init : GoodIn wsX1_init wsX0_init := goodIn_r _ [13, 14, 2, 3, 15, 16, 17, 18, 19, 20, 21, 29, 30, 31, 32, 33] (by decide +kernel) (by decide +kernel)
set_option maxRecDepth 20000 in
theorem gX1_init_X0_init_n11 : GoodIn wsX1_init (wsX0_init) := ggX1_init_X0_init
set_option maxRecDepth 20000 in
theorem ggX1_init_X4_init : GoodIn wsX1_init wsX4_init := goodIn_r _ [23, 24, 2, 3, 25, 26, 27, 28, 42, 43, 44, 45] (by decide +kernel) (by decide +kernel)
set_option maxRecDepth 20000 in
theorem gX1_init_X4_init_n20 : GoodIn wsX1_init (wsX4_init) := ggX1_init_X4_init
set_option maxRecDepth 20000 in
theorem ggX1_sumOf_X1_turned : GoodIn wsX1_sumOf wsX1_turned := goodIn_r _ [7] (by decide +kernel) (by decide +kernel)
set_option maxRecDepth 20000 in
theorem gX1_sumOf_X1_turned : GoodIn wsX1_sumOf (va_wsS RX1 46 yX1_turned wsX1_turned) := goodIn_app (goodIn_of _ (by decide +kernel)) ggX1_sumOf_X1_turned
set_option maxRecDepth 20000 in
theorem ggX1_registerOf_X1_turned : GoodIn wsX1_registerOf wsX1_turned := goodIn_r _ [7] (by decide +kernel) (by decide +kernel)
set_option maxRecDepth 20000 in
theorem gX1_registerOf_X1_turned : GoodIn wsX1_registerOf (va_wsS RX1 46 yX1_turned wsX1_turned) := goodIn_app (goodIn_of _ (by decide +kernel)) ggX1_registerOf_X1_turned
set_option maxRecDepth 20000 in
theorem ggX1_behindOctet_X2_timesX : GoodIn wsX1_behindOctet wsX2_timesX := goodIn_r _ [6] (by decide +kernel) (by decide +kernel)
set_option maxRecDepth 20000 in
theorem gX1_behindOctet_X2_timesX_n50 : GoodIn wsX1_behindOctet (wsX2_timesX) := ggX1_behindOctet_X2_timesX
set_option maxRecDepth 20000 in
theorem ggX1_movedByOctets_X2_timesX : GoodIn wsX1_movedByOctets wsX2_timesX := goodIn_r _ [5] (by decide +kernel) (by decide +kernel)
set_option maxRecDepth 20000 in
theorem gX1_movedByOctets_X2_timesX_n50 : GoodIn wsX1_movedByOctets (wsX2_timesX) := ggX1_movedByOctets_X2_timesX
set_option maxRecDepth 20000 in
theorem ggX1_movedByOctets_X2_product : GoodIn wsX1_movedByOctets wsX2_product := goodIn_r _ [7, 8, 9, 4, 10, 11, 3, 5] (by decide +kernel) (by decide +kernel)
set_option maxRecDepth 20000 in
theorem gX1_movedByOctets_X2_product_n56 : GoodIn wsX1_movedByOctets (wsX2_product) := ggX1_movedByOctets_X2_product
set_option maxRecDepth 20000 in
theorem ggX1_octetsBetween_X1_movedDown : GoodIn wsX1_octetsBetween wsX1_movedDown := goodIn_r _ [7, 8, 17, 18, 19, 20, 21, 22, 23, 24] (by decide +kernel) (by decide +kernel)
set_option maxRecDepth 20000 in
theorem gX1_octetsBetween_X1_movedDown : GoodIn wsX1_octetsBetween (wsV RX1 60 RX1 yX1_movedDown wsX1_movedDown) := goodIn_app (goodIn_of _ (by decide +kernel)) ggX1_octetsBetween_X1_movedDown
set_option maxRecDepth 20000 in
theorem ggX1_octetsBetween_X1_turnedByOctets : GoodIn wsX1_octetsBetween wsX1_turnedByOctets := goodIn_r _ [12, 1, 13, 14, 15, 6, 16, 17, 18, 19, 20, 21, 22, 23, 24] (by decide +kernel) (by decide +kernel)
set_option maxRecDepth 20000 in
theorem gX1_octetsBetween_X1_turnedByOctets : GoodIn wsX1_octetsBetween (wsV RX1 64 RX1 yX1_turnedByOctets wsX1_turnedByOctets) := goodIn_app (goodIn_of _ (by decide +kernel)) ggX1_octetsBetween_X1_turnedByOctets
set_option maxRecDepth 20000 in
theorem ggX1_turnedByOctets_X1_turned : GoodIn wsX1_turnedByOctets wsX1_turned := goodIn_r _ [6] (by decide +kernel) (by decide +kernel)
set_option maxRecDepth 20000 in
theorem gX1_turnedByOctets_X1_turned : GoodIn wsX1_turnedByOctets (va_wsS RX1 46 yX1_turned wsX1_turned) := goodIn_app (goodIn_of _ (by decide +kernel)) ggX1_turnedByOctets_X1_turned
