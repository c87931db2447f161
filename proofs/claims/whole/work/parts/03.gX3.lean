set_option maxRecDepth 20000 in
theorem ggX3_add_X3_slotOf : GoodIn wsX3_add wsX3_slotOf := goodIn_r _ [8, 9, 3, 10, 11, 12] (by decide +kernel) (by decide +kernel)
set_option maxRecDepth 20000 in
theorem gX3_add_X3_slotOf : GoodIn wsX3_add (wsV RX3 22 RX3 yX3_slotOf wsX3_slotOf) := goodIn_app (goodIn_of _ (by decide +kernel)) ggX3_add_X3_slotOf
set_option maxRecDepth 20000 in
theorem ggX3_has_X3_slotOf : GoodIn wsX3_has wsX3_slotOf := goodIn_r _ [6, 7, 1, 8, 9, 10] (by decide +kernel) (by decide +kernel)
set_option maxRecDepth 20000 in
theorem gX3_has_X3_slotOf : GoodIn wsX3_has (wsV RX3 22 RX3 yX3_slotOf wsX3_slotOf) := goodIn_app (goodIn_of _ (by decide +kernel)) ggX3_has_X3_slotOf
set_option maxRecDepth 20000 in
theorem ggX3_hasTwo_X3_has : GoodIn wsX3_hasTwo wsX3_has := goodIn_r _ [7, 8, 9, 10, 11, 6, 12, 13, 14, 15, 16] (by decide +kernel) (by decide +kernel)
set_option maxRecDepth 20000 in
theorem gX3_hasTwo_X3_has : GoodIn wsX3_hasTwo (wsV RX3 26 RX3 yX3_has wsX3_has) := goodIn_app (goodIn_of _ (by decide +kernel)) ggX3_hasTwo_X3_has
