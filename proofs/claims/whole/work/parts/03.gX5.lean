set_option maxRecDepth 20000 in
theorem ggX5_init_X3_init : GoodIn wsX5_init wsX3_init := goodIn_r _ [17, 18, 2, 3, 19, 20, 21, 22, 54, 55, 56] (by decide +kernel) (by decide +kernel)
set_option maxRecDepth 20000 in
theorem gX5_init_X3_init_n28 : GoodIn wsX5_init (wsX3_init) := ggX5_init_X3_init
set_option maxRecDepth 20000 in
theorem ggX5_init_X1_init : GoodIn wsX5_init wsX1_init := goodIn_r _ [24, 25, 2, 3, 26, 27, 28, 29, 30, 31, 32, 33, 34, 35, 36, 19, 37, 4, 38, 39, 40, 41, 42, 43, 44, 45, 46, 47, 48, 65, 66, 67, 68, 69, 57, 58, 59, 60, 61, 62, 63, 64, 70, 71, 72, 73] (by decide +kernel) (by decide +kernel)
set_option maxRecDepth 20000 in
theorem gX5_init_X1_init_n33 : GoodIn wsX5_init (wsX1_init) := ggX5_init_X1_init
set_option maxRecDepth 20000 in
theorem ggX5_form_X5_hasBits : GoodIn wsX5_form wsX5_hasBits := goodIn_r _ [6] (by decide +kernel) (by decide +kernel)
set_option maxRecDepth 20000 in
theorem gX5_form_X5_hasBits : GoodIn wsX5_form (va_wsS RX5 34 yX5_hasBits wsX5_hasBits) := goodIn_app (goodIn_of _ (by decide +kernel)) ggX5_form_X5_hasBits
set_option maxRecDepth 20000 in
theorem ggX5_form_X1_become : GoodIn wsX5_form wsX1_become := goodIn_r _ [10, 11, 12, 13, 14, 15, 16, 22, 23, 24, 25, 26, 27, 28, 29] (by decide +kernel) (by decide +kernel)
set_option maxRecDepth 20000 in
theorem gX5_form_X1_become_n38 : GoodIn wsX5_form (wsX1_become) := ggX5_form_X1_become
set_option maxRecDepth 20000 in
theorem ggX5_sum_X5_isForm : GoodIn wsX5_sum wsX5_isForm := goodIn_r _ [8, 9, 33, 34, 35, 36, 37] (by decide +kernel) (by decide +kernel)
set_option maxRecDepth 20000 in
theorem gX5_sum_X5_isForm : GoodIn wsX5_sum (wsV RX5 42 RX5 yX5_isForm wsX5_isForm) := goodIn_app (goodIn_of _ (by decide +kernel)) ggX5_sum_X5_isForm
set_option maxRecDepth 20000 in
theorem ggX5_sum_X5_isPart : GoodIn wsX5_sum wsX5_isPart := goodIn_r _ [13, 14, 33, 34, 35, 36, 37] (by decide +kernel) (by decide +kernel)
set_option maxRecDepth 20000 in
theorem gX5_sum_X5_isPart : GoodIn wsX5_sum (wsV RX5 46 RX5 yX5_isPart wsX5_isPart) := goodIn_app (goodIn_of _ (by decide +kernel)) ggX5_sum_X5_isPart
set_option maxRecDepth 20000 in
theorem ggX5_sum_X1_behindOctet : GoodIn wsX5_sum wsX1_behindOctet := goodIn_r _ [18, 19, 20, 21, 22, 23, 24, 38, 39, 40, 41, 42, 43, 44, 45] (by decide +kernel) (by decide +kernel)
set_option maxRecDepth 20000 in
theorem gX5_sum_X1_behindOctet_n56 : GoodIn wsX5_sum (wsX1_behindOctet) := ggX5_sum_X1_behindOctet
set_option maxRecDepth 20000 in
theorem ggX5_sum_X1_sumOf : GoodIn wsX5_sum wsX1_sumOf := goodIn_r _ [27, 28, 20, 29, 30, 31, 16, 32, 38, 39, 40, 41, 42, 43, 44, 45] (by decide +kernel) (by decide +kernel)
set_option maxRecDepth 20000 in
theorem gX5_sum_X1_sumOf_n60 : GoodIn wsX5_sum (wsX1_sumOf) := ggX5_sum_X1_sumOf
set_option maxRecDepth 20000 in
theorem ggX5_joined_X5_isSum : GoodIn wsX5_joined wsX5_isSum := goodIn_r _ [7, 2, 8, 9, 10, 6, 11, 12, 13, 14, 15, 46, 47, 48, 49, 50, 51, 52, 53, 54, 55, 56, 57, 58] (by decide +kernel) (by decide +kernel)
set_option maxRecDepth 20000 in
theorem gX5_joined_X5_isSum : GoodIn wsX5_joined (wsV RX5 64 RX5 yX5_isSum wsX5_isSum) := goodIn_app (goodIn_of _ (by decide +kernel)) ggX5_joined_X5_isSum
set_option maxRecDepth 20000 in
theorem ggX5_joined_X5_isLength : GoodIn wsX5_joined wsX5_isLength := goodIn_r _ [18, 19] (by decide +kernel) (by decide +kernel)
set_option maxRecDepth 20000 in
theorem gX5_joined_X5_isLength : GoodIn wsX5_joined (va_wsS RX5 68 yX5_isLength wsX5_isLength) := goodIn_app (goodIn_of _ (by decide +kernel)) ggX5_joined_X5_isLength
set_option maxRecDepth 20000 in
theorem ggX5_joined_X1_registerOf : GoodIn wsX5_joined wsX1_registerOf := goodIn_r _ [23, 24, 25, 26, 27, 28, 21, 29, 51, 52, 53, 54, 55, 56, 57, 58] (by decide +kernel) (by decide +kernel)
set_option maxRecDepth 20000 in
theorem gX5_joined_X1_registerOf_n72 : GoodIn wsX5_joined (wsX1_registerOf) := ggX5_joined_X1_registerOf
set_option maxRecDepth 20000 in
theorem ggX5_joined_X1_movedByOctets : GoodIn wsX5_joined wsX1_movedByOctets := goodIn_r _ [32, 33, 26, 34, 35, 36, 37, 38, 39, 40, 41, 42, 51, 52, 53, 54, 55, 56, 57, 58] (by decide +kernel) (by decide +kernel)
set_option maxRecDepth 20000 in
theorem gX5_joined_X1_movedByOctets_n75 : GoodIn wsX5_joined (wsX1_movedByOctets) := ggX5_joined_X1_movedByOctets
set_option maxRecDepth 20000 in
theorem ggX5_joined_X1_sumOf : GoodIn wsX5_joined wsX1_sumOf := goodIn_r _ [45, 24, 26, 25, 27, 28, 21, 29, 51, 52, 53, 54, 55, 56, 57, 58] (by decide +kernel) (by decide +kernel)
set_option maxRecDepth 20000 in
theorem gX5_joined_X1_sumOf_n60 : GoodIn wsX5_joined (wsX1_sumOf) := ggX5_joined_X1_sumOf
set_option maxRecDepth 20000 in
theorem ggX5_zeros_X5_isSum : GoodIn wsX5_zeros wsX5_isSum := goodIn_r _ [7, 2, 8, 9, 10, 6, 11, 12, 13, 14, 15, 46, 47, 48, 49, 50, 51, 52, 53, 54, 55, 56, 57, 58] (by decide +kernel) (by decide +kernel)
set_option maxRecDepth 20000 in
theorem gX5_zeros_X5_isSum : GoodIn wsX5_zeros (wsV RX5 64 RX5 yX5_isSum wsX5_isSum) := goodIn_app (goodIn_of _ (by decide +kernel)) ggX5_zeros_X5_isSum
set_option maxRecDepth 20000 in
theorem ggX5_zeros_X5_isLength : GoodIn wsX5_zeros wsX5_isLength := goodIn_r _ [18, 19] (by decide +kernel) (by decide +kernel)
set_option maxRecDepth 20000 in
theorem gX5_zeros_X5_isLength : GoodIn wsX5_zeros (va_wsS RX5 68 yX5_isLength wsX5_isLength) := goodIn_app (goodIn_of _ (by decide +kernel)) ggX5_zeros_X5_isLength
set_option maxRecDepth 20000 in
theorem ggX5_zeros_X1_registerOf : GoodIn wsX5_zeros wsX1_registerOf := goodIn_r _ [23, 24, 25, 26, 27, 28, 21, 29, 51, 52, 53, 54, 55, 56, 57, 58] (by decide +kernel) (by decide +kernel)
set_option maxRecDepth 20000 in
theorem gX5_zeros_X1_registerOf_n72 : GoodIn wsX5_zeros (wsX1_registerOf) := ggX5_zeros_X1_registerOf
set_option maxRecDepth 20000 in
theorem ggX5_zeros_X1_movedByOctets : GoodIn wsX5_zeros wsX1_movedByOctets := goodIn_r _ [32, 33, 26, 34, 35, 36, 37, 38, 39, 40, 41, 42, 51, 52, 53, 54, 55, 56, 57, 58] (by decide +kernel) (by decide +kernel)
set_option maxRecDepth 20000 in
theorem gX5_zeros_X1_movedByOctets_n75 : GoodIn wsX5_zeros (wsX1_movedByOctets) := ggX5_zeros_X1_movedByOctets
set_option maxRecDepth 20000 in
theorem ggX5_zeros_X1_sumOf : GoodIn wsX5_zeros wsX1_sumOf := goodIn_r _ [45, 24, 26, 25, 27, 28, 21, 29, 51, 52, 53, 54, 55, 56, 57, 58] (by decide +kernel) (by decide +kernel)
set_option maxRecDepth 20000 in
theorem gX5_zeros_X1_sumOf_n60 : GoodIn wsX5_zeros (wsX1_sumOf) := ggX5_zeros_X1_sumOf
set_option maxRecDepth 20000 in
theorem ggX5_changed_X5_isSum : GoodIn wsX5_changed wsX5_isSum := goodIn_r _ [7, 2, 8, 9, 10, 6, 11, 12, 13, 14, 15, 50, 51, 52, 53, 54, 55, 56, 57, 58, 59, 60, 61, 62] (by decide +kernel) (by decide +kernel)
set_option maxRecDepth 20000 in
theorem gX5_changed_X5_isSum : GoodIn wsX5_changed (wsV RX5 64 RX5 yX5_isSum wsX5_isSum) := goodIn_app (goodIn_of _ (by decide +kernel)) ggX5_changed_X5_isSum
set_option maxRecDepth 20000 in
theorem ggX5_changed_X5_isLength : GoodIn wsX5_changed wsX5_isLength := goodIn_r _ [18, 19] (by decide +kernel) (by decide +kernel)
set_option maxRecDepth 20000 in
theorem gX5_changed_X5_isLength : GoodIn wsX5_changed (va_wsS RX5 68 yX5_isLength wsX5_isLength) := goodIn_app (goodIn_of _ (by decide +kernel)) ggX5_changed_X5_isLength
set_option maxRecDepth 20000 in
theorem ggX5_changed_X1_behindOctet : GoodIn wsX5_changed wsX1_behindOctet := goodIn_r _ [23, 24, 25, 26, 27, 28, 29, 55, 56, 57, 58, 59, 60, 61, 62] (by decide +kernel) (by decide +kernel)
set_option maxRecDepth 20000 in
theorem gX5_changed_X1_behindOctet_n56 : GoodIn wsX5_changed (wsX1_behindOctet) := ggX5_changed_X1_behindOctet
set_option maxRecDepth 20000 in
theorem ggX5_changed_X1_movedByOctets : GoodIn wsX5_changed wsX1_movedByOctets := goodIn_r _ [32, 26, 25, 27, 28, 29, 33, 34, 35, 36, 37, 38, 55, 56, 57, 58, 59, 60, 61, 62] (by decide +kernel) (by decide +kernel)
set_option maxRecDepth 20000 in
theorem gX5_changed_X1_movedByOctets_n75 : GoodIn wsX5_changed (wsX1_movedByOctets) := ggX5_changed_X1_movedByOctets
set_option maxRecDepth 20000 in
theorem ggX5_changed_X1_registerOf : GoodIn wsX5_changed wsX1_registerOf := goodIn_r _ [41, 42, 43, 25, 44, 45, 21, 46, 55, 56, 57, 58, 59, 60, 61, 62] (by decide +kernel) (by decide +kernel)
set_option maxRecDepth 20000 in
theorem gX5_changed_X1_registerOf_n72 : GoodIn wsX5_changed (wsX1_registerOf) := ggX5_changed_X1_registerOf
set_option maxRecDepth 20000 in
theorem ggX5_changed_X1_sumOf : GoodIn wsX5_changed wsX1_sumOf := goodIn_r _ [49, 42, 25, 43, 44, 45, 21, 46, 55, 56, 57, 58, 59, 60, 61, 62] (by decide +kernel) (by decide +kernel)
set_option maxRecDepth 20000 in
theorem gX5_changed_X1_sumOf_n60 : GoodIn wsX5_changed (wsX1_sumOf) := ggX5_changed_X1_sumOf
set_option maxRecDepth 20000 in
theorem ggX5_tail_X5_isSum : GoodIn wsX5_tail wsX5_isSum := goodIn_r _ [7, 1, 8, 9, 10, 6, 11, 12, 13, 14, 15, 40, 41, 42, 43, 44, 45, 46, 47, 48, 49, 50, 51, 52] (by decide +kernel) (by decide +kernel)
set_option maxRecDepth 20000 in
theorem gX5_tail_X5_isSum : GoodIn wsX5_tail (wsV RX5 64 RX5 yX5_isSum wsX5_isSum) := goodIn_app (goodIn_of _ (by decide +kernel)) ggX5_tail_X5_isSum
set_option maxRecDepth 20000 in
theorem ggX5_tail_X1_registerOf : GoodIn wsX5_tail wsX1_registerOf := goodIn_r _ [19, 20, 21, 22, 23, 24, 17, 25, 45, 46, 47, 48, 49, 50, 51, 52] (by decide +kernel) (by decide +kernel)
set_option maxRecDepth 20000 in
theorem gX5_tail_X1_registerOf_n72 : GoodIn wsX5_tail (wsX1_registerOf) := ggX5_tail_X1_registerOf
set_option maxRecDepth 20000 in
theorem ggX5_tail_X1_octetsBetween : GoodIn wsX5_tail wsX1_octetsBetween := goodIn_r _ [28, 22, 29, 30, 31, 32, 17, 33, 34, 35, 36, 37, 38, 39, 23, 24, 25, 45, 46, 47, 48, 49, 50, 51, 52] (by decide +kernel) (by decide +kernel)
set_option maxRecDepth 20000 in
theorem gX5_tail_X1_octetsBetween_n82 : GoodIn wsX5_tail (wsX1_octetsBetween) := ggX5_tail_X1_octetsBetween
set_option maxRecDepth 20000 in
theorem ggX5_factors_X5_isForm : GoodIn wsX5_factors wsX5_isForm := goodIn_r _ [6, 7, 57, 58, 59, 60, 61] (by decide +kernel) (by decide +kernel)
set_option maxRecDepth 20000 in
theorem gX5_factors_X5_isForm : GoodIn wsX5_factors (wsV RX5 42 RX5 yX5_isForm wsX5_isForm) := goodIn_app (goodIn_of _ (by decide +kernel)) ggX5_factors_X5_isForm
set_option maxRecDepth 20000 in
theorem ggX5_factors_X0_findFor : GoodIn wsX5_factors wsX0_findFor := goodIn_r _ [11, 12, 13, 14, 15, 16, 17, 18, 19, 20, 21, 22, 23, 24, 25, 26, 27, 28, 29, 30, 31, 32, 9, 33, 34, 35, 36, 37, 38, 39, 40, 41, 42, 43, 44, 45, 46, 47, 48, 49, 50, 51, 52, 53, 54, 55, 56, 70, 71, 72, 73, 74] (by decide +kernel) (by decide +kernel)
set_option maxRecDepth 20000 in
theorem gX5_factors_X0_findFor_n92 : GoodIn wsX5_factors (wsX0_findFor) := ggX5_factors_X0_findFor
set_option maxRecDepth 20000 in
theorem ggX5_factor_X5_isForm : GoodIn wsX5_factor wsX5_isForm := goodIn_r _ [7, 8, 58, 59, 60, 61, 62] (by decide +kernel) (by decide +kernel)
set_option maxRecDepth 20000 in
theorem gX5_factor_X5_isForm : GoodIn wsX5_factor (wsV RX5 42 RX5 yX5_isForm wsX5_isForm) := goodIn_app (goodIn_of _ (by decide +kernel)) ggX5_factor_X5_isForm
set_option maxRecDepth 20000 in
theorem ggX5_factor_X0_findFor : GoodIn wsX5_factor wsX0_findFor := goodIn_r _ [12, 13, 14, 15, 16, 17, 18, 19, 20, 21, 22, 23, 24, 25, 26, 27, 28, 29, 30, 31, 32, 33, 10, 34, 35, 36, 37, 38, 39, 40, 41, 42, 43, 44, 45, 46, 47, 48, 49, 50, 51, 52, 53, 54, 55, 56, 57, 71, 72, 73, 74, 75] (by decide +kernel) (by decide +kernel)
set_option maxRecDepth 20000 in
theorem gX5_factor_X0_findFor_n92 : GoodIn wsX5_factor (wsX0_findFor) := ggX5_factor_X0_findFor
set_option maxRecDepth 20000 in
theorem ggX5_order_X5_isForm : GoodIn wsX5_order wsX5_isForm := goodIn_r _ [7, 8, 73, 74, 75, 76, 77] (by decide +kernel) (by decide +kernel)
set_option maxRecDepth 20000 in
theorem gX5_order_X5_isForm : GoodIn wsX5_order (wsV RX5 42 RX5 yX5_isForm wsX5_isForm) := goodIn_app (goodIn_of _ (by decide +kernel)) ggX5_order_X5_isForm
set_option maxRecDepth 20000 in
theorem ggX5_order_X0_findFor : GoodIn wsX5_order wsX0_findFor := goodIn_r _ [12, 13, 14, 15, 16, 17, 18, 19, 20, 21, 22, 23, 24, 25, 26, 27, 28, 29, 30, 31, 32, 33, 10, 34, 35, 36, 37, 38, 39, 40, 41, 42, 43, 44, 45, 46, 47, 48, 49, 50, 51, 52, 53, 54, 55, 56, 57, 86, 87, 88, 89, 90] (by decide +kernel) (by decide +kernel)
set_option maxRecDepth 20000 in
theorem gX5_order_X0_findFor_n92 : GoodIn wsX5_order (wsX0_findFor) := ggX5_order_X0_findFor
set_option maxRecDepth 20000 in
theorem ggX5_order_X0_foundPeriod : GoodIn wsX5_order wsX0_foundPeriod := goodIn_r _ [60, 15, 14, 35, 36, 16, 61, 62, 10, 63, 64, 17, 18, 19, 65, 66, 67, 68, 69, 22, 43, 20, 21, 23, 24, 25, 70, 71, 72, 86, 87, 88, 89, 90] (by decide +kernel) (by decide +kernel)
set_option maxRecDepth 20000 in
theorem gX5_order_X0_foundPeriod_n108 : GoodIn wsX5_order (wsX0_foundPeriod) := ggX5_order_X0_foundPeriod
set_option maxRecDepth 20000 in
theorem ggX5_distance_X5_isForm : GoodIn wsX5_distance wsX5_isForm := goodIn_r _ [7, 8, 51, 52, 53, 54, 55] (by decide +kernel) (by decide +kernel)
set_option maxRecDepth 20000 in
theorem gX5_distance_X5_isForm : GoodIn wsX5_distance (wsV RX5 42 RX5 yX5_isForm wsX5_isForm) := goodIn_app (goodIn_of _ (by decide +kernel)) ggX5_distance_X5_isForm
set_option maxRecDepth 20000 in
theorem ggX5_distance_X4_findFor : GoodIn wsX5_distance wsX4_findFor := goodIn_r _ [12, 13, 14, 15, 16, 17, 18, 19, 20, 21, 22, 23, 24, 25, 26, 27, 28, 29, 30, 31, 32, 33, 34, 35, 36, 37, 38, 39, 10, 40, 41, 42, 43, 44, 45, 46, 47, 64, 65, 66, 67, 68, 69, 70] (by decide +kernel) (by decide +kernel)
set_option maxRecDepth 20000 in
theorem gX5_distance_X4_findFor_n116 : GoodIn wsX5_distance (wsX4_findFor) := ggX5_distance_X4_findFor
set_option maxRecDepth 20000 in
theorem ggX5_distance_X4_fewest : GoodIn wsX5_distance wsX4_fewest := goodIn_r _ [50, 14, 15, 16, 64, 65, 66, 67] (by decide +kernel) (by decide +kernel)
set_option maxRecDepth 20000 in
theorem gX5_distance_X4_fewest_n121 : GoodIn wsX5_distance (wsX4_fewest) := ggX5_distance_X4_fewest
set_option maxRecDepth 20000 in
theorem ggX5_added_X5_isAdding : GoodIn wsX5_added wsX5_isAdding := goodIn_r _ [8] (by decide +kernel) (by decide +kernel)
set_option maxRecDepth 20000 in
theorem gX5_added_X5_isAdding : GoodIn wsX5_added (va_wsS RX5 125 yX5_isAdding wsX5_isAdding) := goodIn_app (goodIn_of _ (by decide +kernel)) ggX5_added_X5_isAdding
set_option maxRecDepth 20000 in
theorem ggX5_added_X5_isPart : GoodIn wsX5_added wsX5_isPart := goodIn_r _ [12, 13, 18, 19, 20, 21, 22] (by decide +kernel) (by decide +kernel)
set_option maxRecDepth 20000 in
theorem gX5_added_X5_isPart : GoodIn wsX5_added (wsV RX5 46 RX5 yX5_isPart wsX5_isPart) := goodIn_app (goodIn_of _ (by decide +kernel)) ggX5_added_X5_isPart
set_option maxRecDepth 20000 in
theorem ggX5_added_X5_halves : GoodIn wsX5_added wsX5_halves := goodIn_r _ [16, 17] (by decide +kernel) (by decide +kernel)
set_option maxRecDepth 20000 in
theorem gX5_added_X5_halves : GoodIn wsX5_added (va_wsS RX5 134 yX5_halves wsX5_halves) := goodIn_app (goodIn_of _ (by decide +kernel)) ggX5_added_X5_halves
set_option maxRecDepth 20000 in
theorem ggX5_addedJoined_X5_isAdding : GoodIn wsX5_addedJoined wsX5_isAdding := goodIn_r _ [7] (by decide +kernel) (by decide +kernel)
set_option maxRecDepth 20000 in
theorem gX5_addedJoined_X5_isAdding : GoodIn wsX5_addedJoined (va_wsS RX5 125 yX5_isAdding wsX5_isAdding) := goodIn_app (goodIn_of _ (by decide +kernel)) ggX5_addedJoined_X5_isAdding
set_option maxRecDepth 20000 in
theorem ggX5_addedJoined_X5_isAddingSum : GoodIn wsX5_addedJoined wsX5_isAddingSum := goodIn_r _ [10, 2, 11, 12, 6, 13, 14, 15, 16, 17] (by decide +kernel) (by decide +kernel)
set_option maxRecDepth 20000 in
theorem gX5_addedJoined_X5_isAddingSum : GoodIn wsX5_addedJoined (va_wsS RX5 138 yX5_isAddingSum wsX5_isAddingSum) := goodIn_app (goodIn_of _ (by decide +kernel)) ggX5_addedJoined_X5_isAddingSum
set_option maxRecDepth 20000 in
theorem ggX5_addedJoined_X5_isLength : GoodIn wsX5_addedJoined wsX5_isLength := goodIn_r _ [20, 21] (by decide +kernel) (by decide +kernel)
set_option maxRecDepth 20000 in
theorem gX5_addedJoined_X5_isLength : GoodIn wsX5_addedJoined (va_wsS RX5 68 yX5_isLength wsX5_isLength) := goodIn_app (goodIn_of _ (by decide +kernel)) ggX5_addedJoined_X5_isLength
set_option maxRecDepth 20000 in
theorem ggX5_addedJoined_X5_lowHalf : GoodIn wsX5_addedJoined wsX5_lowHalf := goodIn_r _ [13, 14] (by decide +kernel) (by decide +kernel)
set_option maxRecDepth 20000 in
theorem gX5_addedJoined_X5_lowHalf : GoodIn wsX5_addedJoined (va_wsS RX5 141 yX5_lowHalf wsX5_lowHalf) := goodIn_app (goodIn_of _ (by decide +kernel)) ggX5_addedJoined_X5_lowHalf
set_option maxRecDepth 20000 in
theorem ggX5_addedJoined_X5_highHalf : GoodIn wsX5_addedJoined wsX5_highHalf := goodIn_r _ [17, 14] (by decide +kernel) (by decide +kernel)
set_option maxRecDepth 20000 in
theorem gX5_addedJoined_X5_highHalf : GoodIn wsX5_addedJoined (va_wsS RX5 145 yX5_highHalf wsX5_highHalf) := goodIn_app (goodIn_of _ (by decide +kernel)) ggX5_addedJoined_X5_highHalf
set_option maxRecDepth 20000 in
theorem ggX5_addedJoined_X5_halves : GoodIn wsX5_addedJoined wsX5_halves := goodIn_r _ [24, 14] (by decide +kernel) (by decide +kernel)
set_option maxRecDepth 20000 in
theorem gX5_addedJoined_X5_halves : GoodIn wsX5_addedJoined (va_wsS RX5 134 yX5_halves wsX5_halves) := goodIn_app (goodIn_of _ (by decide +kernel)) ggX5_addedJoined_X5_halves
set_option maxRecDepth 20000 in
theorem ggX5_isSum_X5_isForm : GoodIn wsX5_isSum wsX5_isForm := goodIn_r _ [6, 7, 11, 12, 13, 14, 15] (by decide +kernel) (by decide +kernel)
set_option maxRecDepth 20000 in
theorem gX5_isSum_X5_isForm : GoodIn wsX5_isSum (wsV RX5 42 RX5 yX5_isForm wsX5_isForm) := goodIn_app (goodIn_of _ (by decide +kernel)) ggX5_isSum_X5_isForm
set_option maxRecDepth 20000 in
theorem ggX5_isSum_X5_hasBits : GoodIn wsX5_isSum wsX5_hasBits := goodIn_r _ [10] (by decide +kernel) (by decide +kernel)
set_option maxRecDepth 20000 in
theorem gX5_isSum_X5_hasBits : GoodIn wsX5_isSum (va_wsS RX5 34 yX5_hasBits wsX5_hasBits) := goodIn_app (goodIn_of _ (by decide +kernel)) ggX5_isSum_X5_hasBits
set_option maxRecDepth 20000 in
theorem ggX5_isAddingSum_X5_lowHalf : GoodIn wsX5_isAddingSum wsX5_lowHalf := goodIn_r _ [5, 6] (by decide +kernel) (by decide +kernel)
set_option maxRecDepth 20000 in
theorem gX5_isAddingSum_X5_lowHalf : GoodIn wsX5_isAddingSum (va_wsS RX5 141 yX5_lowHalf wsX5_lowHalf) := goodIn_app (goodIn_of _ (by decide +kernel)) ggX5_isAddingSum_X5_lowHalf
set_option maxRecDepth 20000 in
theorem ggX5_isAddingSum_X5_highHalf : GoodIn wsX5_isAddingSum wsX5_highHalf := goodIn_r _ [9, 6] (by decide +kernel) (by decide +kernel)
set_option maxRecDepth 20000 in
theorem gX5_isAddingSum_X5_highHalf : GoodIn wsX5_isAddingSum (va_wsS RX5 145 yX5_highHalf wsX5_highHalf) := goodIn_app (goodIn_of _ (by decide +kernel)) ggX5_isAddingSum_X5_highHalf
