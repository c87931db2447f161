theorem inlX0 : ∀ w ∈ wsX00, w ∈ wsL_law := fun _ h => List.mem_append_left _ (List.mem_append_left _ (List.mem_append_right _ h))
theorem inX0 : ∀ w ∈ wsX00, w ∈ lw_tbl := fun w h => wsL_law_in w (inlX0 w h)
theorem inlX1 : ∀ w ∈ wsX10, w ∈ wsL_law := fun _ h => List.mem_append_left _ (List.mem_append_left _ (List.mem_append_left _ (List.mem_append_right _ h)))
theorem inX1 : ∀ w ∈ wsX10, w ∈ lw_tbl := fun w h => wsL_law_in w (inlX1 w h)
theorem inlX3 : ∀ w ∈ wsX30, w ∈ wsL_law := fun _ h => List.mem_append_left _ (List.mem_append_left _ (List.mem_append_left _ (List.mem_append_left _ (List.mem_append_right _ h))))
theorem inX3 : ∀ w ∈ wsX30, w ∈ lw_tbl := fun w h => wsL_law_in w (inlX3 w h)
theorem inlX4 : ∀ w ∈ wsX40, w ∈ wsL_law := fun _ h => List.mem_append_left _ (List.mem_append_right _ h)
theorem inX4 : ∀ w ∈ wsX40, w ∈ lw_tbl := fun w h => wsL_law_in w (inlX4 w h)
theorem inlX5 : ∀ w ∈ wsX50, w ∈ wsL_law := fun _ h => List.mem_append_left _ (List.mem_append_left _ (List.mem_append_left _ (List.mem_append_left _ (List.mem_append_left _ (List.mem_append_left _ (List.mem_append_right _ h))))))
theorem inX5 : ∀ w ∈ wsX50, w ∈ lw_tbl := fun w h => wsL_law_in w (inlX5 w h)
theorem inlX6 : ∀ w ∈ wsX60, w ∈ wsL_law := fun _ h => List.mem_append_left _ (List.mem_append_left _ (List.mem_append_left _ (List.mem_append_left _ (List.mem_append_left _ (List.mem_append_right _ h)))))
theorem inX6 : ∀ w ∈ wsX60, w ∈ lw_tbl := fun w h => wsL_law_in w (inlX6 w h)
set_option maxRecDepth 20000 in
theorem ggL_law_X5_init : GoodIn wsL_law wsX5_init := goodIn_r _ [9, 10, 11, 12, 13, 14, 15, 16, 17, 18, 19, 20, 21, 22, 23, 24, 25, 26, 27, 28, 29, 30, 31, 32, 33, 34, 35, 36, 37, 38, 39, 40, 41, 42, 43, 44, 45, 46, 47, 48, 49, 50, 51, 52, 53, 54, 55, 56, 57, 471, 472, 473, 474, 475, 492, 493, 494, 495, 496, 497, 498, 499, 500, 501, 502, 503, 504, 505, 506, 507, 508, 509, 510, 511] (by decide +kernel) (by decide +kernel)
set_option maxRecDepth 20000 in
theorem gL_law_X5_init : GoodIn wsL_law (wsX5_init) := ggL_law_X5_init
set_option maxRecDepth 20000 in
theorem ggL_law_X6_init : GoodIn wsL_law wsX6_init := goodIn_r _ [60, 61, 11, 12, 13, 62, 28, 63, 64, 65, 66, 67, 68, 69, 70, 71, 72, 73, 74, 75, 76, 77, 476, 477, 478, 479, 480, 481, 482, 483, 484, 485, 486, 487, 488, 489, 490, 491] (by decide +kernel) (by decide +kernel)
set_option maxRecDepth 20000 in
theorem gL_law_X6_init : GoodIn wsL_law (wsX6_init) := ggL_law_X6_init
set_option maxRecDepth 20000 in
theorem ggL_law_X5_form : GoodIn wsL_law wsX5_form := goodIn_r _ [81, 18, 17, 82, 83, 2, 84, 85, 24, 86, 87, 88, 89, 90, 91, 92, 93, 471, 472, 473, 474, 475, 495, 496, 497, 498, 499, 500, 501, 502] (by decide +kernel) (by decide +kernel)
set_option maxRecDepth 20000 in
theorem gL_law_X5_form : GoodIn wsL_law (wsV RL 15 RX5 yX5_form wsX5_form) := goodIn_app (goodIn_of _ (by decide +kernel)) ggL_law_X5_form
set_option maxRecDepth 20000 in
theorem ggL_law_X6_form : GoodIn wsL_law wsX6_form := goodIn_r _ [97, 98, 62, 63, 64, 65, 67, 68, 70, 99, 100, 5, 101, 476, 477, 478, 479, 480, 481, 482, 483, 484, 485, 486, 487, 488, 489, 490, 491] (by decide +kernel) (by decide +kernel)
set_option maxRecDepth 20000 in
theorem gL_law_X6_form : GoodIn wsL_law (wsV RL 19 RX6 yX6_form wsX6_form) := goodIn_app (goodIn_of _ (by decide +kernel)) ggL_law_X6_form
set_option maxRecDepth 20000 in
theorem ggL_law_X5_forget : GoodIn wsL_law wsX5_forget := goodIn_r _ [105, 18, 471, 472, 473, 474, 475] (by decide +kernel) (by decide +kernel)
set_option maxRecDepth 20000 in
theorem gL_law_X5_forget : GoodIn wsL_law (wsV RL 20 RX5 yX5_forget wsX5_forget) := goodIn_app (goodIn_of _ (by decide +kernel)) ggL_law_X5_forget
set_option maxRecDepth 20000 in
theorem ggL_law_X6_forget : GoodIn wsL_law wsX6_forget := goodIn_r _ [109, 98, 476, 477, 478, 479, 480, 481, 482, 483, 484, 485, 486, 487, 488, 489, 490, 491] (by decide +kernel) (by decide +kernel)
set_option maxRecDepth 20000 in
theorem gL_law_X6_forget : GoodIn wsL_law (wsV RL 24 RX6 yX6_forget wsX6_forget) := goodIn_app (goodIn_of _ (by decide +kernel)) ggL_law_X6_forget
set_option maxRecDepth 20000 in
theorem ggL_law_X5_feed : GoodIn wsL_law wsX5_feed := goodIn_r _ [113, 15, 14, 471, 472, 473, 474, 475] (by decide +kernel) (by decide +kernel)
set_option maxRecDepth 20000 in
theorem gL_law_X5_feed : GoodIn wsL_law (wsV RL 25 RX5 yX5_feed wsX5_feed) := goodIn_app (goodIn_of _ (by decide +kernel)) ggL_law_X5_feed
set_option maxRecDepth 20000 in
theorem ggL_law_X6_feed : GoodIn wsL_law wsX6_feed := goodIn_r _ [117, 118, 69, 119, 476, 477, 478, 479, 480, 481, 482, 483, 484, 485, 486, 487, 488, 489, 490, 491] (by decide +kernel) (by decide +kernel)
set_option maxRecDepth 20000 in
theorem gL_law_X6_feed : GoodIn wsL_law (wsV RL 29 RX6 yX6_feed wsX6_feed) := goodIn_app (goodIn_of _ (by decide +kernel)) ggL_law_X6_feed
set_option maxRecDepth 20000 in
theorem ggL_law_X5_cut : GoodIn wsL_law wsX5_cut := goodIn_r _ [123, 15, 471, 472, 473, 474, 475] (by decide +kernel) (by decide +kernel)
set_option maxRecDepth 20000 in
theorem gL_law_X5_cut : GoodIn wsL_law (wsV RL 30 RX5 yX5_cut wsX5_cut) := goodIn_app (goodIn_of _ (by decide +kernel)) ggL_law_X5_cut
set_option maxRecDepth 20000 in
theorem ggL_law_X6_cut : GoodIn wsL_law wsX6_cut := goodIn_r _ [127, 118, 476, 477, 478, 479, 480, 481, 482, 483, 484, 485, 486, 487, 488, 489, 490, 491] (by decide +kernel) (by decide +kernel)
set_option maxRecDepth 20000 in
theorem gL_law_X6_cut : GoodIn wsL_law (wsV RL 34 RX6 yX6_cut wsX6_cut) := goodIn_app (goodIn_of _ (by decide +kernel)) ggL_law_X6_cut
set_option maxRecDepth 20000 in
theorem ggL_law_X5_octet : GoodIn wsL_law wsX5_octet := goodIn_r _ [131, 15, 14, 471, 472, 473, 474, 475] (by decide +kernel) (by decide +kernel)
set_option maxRecDepth 20000 in
theorem gL_law_X5_octet : GoodIn wsL_law (wsV RL 35 RX5 yX5_octet wsX5_octet) := goodIn_app (goodIn_of _ (by decide +kernel)) ggL_law_X5_octet
set_option maxRecDepth 20000 in
theorem ggL_law_X6_octet : GoodIn wsL_law wsX6_octet := goodIn_r _ [135, 118, 69, 476, 477, 478, 479, 480, 481, 482, 483, 484, 485, 486, 487, 488, 489, 490, 491] (by decide +kernel) (by decide +kernel)
set_option maxRecDepth 20000 in
theorem gL_law_X6_octet : GoodIn wsL_law (wsV RL 38 RX6 yX6_octet wsX6_octet) := goodIn_app (goodIn_of _ (by decide +kernel)) ggL_law_X6_octet
set_option maxRecDepth 20000 in
theorem ggL_law_X5_count : GoodIn wsL_law wsX5_count := goodIn_r _ [139, 18, 15, 471, 472, 473, 474, 475] (by decide +kernel) (by decide +kernel)
set_option maxRecDepth 20000 in
theorem gL_law_X5_count : GoodIn wsL_law (wsV RL 39 RX5 yX5_count wsX5_count) := goodIn_app (goodIn_of _ (by decide +kernel)) ggL_law_X5_count
set_option maxRecDepth 20000 in
theorem ggL_law_X6_count : GoodIn wsL_law wsX6_count := goodIn_r _ [143, 98, 118, 476, 477, 478, 479, 480, 481, 482, 483, 484, 485, 486, 487, 488, 489, 490, 491] (by decide +kernel) (by decide +kernel)
set_option maxRecDepth 20000 in
theorem gL_law_X6_count : GoodIn wsL_law (wsV RL 42 RX6 yX6_count wsX6_count) := goodIn_app (goodIn_of _ (by decide +kernel)) ggL_law_X6_count
set_option maxRecDepth 20000 in
theorem ggL_law_X5_sum : GoodIn wsL_law wsX5_sum := goodIn_r _ [147, 148, 17, 14, 149, 150, 151, 2, 152, 18, 153, 154, 155, 156, 15, 157, 24, 158, 159, 92, 88, 89, 160, 161, 162, 163, 164, 165, 93, 91, 166, 167, 168, 471, 472, 473, 474, 475, 495, 496, 497, 498, 499, 500, 501, 502] (by decide +kernel) (by decide +kernel)
set_option maxRecDepth 20000 in
theorem gL_law_X5_sum : GoodIn wsL_law (wsV RL 43 RX5 yX5_sum wsX5_sum) := goodIn_app (goodIn_of _ (by decide +kernel)) ggL_law_X5_sum
set_option maxRecDepth 20000 in
theorem ggL_law_X6_sum : GoodIn wsL_law wsX6_sum := goodIn_r _ [172, 173, 64, 69, 174, 175, 176, 5, 177, 98, 178, 179, 180, 181, 118, 182, 183, 184, 185, 67, 62, 186, 187, 188, 189, 63, 190, 191, 192, 193, 68, 65, 194, 195, 196, 476, 477, 478, 479, 480, 481, 482, 483, 484, 485, 486, 487, 488, 489, 490, 491] (by decide +kernel) (by decide +kernel)
set_option maxRecDepth 20000 in
theorem gL_law_X6_sum : GoodIn wsL_law (wsV RL 47 RX6 yX6_sum wsX6_sum) := goodIn_app (goodIn_of _ (by decide +kernel)) ggL_law_X6_sum
set_option maxRecDepth 20000 in
theorem ggL_law_X5_joined : GoodIn wsL_law wsX5_joined := goodIn_r _ [200, 148, 17, 201, 202, 203, 2, 204, 149, 150, 151, 152, 18, 82, 83, 84, 205, 206, 207, 208, 209, 24, 210, 211, 93, 91, 88, 166, 167, 168, 212, 213, 214, 89, 160, 161, 162, 215, 216, 217, 218, 219, 220, 163, 164, 165, 471, 472, 473, 474, 475, 495, 496, 497, 498, 499, 500, 501, 502] (by decide +kernel) (by decide +kernel)
set_option maxRecDepth 20000 in
theorem gL_law_X5_joined : GoodIn wsL_law (wsV RL 48 RX5 yX5_joined wsX5_joined) := goodIn_app (goodIn_of _ (by decide +kernel)) ggL_law_X5_joined
set_option maxRecDepth 20000 in
theorem ggL_law_X6_joined : GoodIn wsL_law wsX6_joined := goodIn_r _ [224, 173, 64, 225, 226, 227, 5, 228, 62, 174, 175, 176, 177, 98, 99, 100, 101, 229, 230, 231, 232, 233, 234, 235, 236, 65, 68, 194, 195, 196, 237, 238, 239, 240, 186, 187, 188, 189, 63, 241, 242, 243, 244, 245, 246, 247, 248, 190, 191, 192, 193, 476, 477, 478, 479, 480, 481, 482, 483, 484, 485, 486, 487, 488, 489, 490, 491] (by decide +kernel) (by decide +kernel)
set_option maxRecDepth 20000 in
theorem gL_law_X6_joined : GoodIn wsL_law (wsV RL 52 RX6 yX6_joined wsX6_joined) := goodIn_app (goodIn_of _ (by decide +kernel)) ggL_law_X6_joined
set_option maxRecDepth 20000 in
theorem ggL_law_X5_zeros : GoodIn wsL_law wsX5_zeros := goodIn_r _ [252, 148, 17, 201, 202, 203, 2, 204, 149, 150, 151, 152, 18, 82, 83, 84, 205, 206, 207, 208, 209, 24, 210, 211, 93, 91, 88, 166, 167, 168, 212, 213, 214, 89, 160, 161, 162, 215, 216, 217, 218, 219, 220, 163, 164, 165, 471, 472, 473, 474, 475, 495, 496, 497, 498, 499, 500, 501, 502] (by decide +kernel) (by decide +kernel)
set_option maxRecDepth 20000 in
theorem gL_law_X5_zeros : GoodIn wsL_law (wsV RL 53 RX5 yX5_zeros wsX5_zeros) := goodIn_app (goodIn_of _ (by decide +kernel)) ggL_law_X5_zeros
set_option maxRecDepth 20000 in
theorem ggL_law_X6_zeros : GoodIn wsL_law wsX6_zeros := goodIn_r _ [256, 173, 225, 226, 227, 5, 228, 62, 174, 175, 176, 177, 98, 99, 100, 101, 229, 230, 231, 232, 233, 234, 235, 236, 65, 68, 194, 195, 196, 237, 238, 239, 240, 186, 187, 188, 189, 63, 241, 242, 243, 244, 245, 246, 247, 248, 190, 191, 192, 193, 476, 477, 478, 479, 480, 481, 482, 483, 484, 485, 486, 487, 488, 489, 490, 491] (by decide +kernel) (by decide +kernel)
set_option maxRecDepth 20000 in
theorem gL_law_X6_zeros : GoodIn wsL_law (wsV RL 57 RX6 yX6_zeros wsX6_zeros) := goodIn_app (goodIn_of _ (by decide +kernel)) ggL_law_X6_zeros
set_option maxRecDepth 20000 in
theorem ggL_law_X5_changed : GoodIn wsL_law wsX5_changed := goodIn_r _ [260, 148, 17, 201, 202, 203, 2, 204, 149, 150, 151, 152, 18, 82, 83, 84, 205, 206, 207, 208, 157, 24, 158, 159, 92, 88, 89, 160, 161, 162, 212, 213, 214, 215, 216, 217, 218, 219, 220, 209, 210, 211, 93, 91, 166, 167, 168, 163, 164, 165, 471, 472, 473, 474, 475, 495, 496, 497, 498, 499, 500, 501, 502] (by decide +kernel) (by decide +kernel)
set_option maxRecDepth 20000 in
theorem gL_law_X5_changed : GoodIn wsL_law (wsV RL 58 RX5 yX5_changed wsX5_changed) := goodIn_app (goodIn_of _ (by decide +kernel)) ggL_law_X5_changed
set_option maxRecDepth 20000 in
theorem ggL_law_X6_changed : GoodIn wsL_law wsX6_changed := goodIn_r _ [264, 173, 225, 226, 227, 5, 228, 62, 174, 175, 176, 177, 98, 99, 100, 101, 229, 230, 231, 232, 233, 234, 235, 236, 65, 68, 194, 195, 196, 182, 183, 184, 185, 67, 186, 187, 188, 189, 63, 237, 238, 239, 240, 241, 242, 243, 244, 245, 246, 247, 248, 190, 191, 192, 193, 476, 477, 478, 479, 480, 481, 482, 483, 484, 485, 486, 487, 488, 489, 490, 491] (by decide +kernel) (by decide +kernel)
set_option maxRecDepth 20000 in
theorem gL_law_X6_changed : GoodIn wsL_law (wsV RL 62 RX6 yX6_changed wsX6_changed) := goodIn_app (goodIn_of _ (by decide +kernel)) ggL_law_X6_changed
set_option maxRecDepth 20000 in
theorem ggL_law_X5_tail : GoodIn wsL_law wsX5_tail := goodIn_r _ [268, 17, 148, 201, 202, 203, 2, 204, 149, 150, 151, 152, 18, 82, 83, 84, 209, 24, 210, 211, 93, 91, 88, 166, 167, 168, 269, 270, 271, 92, 272, 273, 274, 275, 89, 276, 277, 278, 279, 280, 471, 472, 473, 474, 475, 495, 496, 497, 498, 499, 500, 501, 502] (by decide +kernel) (by decide +kernel)
set_option maxRecDepth 20000 in
theorem gL_law_X5_tail : GoodIn wsL_law (wsV RL 63 RX5 yX5_tail wsX5_tail) := goodIn_app (goodIn_of _ (by decide +kernel)) ggL_law_X5_tail
set_option maxRecDepth 20000 in
theorem ggL_law_X6_tail : GoodIn wsL_law wsX6_tail := goodIn_r _ [284, 62, 173, 119, 67, 225, 226, 227, 5, 228, 174, 175, 176, 177, 98, 99, 100, 101, 233, 234, 235, 236, 65, 68, 194, 195, 196, 285, 286, 287, 288, 63, 476, 477, 478, 479, 480, 481, 482, 483, 484, 485, 486, 487, 488, 489, 490, 491] (by decide +kernel) (by decide +kernel)
set_option maxRecDepth 20000 in
theorem gL_law_X6_tail : GoodIn wsL_law (wsV RL 66 RX6 yX6_tail wsX6_tail) := goodIn_app (goodIn_of _ (by decide +kernel)) ggL_law_X6_tail
set_option maxRecDepth 20000 in
theorem ggL_law_X5_factors : GoodIn wsL_law wsX5_factors := goodIn_r _ [292, 17, 149, 150, 151, 2, 152, 18, 293, 37, 294, 295, 50, 48, 49, 296, 218, 161, 219, 215, 216, 217, 220, 160, 162, 297, 298, 299, 300, 301, 302, 303, 304, 305, 46, 47, 306, 307, 308, 309, 310, 311, 312, 313, 314, 315, 316, 317, 318, 319, 320, 321, 322, 323, 324, 325, 326, 471, 472, 473, 474, 475, 495, 496, 497, 498, 499, 500, 501, 502, 503, 504, 505, 506, 507] (by decide +kernel) (by decide +kernel)
set_option maxRecDepth 20000 in
theorem gL_law_X5_factors : GoodIn wsL_law (wsV RL 67 RX5 yX5_factors wsX5_factors) := goodIn_app (goodIn_of _ (by decide +kernel)) ggL_law_X5_factors
set_option maxRecDepth 20000 in
theorem ggL_law_X6_factors : GoodIn wsL_law wsX6_factors := goodIn_r _ [330, 73, 174, 175, 176, 5, 177, 98, 331, 332, 333, 334, 70, 62, 63, 335, 71, 72, 336, 74, 337, 338, 339, 340, 341, 342, 343, 344, 345, 346, 347, 348, 349, 350, 351, 352, 186, 187, 188, 189, 241, 242, 243, 244, 245, 246, 247, 248, 476, 477, 478, 479, 480, 481, 482, 483, 484, 485, 486, 487, 488, 489, 490, 491] (by decide +kernel) (by decide +kernel)
set_option maxRecDepth 20000 in
theorem gL_law_X6_factors : GoodIn wsL_law (wsV RL 70 RX6 yX6_factors wsX6_factors) := goodIn_app (goodIn_of _ (by decide +kernel)) ggL_law_X6_factors
set_option maxRecDepth 20000 in
theorem ggL_law_X5_factor : GoodIn wsL_law wsX5_factor := goodIn_r _ [356, 148, 17, 149, 150, 151, 2, 152, 18, 293, 37, 294, 295, 50, 48, 49, 296, 218, 161, 219, 215, 216, 217, 220, 160, 162, 297, 298, 299, 300, 301, 302, 303, 304, 305, 46, 47, 306, 307, 308, 309, 310, 311, 312, 313, 314, 315, 316, 317, 318, 319, 320, 321, 322, 323, 324, 325, 326, 471, 472, 473, 474, 475, 495, 496, 497, 498, 499, 500, 501, 502, 503, 504, 505, 506, 507] (by decide +kernel) (by decide +kernel)
set_option maxRecDepth 20000 in
theorem gL_law_X5_factor : GoodIn wsL_law (wsV RL 71 RX5 yX5_factor wsX5_factor) := goodIn_app (goodIn_of _ (by decide +kernel)) ggL_law_X5_factor
set_option maxRecDepth 20000 in
theorem ggL_law_X6_factor : GoodIn wsL_law wsX6_factor := goodIn_r _ [360, 173, 73, 71, 72, 174, 175, 176, 5, 177, 98, 331, 332, 333, 334, 70, 62, 63, 335, 336, 74, 337, 338, 339, 340, 341, 342, 343, 344, 345, 346, 347, 348, 349, 350, 351, 352, 186, 187, 188, 189, 241, 242, 243, 244, 245, 246, 247, 248, 476, 477, 478, 479, 480, 481, 482, 483, 484, 485, 486, 487, 488, 489, 490, 491] (by decide +kernel) (by decide +kernel)
set_option maxRecDepth 20000 in
theorem gL_law_X6_factor : GoodIn wsL_law (wsV RL 74 RX6 yX6_factor wsX6_factor) := goodIn_app (goodIn_of _ (by decide +kernel)) ggL_law_X6_factor
set_option maxRecDepth 20000 in
theorem ggL_law_X5_order : GoodIn wsL_law wsX5_order := goodIn_r _ [364, 148, 17, 149, 150, 151, 2, 152, 18, 293, 37, 294, 295, 50, 48, 49, 296, 218, 161, 219, 215, 216, 217, 220, 160, 162, 297, 298, 299, 300, 301, 302, 303, 304, 305, 46, 47, 306, 307, 308, 309, 310, 311, 312, 313, 314, 315, 316, 317, 318, 319, 320, 321, 322, 323, 324, 325, 326, 365, 366, 367, 368, 369, 370, 371, 372, 373, 374, 375, 376, 377, 378, 379, 471, 472, 473, 474, 475, 495, 496, 497, 498, 499, 500, 501, 502, 503, 504, 505, 506, 507] (by decide +kernel) (by decide +kernel)
set_option maxRecDepth 20000 in
theorem gL_law_X5_order : GoodIn wsL_law (wsV RL 75 RX5 yX5_order wsX5_order) := goodIn_app (goodIn_of _ (by decide +kernel)) ggL_law_X5_order
set_option maxRecDepth 20000 in
theorem ggL_law_X6_order : GoodIn wsL_law wsX6_order := goodIn_r _ [383, 173, 74, 174, 175, 176, 5, 177, 98, 331, 332, 333, 334, 70, 73, 62, 63, 335, 71, 72, 336, 337, 338, 339, 340, 341, 342, 343, 344, 345, 346, 347, 348, 349, 350, 351, 352, 186, 187, 188, 189, 241, 242, 243, 244, 245, 246, 247, 248, 476, 477, 478, 479, 480, 481, 482, 483, 484, 485, 486, 487, 488, 489, 490, 491] (by decide +kernel) (by decide +kernel)
set_option maxRecDepth 20000 in
theorem gL_law_X6_order : GoodIn wsL_law (wsV RL 79 RX6 yX6_order wsX6_order) := goodIn_app (goodIn_of _ (by decide +kernel)) ggL_law_X6_order
set_option maxRecDepth 20000 in
theorem ggL_law_X5_distance : GoodIn wsL_law wsX5_distance := goodIn_r _ [387, 17, 22, 149, 150, 151, 2, 152, 18, 388, 41, 389, 390, 57, 54, 55, 56, 218, 161, 219, 391, 21, 392, 393, 31, 30, 394, 395, 396, 29, 397, 398, 399, 400, 401, 160, 162, 402, 403, 404, 405, 406, 407, 408, 409, 410, 411, 412, 413, 414, 415, 471, 472, 473, 474, 475, 495, 496, 497, 498, 499, 500, 501, 502, 508, 509, 510, 511, 492, 493, 494] (by decide +kernel) (by decide +kernel)
set_option maxRecDepth 20000 in
theorem gL_law_X5_distance : GoodIn wsL_law (wsV RL 80 RX5 yX5_distance wsX5_distance) := goodIn_app (goodIn_of _ (by decide +kernel)) ggL_law_X5_distance
set_option maxRecDepth 20000 in
theorem ggL_law_X6_distance : GoodIn wsL_law wsX6_distance := goodIn_r _ [419, 75, 174, 175, 176, 5, 177, 98, 420, 421, 422, 423, 76, 77, 186, 187, 188, 189, 62, 63, 424, 425, 426, 427, 428, 429, 430, 476, 477, 478, 479, 480, 481, 482, 483, 484, 485, 486, 487, 488, 489, 490, 491] (by decide +kernel) (by decide +kernel)
set_option maxRecDepth 20000 in
theorem gL_law_X6_distance : GoodIn wsL_law (wsV RL 84 RX6 yX6_distance wsX6_distance) := goodIn_app (goodIn_of _ (by decide +kernel)) ggL_law_X6_distance
set_option maxRecDepth 20000 in
theorem ggL_law_X5_added : GoodIn wsL_law wsX5_added := goodIn_r _ [434, 148, 435, 436, 14, 437, 438, 2, 439, 153, 154, 155, 156, 15, 440, 441, 442, 443, 471, 472, 473, 474, 475] (by decide +kernel) (by decide +kernel)
set_option maxRecDepth 20000 in
theorem gL_law_X5_added : GoodIn wsL_law (wsV RL 85 RX5 yX5_added wsX5_added) := goodIn_app (goodIn_of _ (by decide +kernel)) ggL_law_X5_added
set_option maxRecDepth 20000 in
theorem ggL_law_X6_added : GoodIn wsL_law wsX6_added := goodIn_r _ [447, 173, 448, 119, 69, 449, 450, 178, 179, 180, 5, 181, 118, 476, 477, 478, 479, 480, 481, 482, 483, 484, 485, 486, 487, 488, 489, 490, 491] (by decide +kernel) (by decide +kernel)
set_option maxRecDepth 20000 in
theorem gL_law_X6_added : GoodIn wsL_law (wsV RL 88 RX6 yX6_added wsX6_added) := goodIn_app (goodIn_of _ (by decide +kernel)) ggL_law_X6_added
set_option maxRecDepth 20000 in
theorem ggL_law_X5_addedJoined : GoodIn wsL_law wsX5_addedJoined := goodIn_r _ [454, 148, 435, 436, 437, 438, 2, 439, 455, 456, 457, 458, 459, 460, 443, 461, 462, 463, 205, 206, 207, 208, 440, 441, 442] (by decide +kernel) (by decide +kernel)
set_option maxRecDepth 20000 in
theorem gL_law_X5_addedJoined : GoodIn wsL_law (wsV RL 89 RX5 yX5_addedJoined wsX5_addedJoined) := goodIn_app (goodIn_of _ (by decide +kernel)) ggL_law_X5_addedJoined
set_option maxRecDepth 20000 in
theorem ggL_law_X6_addedJoined : GoodIn wsL_law wsX6_addedJoined := goodIn_r _ [467, 173, 449, 450, 448, 119, 468, 469, 5, 470, 229, 230, 231, 232] (by decide +kernel) (by decide +kernel)
set_option maxRecDepth 20000 in
theorem gL_law_X6_addedJoined : GoodIn wsL_law (wsV RL 92 RX6 yX6_addedJoined wsX6_addedJoined) := goodIn_app (goodIn_of _ (by decide +kernel)) ggL_law_X6_addedJoined

