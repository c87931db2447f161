set_option maxRecDepth 20000 in
theorem wsL_in_15 : ∀ w ∈ wsL_law_r15, w ∈ lw_tbl := fun w h => (goodIn_p wsL_law_r15 [591, 594, 597, 602, 605, 331] (by decide +kernel) (by decide +kernel) w h).1
set_option maxRecDepth 20000 in
theorem wsL_in_16 : ∀ w ∈ wsL_law_r16, w ∈ lw_tbl := fun w h => (goodIn_p wsL_law_r16 [609, 335, 339, 342, 347, 350, 353, 613] (by decide +kernel) (by decide +kernel) w h).1
set_option maxRecDepth 20000 in
theorem wsL_in_17 : ∀ w ∈ wsL_law_r17, w ∈ lw_tbl := fun w h => (goodIn_p wsL_law_r17 [357, 361, 366, 370, 374, 380] (by decide +kernel) (by decide +kernel) w h).1
set_option maxRecDepth 20000 in
theorem wsL_in_18 : ∀ w ∈ wsL_law_r18, w ∈ lw_tbl := fun w h => (goodIn_p wsL_law_r18 [384, 388, 393, 617, 621, 625] (by decide +kernel) (by decide +kernel) w h).1
set_option maxRecDepth 20000 in
theorem wsL_in_19 : ∀ w ∈ wsL_law_r19, w ∈ lw_tbl := fun w h => (goodIn_p wsL_law_r19 [397, 400, 407, 632, 413] (by decide +kernel) (by decide +kernel) w h).1
set_option maxRecDepth 20000 in
theorem wsL_in_20 : ∀ w ∈ wsL_law_r20, w ∈ lw_tbl := fun w h => (goodIn_p wsL_law_r20 [416, 419, 422, 639, 642] (by decide +kernel) (by decide +kernel) w h).1
set_option maxRecDepth 20000 in
theorem wsL_uX5 : ∀ w ∈ wsX50, w ∈ lw_tbl := by decide +kernel
set_option maxRecDepth 20000 in
theorem wsL_uX6 : ∀ w ∈ wsX60, w ∈ lw_tbl := by decide +kernel
set_option maxRecDepth 20000 in
theorem wsL_uX3 : ∀ w ∈ wsX30, w ∈ lw_tbl := by decide +kernel
set_option maxRecDepth 20000 in
theorem wsL_uX1 : ∀ w ∈ wsX10, w ∈ lw_tbl := by decide +kernel
set_option maxRecDepth 20000 in
theorem wsL_uX0 : ∀ w ∈ wsX00, w ∈ lw_tbl := by decide +kernel
set_option maxRecDepth 20000 in
theorem wsL_uX4 : ∀ w ∈ wsX40, w ∈ lw_tbl := by decide +kernel
theorem wsL_law_in : ∀ w ∈ wsL_law, w ∈ lw_tbl := (List.forall_mem_append.mpr ⟨(List.forall_mem_append.mpr ⟨(List.forall_mem_append.mpr ⟨(List.forall_mem_append.mpr ⟨(List.forall_mem_append.mpr ⟨(List.forall_mem_append.mpr ⟨(List.forall_mem_append.mpr ⟨(List.forall_mem_append.mpr ⟨wsL_in_1, (List.forall_mem_append.mpr ⟨wsL_in_2, (List.forall_mem_append.mpr ⟨wsL_in_3, (List.forall_mem_append.mpr ⟨wsL_in_4, (List.forall_mem_append.mpr ⟨wsL_in_5, (List.forall_mem_append.mpr ⟨wsL_in_6, (List.forall_mem_append.mpr ⟨wsL_in_7, (List.forall_mem_append.mpr ⟨wsL_in_8, (List.forall_mem_append.mpr ⟨wsL_in_9, (List.forall_mem_append.mpr ⟨wsL_in_10, (List.forall_mem_append.mpr ⟨wsL_in_11, (List.forall_mem_append.mpr ⟨wsL_in_12, (List.forall_mem_append.mpr ⟨wsL_in_13, (List.forall_mem_append.mpr ⟨wsL_in_14, (List.forall_mem_append.mpr ⟨wsL_in_15, (List.forall_mem_append.mpr ⟨wsL_in_16, (List.forall_mem_append.mpr ⟨wsL_in_17, (List.forall_mem_append.mpr ⟨wsL_in_18, (List.forall_mem_append.mpr ⟨wsL_in_19, wsL_in_20⟩)⟩)⟩)⟩)⟩)⟩)⟩)⟩)⟩)⟩)⟩)⟩)⟩)⟩)⟩)⟩)⟩)⟩)⟩), wsL_uX5⟩), wsL_uX6⟩), wsL_uX3⟩), wsL_uX1⟩), wsL_uX0⟩), wsL_uX4⟩), fun _ h => absurd h List.not_mem_nil⟩)
