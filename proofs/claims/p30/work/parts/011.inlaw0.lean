set_option maxRecDepth 20000 in
theorem in_wsL_law0_r1 : ∀ w ∈ wsL_law0_r1, w ∈ lw_tbl := fun w h => (goodIn_r wsL_law0_r1 [34, 35, 23, 65, 362, 363, 36, 37, 38, 39, 40, 41, 42, 154, 44, 155, 156, 46, 47, 24, 157, 158, 159, 160] (by decide +kernel) (by decide +kernel) w h).1
set_option maxRecDepth 20000 in
theorem in_wsL_law0_r2 : ∀ w ∈ wsL_law0_r2, w ∈ lw_tbl := fun w h => (goodIn_r wsL_law0_r2 [161, 162, 66, 25, 116, 26, 49, 50, 51, 52, 54, 56, 67, 68, 69, 70, 73, 76, 78, 81, 84, 87, 89, 91] (by decide +kernel) (by decide +kernel) w h).1
set_option maxRecDepth 20000 in
theorem in_wsL_law0_r3 : ∀ w ∈ wsL_law0_r3, w ∈ lw_tbl := fun w h => (goodIn_r wsL_law0_r3 [93, 71, 117, 118, 119, 120, 123, 125, 127, 129, 131, 133, 135, 121, 186, 187, 188, 189, 92, 190, 191, 192, 193, 198] (by decide +kernel) (by decide +kernel) w h).1
