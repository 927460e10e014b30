set_option maxRecDepth 20000 in
theorem in_wsL_law0_r10 : ∀ w ∈ wsL_law0_r10, w ∈ lw_tbl := fun w h => (goodIn_r wsL_law0_r10 [449, 450, 221, 451, 452, 453, 454, 379, 381, 10, 382, 231, 32, 545, 546, 547, 548, 549, 550, 551, 124, 128, 130, 132] (by decide +kernel) (by decide +kernel) w h).1
set_option maxRecDepth 20000 in
theorem in_wsL_law0_r11 : ∀ w ∈ wsL_law0_r11, w ∈ lw_tbl := fun w h => (goodIn_r wsL_law0_r11 [134, 552, 554, 19, 555, 557, 558, 559, 560, 561, 562, 563, 564, 566, 20, 567, 569, 570, 571, 572, 573, 574, 575, 218] (by decide +kernel) (by decide +kernel) w h).1
set_option maxRecDepth 20000 in
theorem in_wsL_law0_r12 : ∀ w ∈ wsL_law0_r12, w ∈ lw_tbl := fun w h => (goodIn_r wsL_law0_r12 [219, 220, 223, 224, 225, 226, 227, 229, 0, 230, 364, 365, 366, 367, 368, 369, 370, 490, 491, 492, 493, 494, 495, 496] (by decide +kernel) (by decide +kernel) w h).1
