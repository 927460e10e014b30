theorem goodIn_hd {big a : List Cond} {c : Cond} (hm : c ∈ big) (hg : goodWord c = true) (ha : GoodIn big a) : GoodIn big (c :: a) := fun w h => (List.mem_cons.mp h).elim (fun e => by rw [e]; exact ⟨hm, good_of_word hg⟩) (ha w)
set_option maxRecDepth 20000 in
theorem gg_wsL_acts_r1 : GoodIn wsL_law wsL_acts_r1 := goodIn_r wsL_acts_r1 [3, 4, 214, 97, 98, 93, 99, 100, 215, 216, 217, 218, 219, 220, 221, 2, 222, 140, 223, 224, 225, 226, 227, 228] (by decide +kernel) (by decide +kernel)
set_option maxRecDepth 20000 in
theorem gg_wsL_acts_r2 : GoodIn wsL_law wsL_acts_r2 := goodIn_r wsL_acts_r2 [13, 229, 230, 231, 107, 5, 232, 233, 234, 235, 236, 197, 202, 237, 238, 239, 240, 241, 242, 243, 244, 15, 113, 114] (by decide +kernel) (by decide +kernel)
set_option maxRecDepth 20000 in
theorem gg_wsL_acts_r3 : GoodIn wsL_law wsL_acts_r3 := goodIn_r wsL_acts_r3 [115, 116, 117, 166, 167, 168, 169, 16, 170, 171, 172, 173, 174, 175, 176, 177, 178, 179, 180, 181, 182, 183, 184, 185] (by decide +kernel) (by decide +kernel)
set_option maxRecDepth 20000 in
theorem gg_wsL_acts_r4 : GoodIn wsL_law wsL_acts_r4 := goodIn_r wsL_acts_r4 [27, 186, 40, 41, 187, 188, 189, 190, 161, 191, 192, 193, 194, 195, 196, 23, 66, 198, 199, 200, 201, 203, 204, 205] (by decide +kernel) (by decide +kernel)
set_option maxRecDepth 20000 in
theorem gg_wsL_acts_r5 : GoodIn wsL_law wsL_acts_r5 := goodIn_r wsL_acts_r5 [29, 206, 54, 207, 208, 56, 57, 209, 210, 58, 59, 135, 136, 137, 138, 20, 139, 141, 142, 143, 19, 144, 33, 34] (by decide +kernel) (by decide +kernel)
set_option maxRecDepth 20000 in
theorem gg_wsL_acts_r6 : GoodIn wsL_law wsL_acts_r6 := goodIn_r wsL_acts_r6 [35, 245, 246, 247, 248, 249, 250, 251, 252, 253, 254, 255, 256, 257, 258, 259, 260, 261, 262, 263, 264, 265, 266, 267] (by decide +kernel) (by decide +kernel)
set_option maxRecDepth 20000 in
theorem gg_wsL_acts_r7 : GoodIn wsL_law wsL_acts_r7 := goodIn_r wsL_acts_r7 [268, 269, 270, 271, 272, 273, 274, 275, 276, 277, 278, 279, 280, 21, 22, 281, 282, 283, 284, 285, 286, 287, 134, 288] (by decide +kernel) (by decide +kernel)
set_option maxRecDepth 20000 in
theorem gg_wsL_acts_r8 : GoodIn wsL_law wsL_acts_r8 := goodIn_r wsL_acts_r8 [289, 290, 291, 292, 293, 294, 295, 296, 297, 298, 299, 300, 301, 130, 131, 132, 133, 162, 163, 164, 165, 25, 302, 303] (by decide +kernel) (by decide +kernel)
set_option maxRecDepth 20000 in
theorem gg_wsL_acts_r9 : GoodIn wsL_law wsL_acts_r9 := goodIn_r wsL_acts_r9 [304, 305, 306, 307, 308, 309, 310, 311, 312, 313, 314, 157, 158, 159, 160, 315, 316, 317, 318, 319, 320, 321, 322, 323] (by decide +kernel) (by decide +kernel)
set_option maxRecDepth 20000 in
theorem gg_wsL_acts_r10 : GoodIn wsL_law wsL_acts_r10 := goodIn_r wsL_acts_r10 [324, 325, 326, 327, 328, 83, 84, 85, 86, 24, 329, 330, 331, 332, 333, 334, 335, 149, 150, 151, 152, 336, 337, 338] (by decide +kernel) (by decide +kernel)
set_option maxRecDepth 20000 in
theorem gg_wsL_acts_r11 : GoodIn wsL_law wsL_acts_r11 := goodIn_r wsL_acts_r11 [339, 340, 341, 342, 343, 344, 345, 346, 347, 348, 349] (by decide +kernel) (by decide +kernel)
set_option maxRecDepth 20000 in
theorem ggL_law_L_acts : GoodIn wsL_law wsL_acts := goodIn_ca (goodIn_ca (goodIn_ca (goodIn_hd (List.mem_of_getElem? (i := 213) rfl) rfl (goodIn_app (goodIn_app (goodIn_app (goodIn_app (goodIn_app gg_wsL_acts_r1 (goodIn_app gg_wsL_acts_r2 (goodIn_app gg_wsL_acts_r3 (goodIn_app gg_wsL_acts_r4 (goodIn_app gg_wsL_acts_r5 (goodIn_app gg_wsL_acts_r6 (goodIn_app gg_wsL_acts_r7 (goodIn_app gg_wsL_acts_r8 (goodIn_app gg_wsL_acts_r9 (goodIn_app gg_wsL_acts_r10 (gg_wsL_acts_r11))))))))))) (goodIn_sub inlX2 (by decide +kernel))) (goodIn_sub inlX3 (by decide +kernel))) (goodIn_sub inlX0 (by decide +kernel))) (goodIn_sub inlX1 (by decide +kernel)))) (goodIn_sub (fun _ h => List.mem_append_left _ (List.mem_append_right _ h)) (by decide +kernel))) (goodIn_sub (fun _ h => List.mem_append_left _ (List.mem_append_left _ (List.mem_append_right _ h))) (by decide +kernel))) (goodIn_sub (fun _ h => List.mem_append_right _ h) (by decide +kernel))
