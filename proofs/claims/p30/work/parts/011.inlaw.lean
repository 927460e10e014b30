set_option maxRecDepth 20000 in
theorem in_wsL_law0_r1 : ∀ w ∈ wsL_law0_r1, w ∈ lw_tbl := fun w h => (goodIn_r wsL_law0_r1 [34, 35, 23, 65, 362, 363, 36, 37, 38, 39, 40, 41, 42, 154, 44, 155, 156, 46, 47, 24, 157, 158, 159, 160] (by decide +kernel) (by decide +kernel) w h).1
set_option maxRecDepth 20000 in
theorem in_wsL_law0_r2 : ∀ w ∈ wsL_law0_r2, w ∈ lw_tbl := fun w h => (goodIn_r wsL_law0_r2 [161, 162, 66, 25, 116, 26, 49, 50, 51, 52, 54, 56, 67, 68, 69, 70, 73, 76, 78, 81, 84, 87, 89, 91] (by decide +kernel) (by decide +kernel) w h).1
set_option maxRecDepth 20000 in
theorem in_wsL_law0_r3 : ∀ w ∈ wsL_law0_r3, w ∈ lw_tbl := fun w h => (goodIn_r wsL_law0_r3 [93, 71, 117, 118, 119, 120, 123, 125, 127, 129, 131, 133, 135, 121, 186, 187, 188, 189, 92, 190, 191, 192, 193, 198] (by decide +kernel) (by decide +kernel) w h).1
set_option maxRecDepth 20000 in
theorem in_wsL_law0_r4 : ∀ w ∈ wsL_law0_r4, w ∈ lw_tbl := fun w h => (goodIn_r wsL_law0_r4 [199, 200, 201, 202, 203, 204, 205, 206, 207, 27, 208, 194, 195, 196, 197, 182, 183, 184, 185, 209, 210, 22, 211, 212] (by decide +kernel) (by decide +kernel) w h).1
set_option maxRecDepth 20000 in
theorem in_wsL_law0_r5 : ∀ w ∈ wsL_law0_r5, w ∈ lw_tbl := fun w h => (goodIn_r wsL_law0_r5 [213, 214, 215, 216, 217, 539, 540, 541, 409, 410, 411, 222, 412, 413, 414, 415, 57, 299, 300, 301, 302, 31, 416, 418] (by decide +kernel) (by decide +kernel) w h).1
set_option maxRecDepth 20000 in
theorem in_wsL_law0_r6 : ∀ w ∈ wsL_law0_r6, w ∈ lw_tbl := fun w h => (goodIn_r wsL_law0_r6 [13, 419, 420, 422, 14, 423, 424, 425, 426, 427, 428, 430, 15, 431, 88, 354, 356, 9, 357, 72, 75, 358, 359, 360] (by decide +kernel) (by decide +kernel) w h).1
set_option maxRecDepth 20000 in
theorem in_wsL_law0_r7 : ∀ w ∈ wsL_law0_r7, w ∈ lw_tbl := fun w h => (goodIn_r wsL_law0_r7 [361, 432, 434, 16, 435, 436, 438, 17, 439, 440, 442, 18, 443, 400, 402, 11, 403, 94, 404, 406, 12, 407, 318, 320] (by decide +kernel) (by decide +kernel) w h).1
set_option maxRecDepth 20000 in
theorem in_wsL_law0_r8 : ∀ w ∈ wsL_law0_r8, w ∈ lw_tbl := fun w h => (goodIn_r wsL_law0_r8 [2, 321, 322, 324, 3, 325, 326, 328, 4, 329, 77, 330, 332, 5, 333, 334, 335, 336, 337, 338, 340, 6, 341, 342] (by decide +kernel) (by decide +kernel) w h).1
set_option maxRecDepth 20000 in
theorem in_wsL_law0_r9 : ∀ w ∈ wsL_law0_r9, w ∈ lw_tbl := fun w h => (goodIn_r wsL_law0_r9 [344, 7, 345, 122, 90, 136, 346, 348, 8, 349, 126, 350, 351, 352, 353, 74, 79, 82, 85, 542, 543, 544, 408, 448] (by decide +kernel) (by decide +kernel) w h).1
set_option maxRecDepth 20000 in
theorem in_wsL_law0_r10 : ∀ w ∈ wsL_law0_r10, w ∈ lw_tbl := fun w h => (goodIn_r wsL_law0_r10 [449, 450, 221, 451, 452, 453, 454, 379, 381, 10, 382, 231, 32, 545, 546, 547, 548, 549, 550, 551, 124, 128, 130, 132] (by decide +kernel) (by decide +kernel) w h).1
set_option maxRecDepth 20000 in
theorem in_wsL_law0_r11 : ∀ w ∈ wsL_law0_r11, w ∈ lw_tbl := fun w h => (goodIn_r wsL_law0_r11 [134, 552, 554, 19, 555, 557, 558, 559, 560, 561, 562, 563, 564, 566, 20, 567, 569, 570, 571, 572, 573, 574, 575, 218] (by decide +kernel) (by decide +kernel) w h).1
set_option maxRecDepth 20000 in
theorem in_wsL_law0_r12 : ∀ w ∈ wsL_law0_r12, w ∈ lw_tbl := fun w h => (goodIn_r wsL_law0_r12 [219, 220, 223, 224, 225, 226, 227, 229, 0, 230, 364, 365, 366, 367, 368, 369, 370, 490, 491, 492, 493, 494, 495, 496] (by decide +kernel) (by decide +kernel) w h).1
set_option maxRecDepth 20000 in
theorem in_wsL_law0_r13 : ∀ w ∈ wsL_law0_r13, w ∈ lw_tbl := fun w h => (goodIn_r wsL_law0_r13 [576, 577, 578, 579, 580, 581, 582, 80, 83, 86, 583, 585, 21, 586, 523, 524, 525, 371, 372, 373, 374, 375, 376, 377] (by decide +kernel) (by decide +kernel) w h).1
set_option maxRecDepth 20000 in
theorem in_wsL_law0_r14 : ∀ w ∈ wsL_law0_r14, w ∈ lw_tbl := fun w h => (goodIn_r wsL_law0_r14 [378, 384, 33, 587, 588, 589, 590, 591, 592, 593, 595, 596, 597, 598, 599, 600, 601, 603, 604, 605, 606, 607, 608, 609] (by decide +kernel) (by decide +kernel) w h).1
set_option maxRecDepth 20000 in
theorem in_wsL_law0_r15 : ∀ w ∈ wsL_law0_r15, w ∈ lw_tbl := fun w h => (goodIn_r wsL_law0_r15 [611, 612, 613, 614, 615, 616, 617, 619, 620, 621, 622, 623, 624, 625, 444, 445, 446, 447, 455, 456, 457, 458, 459, 460] (by decide +kernel) (by decide +kernel) w h).1
set_option maxRecDepth 20000 in
theorem in_wsL_law0_r16 : ∀ w ∈ wsL_law0_r16, w ∈ lw_tbl := fun w h => (goodIn_r wsL_law0_r16 [461, 462, 463, 464, 465, 466, 467, 468, 469, 470, 471, 472, 473, 474, 475, 476, 477, 478, 479, 480, 481, 482, 483, 484] (by decide +kernel) (by decide +kernel) w h).1
set_option maxRecDepth 20000 in
theorem in_wsL_law0_r17 : ∀ w ∈ wsL_law0_r17, w ∈ lw_tbl := fun w h => (goodIn_r wsL_law0_r17 [485, 486, 487, 488, 489, 497, 498, 499, 500, 501, 502, 503, 505, 506, 507, 508, 509, 510, 511, 53, 513, 514, 515, 516] (by decide +kernel) (by decide +kernel) w h).1
set_option maxRecDepth 20000 in
theorem in_wsL_law0_r18 : ∀ w ∈ wsL_law0_r18, w ∈ lw_tbl := fun w h => (goodIn_r wsL_law0_r18 [517, 518, 519, 55, 526, 527, 528, 529, 530, 531, 532, 533, 534, 535, 536, 537, 538, 520, 521, 522] (by decide +kernel) (by decide +kernel) w h).1
theorem wsX30_lw : ∀ w ∈ wsX30, w ∈ lw_tbl := by decide +kernel
theorem wsX10_lw : ∀ w ∈ wsX10, w ∈ lw_tbl := by decide +kernel
theorem wsX20_lw : ∀ w ∈ wsX20, w ∈ lw_tbl := by decide +kernel
theorem wsX00_lw : ∀ w ∈ wsX00, w ∈ lw_tbl := by decide +kernel
theorem wsL_law_in0 : ∀ w ∈ wsL_law0, w ∈ lw_tbl := fun w h => (List.mem_append.mp h).elim (fun h => (List.mem_append.mp h).elim (fun h => (List.mem_append.mp h).elim (fun h => (List.mem_append.mp h).elim (fun h => (List.mem_append.mp h).elim (fun h => (List.mem_append.mp h).elim (fun h => in_wsL_law0_r1 w h) (fun h => (List.mem_append.mp h).elim (fun h => in_wsL_law0_r2 w h) (fun h => (List.mem_append.mp h).elim (fun h => in_wsL_law0_r3 w h) (fun h => (List.mem_append.mp h).elim (fun h => in_wsL_law0_r4 w h) (fun h => (List.mem_append.mp h).elim (fun h => in_wsL_law0_r5 w h) (fun h => (List.mem_append.mp h).elim (fun h => in_wsL_law0_r6 w h) (fun h => (List.mem_append.mp h).elim (fun h => in_wsL_law0_r7 w h) (fun h => (List.mem_append.mp h).elim (fun h => in_wsL_law0_r8 w h) (fun h => (List.mem_append.mp h).elim (fun h => in_wsL_law0_r9 w h) (fun h => (List.mem_append.mp h).elim (fun h => in_wsL_law0_r10 w h) (fun h => (List.mem_append.mp h).elim (fun h => in_wsL_law0_r11 w h) (fun h => (List.mem_append.mp h).elim (fun h => in_wsL_law0_r12 w h) (fun h => (List.mem_append.mp h).elim (fun h => in_wsL_law0_r13 w h) (fun h => (List.mem_append.mp h).elim (fun h => in_wsL_law0_r14 w h) (fun h => (List.mem_append.mp h).elim (fun h => in_wsL_law0_r15 w h) (fun h => (List.mem_append.mp h).elim (fun h => in_wsL_law0_r16 w h) (fun h => (List.mem_append.mp h).elim (fun h => in_wsL_law0_r17 w h) (fun h => in_wsL_law0_r18 w h)))))))))))))))))) (fun h => (wsX30_lw w h))) (fun h => (wsX10_lw w h))) (fun h => (wsX20_lw w h))) (fun h => (wsX00_lw w h))) (fun h => (absurd h List.not_mem_nil))
