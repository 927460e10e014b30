set_option maxRecDepth 20000 in
theorem in_wsL_law0_r1 : ∀ w ∈ wsL_law0_r1, w ∈ lw_tbl := fun w h => (goodIn_r wsL_law0_r1 [55, 56, 43, 614, 615, 47, 901, 57, 58, 59, 60, 61, 62, 63, 175, 65, 176, 86, 177, 67, 68, 44, 178, 179] (by decide +kernel) (by decide +kernel) w h).1
set_option maxRecDepth 20000 in
theorem in_wsL_law0_r2 : ∀ w ∈ wsL_law0_r2, w ∈ lw_tbl := fun w h => (goodIn_r wsL_law0_r2 [180, 181, 182, 183, 87, 45, 137, 46, 70, 71, 72, 73, 75, 77, 88, 89, 90, 91, 94, 97, 99, 102, 105, 108] (by decide +kernel) (by decide +kernel) w h).1
set_option maxRecDepth 20000 in
theorem in_wsL_law0_r3 : ∀ w ∈ wsL_law0_r3, w ∈ lw_tbl := fun w h => (goodIn_r wsL_law0_r3 [110, 112, 114, 92, 138, 139, 140, 141, 144, 146, 148, 150, 152, 154, 156, 142, 616, 617, 618, 619, 621, 622, 625, 626] (by decide +kernel) (by decide +kernel) w h).1
set_option maxRecDepth 20000 in
theorem in_wsL_law0_r4 : ∀ w ∈ wsL_law0_r4, w ∈ lw_tbl := fun w h => (goodIn_r wsL_law0_r4 [627, 628, 629, 630, 631, 632, 633, 699, 634, 635, 636, 637, 638, 639, 640, 641, 643, 644, 230, 231, 42, 232, 233, 234] (by decide +kernel) (by decide +kernel) w h).1
set_option maxRecDepth 20000 in
theorem in_wsL_law0_r5 : ∀ w ∈ wsL_law0_r5, w ∈ lw_tbl := fun w h => (goodIn_r wsL_law0_r5 [235, 236, 237, 238, 145, 157, 147, 149, 151, 153, 155, 239, 241, 0, 242, 243, 51, 311, 312, 313, 314, 52, 330, 332] (by decide +kernel) (by decide +kernel) w h).1
set_option maxRecDepth 20000 in
theorem in_wsL_law0_r6 : ∀ w ∈ wsL_law0_r6, w ∈ lw_tbl := fun w h => (goodIn_r wsL_law0_r6 [2, 333, 334, 336, 3, 337, 338, 340, 4, 341, 96, 98, 342, 344, 5, 345, 346, 347, 348, 349, 350, 352, 6, 353] (by decide +kernel) (by decide +kernel) w h).1
set_option maxRecDepth 20000 in
theorem in_wsL_law0_r7 : ∀ w ∈ wsL_law0_r7, w ∈ lw_tbl := fun w h => (goodIn_r wsL_law0_r7 [115, 354, 356, 7, 357, 143, 111, 113, 358, 360, 8, 361, 362, 363, 364, 365, 95, 100, 103, 106, 366, 368, 9, 369] (by decide +kernel) (by decide +kernel) w h).1
set_option maxRecDepth 20000 in
theorem in_wsL_law0_r8 : ∀ w ∈ wsL_law0_r8, w ∈ lw_tbl := fun w h => (goodIn_r wsL_law0_r8 [93, 370, 371, 372, 373, 704, 705, 706, 707, 708, 709, 710, 711, 713, 22, 714, 645, 715, 717, 23, 718, 620, 719, 721] (by decide +kernel) (by decide +kernel) w h).1
set_option maxRecDepth 20000 in
theorem in_wsL_law0_r9 : ∀ w ∈ wsL_law0_r9, w ∈ lw_tbl := fun w h => (goodIn_r wsL_law0_r9 [24, 722, 723, 725, 25, 726, 727, 729, 26, 730, 731, 733, 27, 734, 735, 737, 28, 738, 642, 700, 701, 702, 703, 374] (by decide +kernel) (by decide +kernel) w h).1
set_option maxRecDepth 20000 in
theorem in_wsL_law0_r10 : ∀ w ∈ wsL_law0_r10, w ∈ lw_tbl := fun w h => (goodIn_r wsL_law0_r10 [375, 376, 377, 378, 379, 380, 381, 383, 10, 384, 739, 740, 741, 742, 743, 745, 29, 746, 386, 387, 388, 389, 390, 391] (by decide +kernel) (by decide +kernel) w h).1
set_option maxRecDepth 20000 in
theorem in_wsL_law0_r11 : ∀ w ∈ wsL_law0_r11, w ∈ lw_tbl := fun w h => (goodIn_r wsL_law0_r11 [392, 747, 748, 749, 750, 393, 394, 395, 396, 397, 398, 399, 400, 402, 11, 403, 751, 752, 753, 754, 755, 756, 757, 405] (by decide +kernel) (by decide +kernel) w h).1
set_option maxRecDepth 20000 in
theorem in_wsL_law0_r12 : ∀ w ∈ wsL_law0_r12, w ∈ lw_tbl := fun w h => (goodIn_r wsL_law0_r12 [406, 407, 408, 409, 410, 411, 758, 759, 760, 761, 412, 413, 414, 415, 416, 417, 418, 101, 104, 107, 419, 421, 12, 422] (by decide +kernel) (by decide +kernel) w h).1
set_option maxRecDepth 20000 in
theorem in_wsL_law0_r13 : ∀ w ∈ wsL_law0_r13, w ∈ lw_tbl := fun w h => (goodIn_r wsL_law0_r13 [424, 426, 13, 427, 428, 430, 14, 431, 109, 432, 434, 15, 435, 762, 763, 764, 765, 766, 767, 768, 769, 771, 30, 772] (by decide +kernel) (by decide +kernel) w h).1
set_option maxRecDepth 20000 in
theorem in_wsL_law0_r14 : ∀ w ∈ wsL_law0_r14, w ∈ lw_tbl := fun w h => (goodIn_r wsL_law0_r14 [623, 773, 775, 31, 776, 777, 779, 32, 780, 436, 437, 438, 439, 440, 441, 442, 443, 444, 53, 460, 462, 16, 463, 781] (by decide +kernel) (by decide +kernel) w h).1
set_option maxRecDepth 20000 in
theorem in_wsL_law0_r15 : ∀ w ∈ wsL_law0_r15, w ∈ lw_tbl := fun w h => (goodIn_r wsL_law0_r15 [782, 783, 784, 785, 787, 33, 788, 464, 465, 466, 467, 468, 469, 470, 789, 790, 791, 792, 472, 473, 474, 475, 476, 477] (by decide +kernel) (by decide +kernel) w h).1
set_option maxRecDepth 20000 in
theorem in_wsL_law0_r16 : ∀ w ∈ wsL_law0_r16, w ∈ lw_tbl := fun w h => (goodIn_r wsL_law0_r16 [478, 793, 794, 795, 796, 480, 481, 482, 483, 484, 485, 486, 488, 490, 17, 491, 797, 798, 799, 800, 801, 803, 34, 804] (by decide +kernel) (by decide +kernel) w h).1
set_option maxRecDepth 20000 in
theorem in_wsL_law0_r17 : ∀ w ∈ wsL_law0_r17, w ∈ lw_tbl := fun w h => (goodIn_r wsL_law0_r17 [624, 492, 493, 494, 495, 496, 497, 498, 805, 806, 807, 808, 500, 501, 502, 503, 504, 505, 506, 809, 810, 811, 812, 508] (by decide +kernel) (by decide +kernel) w h).1
set_option maxRecDepth 20000 in
theorem in_wsL_law0_r18 : ∀ w ∈ wsL_law0_r18, w ∈ lw_tbl := fun w h => (goodIn_r wsL_law0_r18 [509, 510, 511, 512, 513, 514, 78, 515, 517, 18, 518, 519, 521, 19, 522, 523, 524, 525, 526, 527, 529, 20, 530, 531] (by decide +kernel) (by decide +kernel) w h).1
set_option maxRecDepth 20000 in
theorem in_wsL_law0_r19 : ∀ w ∈ wsL_law0_r19, w ∈ lw_tbl := fun w h => (goodIn_r wsL_law0_r19 [533, 21, 534, 813, 814, 815, 816, 817, 819, 35, 820, 821, 823, 36, 824, 203, 204, 205, 206, 825, 826, 827, 828, 829] (by decide +kernel) (by decide +kernel) w h).1
set_option maxRecDepth 20000 in
theorem in_wsL_law0_r20 : ∀ w ∈ wsL_law0_r20, w ∈ lw_tbl := fun w h => (goodIn_r wsL_law0_r20 [831, 37, 832, 535, 536, 537, 538, 539, 540, 541, 833, 834, 835, 836, 542, 543, 544, 545, 546, 547, 548, 549, 550, 551] (by decide +kernel) (by decide +kernel) w h).1
set_option maxRecDepth 20000 in
theorem in_wsL_law0_r21 : ∀ w ∈ wsL_law0_r21, w ∈ lw_tbl := fun w h => (goodIn_r wsL_law0_r21 [837, 838, 839, 840, 841, 843, 38, 844, 552, 553, 554, 555, 556, 557, 558, 845, 846, 847, 848, 559, 560, 561, 562, 563] (by decide +kernel) (by decide +kernel) w h).1
set_option maxRecDepth 20000 in
theorem in_wsL_law0_r22 : ∀ w ∈ wsL_law0_r22, w ∈ lw_tbl := fun w h => (goodIn_r wsL_law0_r22 [564, 565, 566, 567, 568, 569, 849, 850, 851, 852, 570, 571, 572, 573, 574, 575, 576, 211, 212, 213, 214, 853, 854, 855] (by decide +kernel) (by decide +kernel) w h).1
set_option maxRecDepth 20000 in
theorem in_wsL_law0_r23 : ∀ w ∈ wsL_law0_r23, w ∈ lw_tbl := fun w h => (goodIn_r wsL_law0_r23 [856, 857, 859, 39, 860, 577, 578, 579, 580, 581, 582, 583, 861, 862, 863, 864, 584, 585, 586, 587, 588, 589, 590, 865] (by decide +kernel) (by decide +kernel) w h).1
set_option maxRecDepth 20000 in
theorem in_wsL_law0_r24 : ∀ w ∈ wsL_law0_r24, w ∈ lw_tbl := fun w h => (goodIn_r wsL_law0_r24 [866, 867, 868, 591, 592, 593, 594, 595, 596, 597, 869, 870, 871, 872, 207, 208, 209, 210, 873, 874, 875, 876, 215, 216] (by decide +kernel) (by decide +kernel) w h).1
set_option maxRecDepth 20000 in
theorem in_wsL_law0_r25 : ∀ w ∈ wsL_law0_r25, w ∈ lw_tbl := fun w h => (goodIn_r wsL_law0_r25 [217, 218, 877, 878, 879, 880, 219, 220, 221, 222, 223, 224, 225, 226, 227, 228, 54, 229, 881, 882, 883, 884, 885, 887] (by decide +kernel) (by decide +kernel) w h).1
set_option maxRecDepth 20000 in
theorem in_wsL_law0_r26 : ∀ w ∈ wsL_law0_r26, w ∈ lw_tbl := fun w h => (goodIn_r wsL_law0_r26 [40, 888, 599, 600, 601, 602, 603, 604, 605, 74, 889, 890, 891, 892, 893, 895, 41, 896, 607, 608, 609, 610, 611, 612] (by decide +kernel) (by decide +kernel) w h).1
set_option maxRecDepth 20000 in
theorem in_wsL_law0_r27 : ∀ w ∈ wsL_law0_r27, w ∈ lw_tbl := fun w h => (goodIn_r wsL_law0_r27 [613, 76, 897, 898, 899, 900] (by decide +kernel) (by decide +kernel) w h).1
theorem wsX30_lw : ∀ w ∈ wsX30, w ∈ lw_tbl := by decide +kernel
theorem wsX40_lw : ∀ w ∈ wsX40, w ∈ lw_tbl := by decide +kernel
theorem wsX10_lw : ∀ w ∈ wsX10, w ∈ lw_tbl := by decide +kernel
theorem wsX20_lw : ∀ w ∈ wsX20, w ∈ lw_tbl := by decide +kernel
theorem wsX00_lw : ∀ w ∈ wsX00, w ∈ lw_tbl := by decide +kernel
theorem wsL_law_in0 : ∀ w ∈ wsL_law0, w ∈ lw_tbl := fun w h => (List.mem_append.mp h).elim (fun h => (List.mem_append.mp h).elim (fun h => (List.mem_append.mp h).elim (fun h => (List.mem_append.mp h).elim (fun h => (List.mem_append.mp h).elim (fun h => (List.mem_append.mp h).elim (fun h => (List.mem_append.mp h).elim (fun h => in_wsL_law0_r1 w h) (fun h => (List.mem_append.mp h).elim (fun h => in_wsL_law0_r2 w h) (fun h => (List.mem_append.mp h).elim (fun h => in_wsL_law0_r3 w h) (fun h => (List.mem_append.mp h).elim (fun h => in_wsL_law0_r4 w h) (fun h => (List.mem_append.mp h).elim (fun h => in_wsL_law0_r5 w h) (fun h => (List.mem_append.mp h).elim (fun h => in_wsL_law0_r6 w h) (fun h => (List.mem_append.mp h).elim (fun h => in_wsL_law0_r7 w h) (fun h => (List.mem_append.mp h).elim (fun h => in_wsL_law0_r8 w h) (fun h => (List.mem_append.mp h).elim (fun h => in_wsL_law0_r9 w h) (fun h => (List.mem_append.mp h).elim (fun h => in_wsL_law0_r10 w h) (fun h => (List.mem_append.mp h).elim (fun h => in_wsL_law0_r11 w h) (fun h => (List.mem_append.mp h).elim (fun h => in_wsL_law0_r12 w h) (fun h => (List.mem_append.mp h).elim (fun h => in_wsL_law0_r13 w h) (fun h => (List.mem_append.mp h).elim (fun h => in_wsL_law0_r14 w h) (fun h => (List.mem_append.mp h).elim (fun h => in_wsL_law0_r15 w h) (fun h => (List.mem_append.mp h).elim (fun h => in_wsL_law0_r16 w h) (fun h => (List.mem_append.mp h).elim (fun h => in_wsL_law0_r17 w h) (fun h => (List.mem_append.mp h).elim (fun h => in_wsL_law0_r18 w h) (fun h => (List.mem_append.mp h).elim (fun h => in_wsL_law0_r19 w h) (fun h => (List.mem_append.mp h).elim (fun h => in_wsL_law0_r20 w h) (fun h => (List.mem_append.mp h).elim (fun h => in_wsL_law0_r21 w h) (fun h => (List.mem_append.mp h).elim (fun h => in_wsL_law0_r22 w h) (fun h => (List.mem_append.mp h).elim (fun h => in_wsL_law0_r23 w h) (fun h => (List.mem_append.mp h).elim (fun h => in_wsL_law0_r24 w h) (fun h => (List.mem_append.mp h).elim (fun h => in_wsL_law0_r25 w h) (fun h => (List.mem_append.mp h).elim (fun h => in_wsL_law0_r26 w h) (fun h => in_wsL_law0_r27 w h))))))))))))))))))))))))))) (fun h => (wsX30_lw w h))) (fun h => (wsX40_lw w h))) (fun h => (wsX10_lw w h))) (fun h => (wsX20_lw w h))) (fun h => (wsX00_lw w h))) (fun h => (absurd h List.not_mem_nil))
