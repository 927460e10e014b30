theorem dL_at_0 : decode cL_at 0 = .ok (.iload_n 1, 1) := by decide +kernel
theorem dL_at_1 : decode cL_at 1 = .ok (.aload_n 0, 1) := by decide +kernel
theorem dL_at_2 : decode cL_at 2 = .ok (.arraylength, 1) := by decide +kernel
theorem dL_at_3 : decode cL_at 3 = .ok (.if_icmp .ge 9, 3) := by decide +kernel
theorem dL_at_6 : decode cL_at 6 = .ok (.aload_n 0, 1) := by decide +kernel
theorem dL_at_7 : decode cL_at 7 = .ok (.iload_n 1, 1) := by decide +kernel
theorem dL_at_8 : decode cL_at 8 = .ok (.iaload, 1) := by decide +kernel
theorem dL_at_9 : decode cL_at 9 = .ok (.goto 12, 3) := by decide +kernel
theorem dL_at_12 : decode cL_at 12 = .ok (.ldc 7, 2) := by decide +kernel
theorem dL_at_14 : decode cL_at 14 = .ok (.iload_n 1, 1) := by decide +kernel
theorem dL_at_15 : decode cL_at 15 = .ok (.iconst 1, 1) := by decide +kernel
theorem dL_at_16 : decode cL_at 16 = .ok (.iadd, 1) := by decide +kernel
theorem dL_at_17 : decode cL_at 17 = .ok (.imul, 1) := by decide +kernel
theorem dL_at_18 : decode cL_at 18 = .ok (.ldc 8, 2) := by decide +kernel
theorem dL_at_20 : decode cL_at 20 = .ok (.iadd, 1) := by decide +kernel
theorem dL_at_21 : decode cL_at 21 = .ok (.ireturn, 1) := by decide +kernel
theorem dL_low_0 : decode cL_low 0 = .ok (.iload_n 0, 1) := by decide +kernel
theorem dL_low_1 : decode cL_low 1 = .ok (.ldc 9, 2) := by decide +kernel
theorem dL_low_3 : decode cL_low 3 = .ok (.iand, 1) := by decide +kernel
theorem dL_low_4 : decode cL_low 4 = .ok (.iload_n 1, 1) := by decide +kernel
theorem dL_low_5 : decode cL_low 5 = .ok (.irem, 1) := by decide +kernel
theorem dL_low_6 : decode cL_low 6 = .ok (.ireturn, 1) := by decide +kernel
set_option maxRecDepth 20000 in
theorem ggL_setImage_X3_setImage : GoodIn wsL_setImage wsX3_setImage := goodIn_ca (goodIn_ca (goodIn_r _ [9, 10, 11, 12, 13, 14, 15, 16, 17, 18, 19, 8, 20, 21, 22, 23, 24, 25, 26, 27, 28, 29, 30, 31, 32, 33, 34, 35, 36, 37, 38, 39, 40, 41, 42, 43, 44, 45, 46, 47, 48, 49, 50, 51, 52, 53, 54, 55, 56, 57, 58, 59, 60, 61, 62, 63, 64, 65, 66, 67, 68, 69, 70, 71, 72, 73, 74, 75, 76, 77, 78, 79, 80, 81, 82, 83, 84, 85, 86, 87, 88, 89, 90, 91, 92, 93, 94, 95, 96, 97, 98, 99, 100, 101, 102, 103, 104, 105, 106, 107, 108, 109, 110, 111, 112, 113, 114, 115, 116, 117, 118, 119, 120, 121, 122, 123, 124, 125, 126, 127, 128, 129, 130] (by decide +kernel) (by decide +kernel)) (goodIn_sub (fun _ h => List.mem_cons_of_mem _ (List.mem_append_left _ (List.mem_append_right _ h))) (by decide +kernel))) (goodIn_sub (fun _ h => List.mem_cons_of_mem _ (List.mem_append_right _ h)) (by decide +kernel))
set_option maxRecDepth 20000 in
theorem gL_setImage_X3_setImage : GoodIn wsL_setImage (wsV RL 10 RX3 yX3_setImage wsX3_setImage) := goodIn_app (goodIn_of _ (by decide +kernel)) ggL_setImage_X3_setImage
theorem dL_setImage_0 : decode cL_setImage 0 = .ok (.aload_n 0, 1) := by decide +kernel
theorem dL_setImage_1 : decode cL_setImage 1 = .ok (.iload_n 1, 1) := by decide +kernel
theorem dL_setImage_2 : decode cL_setImage 2 = .ok (.iload_n 2, 1) := by decide +kernel
theorem dL_setImage_3 : decode cL_setImage 3 = .ok (.iload_n 3, 1) := by decide +kernel
theorem dL_setImage_4 : decode cL_setImage 4 = .ok (.iload 4, 2) := by decide +kernel
theorem dL_setImage_6 : decode cL_setImage 6 = .ok (.iload 5, 2) := by decide +kernel
theorem dL_setImage_8 : decode cL_setImage 8 = .ok (.iload 6, 2) := by decide +kernel
theorem dL_setImage_10 : decode cL_setImage 10 = .ok (.invokevirtual 10, 3) := by decide +kernel
theorem dL_setImage_13 : decode cL_setImage 13 = .ok (.iconst 0, 1) := by decide +kernel
theorem dL_setImage_14 : decode cL_setImage 14 = .ok (.ireturn, 1) := by decide +kernel
theorem dL_setImage_15 : decode cL_setImage 15 = .ok (.astore 7, 2) := by decide +kernel
theorem dL_setImage_17 : decode cL_setImage 17 = .ok (.ldc 18, 2) := by decide +kernel
theorem dL_setImage_19 : decode cL_setImage 19 = .ok (.ireturn, 1) := by decide +kernel
theorem dL_setImage_20 : decode cL_setImage 20 = .ok (.astore 7, 2) := by decide +kernel
theorem dL_setImage_22 : decode cL_setImage 22 = .ok (.ldc 21, 2) := by decide +kernel
theorem dL_setImage_24 : decode cL_setImage 24 = .ok (.ireturn, 1) := by decide +kernel
set_option maxRecDepth 20000 in
theorem ggL_setTime_X3_setTime : GoodIn wsL_setTime wsX3_setTime := goodIn_ca (goodIn_ca (goodIn_r _ [9, 10, 11, 12, 13, 8, 14, 15, 16, 17, 18, 19, 20, 21, 22, 23, 24, 25, 26, 27, 28, 29, 30, 31, 32, 33, 34, 35, 36, 37, 38, 39, 40, 41, 42, 43, 44, 45, 46, 47, 48, 49, 50, 51, 52, 53, 54, 55, 56, 57, 58, 59, 60, 61, 62, 63, 64, 65, 66, 67, 68, 69, 70, 71, 72, 73, 74, 75, 76, 77, 78, 79, 80, 81, 82, 83, 84, 85, 86, 87, 88, 89, 90, 91, 92, 93, 94, 95, 96, 97, 98, 99, 100, 101, 102, 103, 104, 105, 106, 107, 108, 109, 110, 111, 112, 113, 114, 115, 116, 117, 118, 119, 120, 121, 122, 123, 124, 125, 126, 127, 128, 129, 130] (by decide +kernel) (by decide +kernel)) (goodIn_sub (fun _ h => List.mem_cons_of_mem _ (List.mem_append_left _ (List.mem_append_right _ h))) (by decide +kernel))) (goodIn_sub (fun _ h => List.mem_cons_of_mem _ (List.mem_append_right _ h)) (by decide +kernel))
set_option maxRecDepth 20000 in
theorem gL_setTime_X3_setTime : GoodIn wsL_setTime (wsV RL 22 RX3 yX3_setTime wsX3_setTime) := goodIn_app (goodIn_of _ (by decide +kernel)) ggL_setTime_X3_setTime
theorem dL_setTime_0 : decode cL_setTime 0 = .ok (.aload_n 0, 1) := by decide +kernel
theorem dL_setTime_1 : decode cL_setTime 1 = .ok (.iload_n 1, 1) := by decide +kernel
theorem dL_setTime_2 : decode cL_setTime 2 = .ok (.iload_n 2, 1) := by decide +kernel
theorem dL_setTime_3 : decode cL_setTime 3 = .ok (.invokevirtual 22, 3) := by decide +kernel
theorem dL_setTime_6 : decode cL_setTime 6 = .ok (.ireturn, 1) := by decide +kernel
theorem dL_setTime_7 : decode cL_setTime 7 = .ok (.astore_n 3, 1) := by decide +kernel
theorem dL_setTime_8 : decode cL_setTime 8 = .ok (.ldc 18, 2) := by decide +kernel
theorem dL_setTime_10 : decode cL_setTime 10 = .ok (.ireturn, 1) := by decide +kernel
theorem dL_setTime_11 : decode cL_setTime 11 = .ok (.astore_n 3, 1) := by decide +kernel
theorem dL_setTime_12 : decode cL_setTime 12 = .ok (.ldc 21, 2) := by decide +kernel
theorem dL_setTime_14 : decode cL_setTime 14 = .ok (.ireturn, 1) := by decide +kernel
set_option maxRecDepth 20000 in
theorem ggL_dropImage_X3_dropImage : GoodIn wsL_dropImage wsX3_dropImage := goodIn_ca (goodIn_r _ [7, 8, 9, 10, 11, 6, 12, 13, 14, 15, 16, 17, 18, 19, 20, 21, 22, 23, 24, 25, 26, 27, 28, 29, 30, 31, 32, 33, 34, 35, 36, 37, 38, 39, 40, 41, 42, 43, 44, 45, 46, 47, 48, 49, 50, 51, 52, 53, 54, 55, 56, 57, 58, 59, 60, 61, 62, 63, 64, 65, 66, 67, 68, 69, 70, 71, 72, 73, 74, 75, 76, 77, 78, 79, 80, 81, 82, 83, 84, 85, 86, 87, 88, 89, 90, 91, 92, 93, 94, 95, 96, 97, 98, 99, 100, 101, 102, 103, 104, 105, 106, 107, 108, 109, 110, 111, 112, 113, 114, 115, 116, 117, 118, 119, 120, 121, 122, 123] (by decide +kernel) (by decide +kernel)) (goodIn_sub (fun _ h => List.mem_cons_of_mem _ (List.mem_append_right _ h)) (by decide +kernel))
set_option maxRecDepth 20000 in
theorem gL_dropImage_X3_dropImage : GoodIn wsL_dropImage (wsV RL 26 RX3 yX3_dropImage wsX3_dropImage) := goodIn_app (goodIn_of _ (by decide +kernel)) ggL_dropImage_X3_dropImage
theorem dL_dropImage_0 : decode cL_dropImage 0 = .ok (.aload_n 0, 1) := by decide +kernel
theorem dL_dropImage_1 : decode cL_dropImage 1 = .ok (.iload_n 1, 1) := by decide +kernel
theorem dL_dropImage_2 : decode cL_dropImage 2 = .ok (.invokevirtual 26, 3) := by decide +kernel
theorem dL_dropImage_5 : decode cL_dropImage 5 = .ok (.iconst 0, 1) := by decide +kernel
theorem dL_dropImage_6 : decode cL_dropImage 6 = .ok (.ireturn, 1) := by decide +kernel
theorem dL_dropImage_7 : decode cL_dropImage 7 = .ok (.astore_n 2, 1) := by decide +kernel
theorem dL_dropImage_8 : decode cL_dropImage 8 = .ok (.ldc 18, 2) := by decide +kernel
theorem dL_dropImage_10 : decode cL_dropImage 10 = .ok (.ireturn, 1) := by decide +kernel
set_option maxRecDepth 20000 in
theorem ggL_setBatch_X3_setBatch : GoodIn wsL_setBatch wsX3_setBatch := goodIn_ca (goodIn_ca (goodIn_r _ [9, 10, 11, 12, 13, 14, 15, 8, 16, 17, 18, 19, 20, 21, 22, 23, 24, 25, 26, 27, 28, 29, 30, 31, 32, 33, 34, 35, 36, 37, 38, 39, 40, 41, 42, 43, 44, 45, 46, 47, 48, 49, 50, 51, 52, 53, 54, 55, 56, 57, 58, 59, 60, 61, 62, 63, 64, 65, 66, 67, 68, 69, 70, 71, 72, 73, 74, 75, 76, 77, 78, 79, 80, 81, 82, 83, 84, 85, 86, 87, 88, 89, 90, 91, 92, 93, 94, 95, 96, 97, 98, 99, 100, 101, 102, 103, 104, 105, 106, 107, 108, 109, 110, 111, 112, 113, 114, 115, 116, 117, 118, 119, 120, 121, 122, 123, 124, 125] (by decide +kernel) (by decide +kernel)) (goodIn_sub (fun _ h => List.mem_cons_of_mem _ (List.mem_append_left _ (List.mem_append_right _ h))) (by decide +kernel))) (goodIn_sub (fun _ h => List.mem_cons_of_mem _ (List.mem_append_right _ h)) (by decide +kernel))
set_option maxRecDepth 20000 in
theorem gL_setBatch_X3_setBatch : GoodIn wsL_setBatch (wsV RL 30 RX3 yX3_setBatch wsX3_setBatch) := goodIn_app (goodIn_of _ (by decide +kernel)) ggL_setBatch_X3_setBatch
theorem dL_setBatch_0 : decode cL_setBatch 0 = .ok (.aload_n 0, 1) := by decide +kernel
theorem dL_setBatch_1 : decode cL_setBatch 1 = .ok (.iload_n 1, 1) := by decide +kernel
theorem dL_setBatch_2 : decode cL_setBatch 2 = .ok (.iload_n 2, 1) := by decide +kernel
theorem dL_setBatch_3 : decode cL_setBatch 3 = .ok (.invokevirtual 30, 3) := by decide +kernel
theorem dL_setBatch_6 : decode cL_setBatch 6 = .ok (.ireturn, 1) := by decide +kernel
theorem dL_setBatch_7 : decode cL_setBatch 7 = .ok (.astore_n 3, 1) := by decide +kernel
theorem dL_setBatch_8 : decode cL_setBatch 8 = .ok (.ldc 18, 2) := by decide +kernel
theorem dL_setBatch_10 : decode cL_setBatch 10 = .ok (.ireturn, 1) := by decide +kernel
theorem dL_setBatch_11 : decode cL_setBatch 11 = .ok (.astore_n 3, 1) := by decide +kernel
theorem dL_setBatch_12 : decode cL_setBatch 12 = .ok (.ldc 21, 2) := by decide +kernel
theorem dL_setBatch_14 : decode cL_setBatch 14 = .ok (.ireturn, 1) := by decide +kernel
set_option maxRecDepth 20000 in
theorem ggL_setRetries_X3_setRetries : GoodIn wsL_setRetries wsX3_setRetries := goodIn_ca (goodIn_r _ [7, 8, 9, 10, 11, 6, 12, 13, 14, 15, 16, 17, 18, 19, 20, 21, 22, 23, 24, 25, 26, 27, 28, 29, 30, 31, 32, 33, 34, 35, 36, 37, 38, 39, 40, 41, 42, 43, 44, 45, 46, 47, 48, 49, 50, 51, 52, 53, 54, 55, 56, 57, 58, 59, 60, 61, 62, 63, 64, 65, 66, 67, 68, 69, 70, 71, 72, 73, 74, 75, 76, 77, 78, 79, 80, 81, 82, 83, 84, 85, 86, 87, 88, 89, 90, 91, 92, 93, 94, 95, 96, 97, 98, 99, 100, 101, 102, 103, 104, 105, 106, 107, 108, 109, 110, 111, 112, 113, 114, 115, 116, 117, 118, 119] (by decide +kernel) (by decide +kernel)) (goodIn_sub (fun _ h => List.mem_cons_of_mem _ (List.mem_append_right _ h)) (by decide +kernel))
set_option maxRecDepth 20000 in
theorem gL_setRetries_X3_setRetries : GoodIn wsL_setRetries (wsV RL 33 RX3 yX3_setRetries wsX3_setRetries) := goodIn_app (goodIn_of _ (by decide +kernel)) ggL_setRetries_X3_setRetries
theorem dL_setRetries_0 : decode cL_setRetries 0 = .ok (.aload_n 0, 1) := by decide +kernel
theorem dL_setRetries_1 : decode cL_setRetries 1 = .ok (.iload_n 1, 1) := by decide +kernel
theorem dL_setRetries_2 : decode cL_setRetries 2 = .ok (.iload_n 2, 1) := by decide +kernel
theorem dL_setRetries_3 : decode cL_setRetries 3 = .ok (.invokevirtual 33, 3) := by decide +kernel
theorem dL_setRetries_6 : decode cL_setRetries 6 = .ok (.iconst 0, 1) := by decide +kernel
theorem dL_setRetries_7 : decode cL_setRetries 7 = .ok (.ireturn, 1) := by decide +kernel
theorem dL_setRetries_8 : decode cL_setRetries 8 = .ok (.astore_n 3, 1) := by decide +kernel
theorem dL_setRetries_9 : decode cL_setRetries 9 = .ok (.ldc 21, 2) := by decide +kernel
theorem dL_setRetries_11 : decode cL_setRetries 11 = .ok (.ireturn, 1) := by decide +kernel
set_option maxRecDepth 20000 in
theorem ggL_report_X3_report : GoodIn wsL_report wsX3_report := goodIn_ca (goodIn_ca (goodIn_r _ [9, 10, 11, 12, 13, 14, 15, 16, 17, 18, 19, 8, 20, 21, 22, 23, 24, 25, 26, 27, 28, 29, 30, 31, 32, 33, 34, 35, 36, 37, 38, 39, 40, 41, 42, 43, 44, 45, 46, 47, 48, 49, 50, 51, 52, 53, 54, 55, 56, 57, 58, 59, 60, 61, 62, 63, 64, 65, 66, 67, 68, 69, 70, 71, 72, 73, 74, 75, 76, 77, 78, 79, 80, 81, 82, 83, 84, 85, 86, 87, 88, 89, 90, 91, 92, 93, 94, 95, 96, 97, 98, 99, 100, 101, 102, 103, 104, 105, 106, 107, 108, 109, 110, 111, 112, 113, 114, 115, 116, 117, 118, 119, 120, 121, 122, 123, 124, 125, 126, 127, 128, 129, 130, 131, 132, 133, 134, 135, 136, 137, 138, 139, 140, 141, 142, 143, 144, 145, 146, 147, 148] (by decide +kernel) (by decide +kernel)) (goodIn_sub (fun _ h => List.mem_cons_of_mem _ (List.mem_append_left _ (List.mem_append_right _ h))) (by decide +kernel))) (goodIn_sub (fun _ h => List.mem_cons_of_mem _ (List.mem_append_right _ h)) (by decide +kernel))
set_option maxRecDepth 20000 in
theorem gL_report_X3_report : GoodIn wsL_report (wsV RL 37 RX3 yX3_report wsX3_report) := goodIn_app (goodIn_of _ (by decide +kernel)) ggL_report_X3_report
theorem dL_report_0 : decode cL_report 0 = .ok (.aload_n 0, 1) := by decide +kernel
theorem dL_report_1 : decode cL_report 1 = .ok (.iload_n 1, 1) := by decide +kernel
theorem dL_report_2 : decode cL_report 2 = .ok (.iload_n 2, 1) := by decide +kernel
theorem dL_report_3 : decode cL_report 3 = .ok (.iload_n 3, 1) := by decide +kernel
theorem dL_report_4 : decode cL_report 4 = .ok (.iload 4, 2) := by decide +kernel
theorem dL_report_6 : decode cL_report 6 = .ok (.iload 5, 2) := by decide +kernel
theorem dL_report_8 : decode cL_report 8 = .ok (.invokevirtual 37, 3) := by decide +kernel
theorem dL_report_11 : decode cL_report 11 = .ok (.ireturn, 1) := by decide +kernel
theorem dL_report_12 : decode cL_report 12 = .ok (.astore 6, 2) := by decide +kernel
theorem dL_report_14 : decode cL_report 14 = .ok (.ldc 18, 2) := by decide +kernel
theorem dL_report_16 : decode cL_report 16 = .ok (.ireturn, 1) := by decide +kernel
theorem dL_report_17 : decode cL_report 17 = .ok (.astore 6, 2) := by decide +kernel
theorem dL_report_19 : decode cL_report 19 = .ok (.ldc 21, 2) := by decide +kernel
theorem dL_report_21 : decode cL_report 21 = .ok (.ireturn, 1) := by decide +kernel
set_option maxRecDepth 20000 in
theorem ggL_order_X3_order : GoodIn wsL_order wsX3_order := goodIn_ca (goodIn_ca (goodIn_r _ [9, 10, 11, 12, 13, 14, 15, 8, 16, 17, 18, 19, 20, 21, 22, 23, 24, 25, 26, 27, 28, 29, 30, 31, 32, 33, 34, 35, 36, 37, 38, 39, 40, 41, 42, 43, 44, 45, 46, 47, 48, 49, 50, 51, 52, 53, 54, 55, 56, 57, 58, 59, 60, 61, 62, 63, 64, 65, 66, 67, 68, 69, 70, 71, 72, 73, 74, 75, 76, 77, 78, 79, 80, 81, 82, 83, 84, 85, 86, 87, 88, 89, 90, 91, 92, 93, 94, 95, 96, 97, 98, 99, 100, 101, 102, 103, 104, 105, 106, 107, 108, 109, 110, 111, 112, 113, 114, 115, 116, 117, 118, 119, 120, 121, 122, 123, 124, 125, 126, 127, 128, 129, 130, 131] (by decide +kernel) (by decide +kernel)) (goodIn_sub (fun _ h => List.mem_cons_of_mem _ (List.mem_append_left _ (List.mem_append_right _ h))) (by decide +kernel))) (goodIn_sub (fun _ h => List.mem_cons_of_mem _ (List.mem_append_right _ h)) (by decide +kernel))
set_option maxRecDepth 20000 in
theorem gL_order_X3_order : GoodIn wsL_order (wsV RL 41 RX3 yX3_order wsX3_order) := goodIn_app (goodIn_of _ (by decide +kernel)) ggL_order_X3_order
theorem dL_order_0 : decode cL_order 0 = .ok (.aload_n 0, 1) := by decide +kernel
theorem dL_order_1 : decode cL_order 1 = .ok (.iload_n 1, 1) := by decide +kernel
theorem dL_order_2 : decode cL_order 2 = .ok (.invokevirtual 41, 3) := by decide +kernel
theorem dL_order_5 : decode cL_order 5 = .ok (.ireturn, 1) := by decide +kernel
theorem dL_order_6 : decode cL_order 6 = .ok (.astore_n 2, 1) := by decide +kernel
theorem dL_order_7 : decode cL_order 7 = .ok (.ldc 18, 2) := by decide +kernel
theorem dL_order_9 : decode cL_order 9 = .ok (.ireturn, 1) := by decide +kernel
theorem dL_order_10 : decode cL_order 10 = .ok (.astore_n 2, 1) := by decide +kernel
theorem dL_order_11 : decode cL_order 11 = .ok (.ldc 47, 2) := by decide +kernel
theorem dL_order_13 : decode cL_order 13 = .ok (.ireturn, 1) := by decide +kernel
set_option maxRecDepth 20000 in
theorem ggL_cancel_X3_cancel : GoodIn wsL_cancel wsX3_cancel := goodIn_ca (goodIn_ca (goodIn_r _ [9, 10, 11, 12, 13, 14, 15, 8, 16, 17, 18, 19, 20, 21, 22, 23, 24, 25, 26, 27, 28, 29, 30, 31, 32, 33, 34, 35, 36, 37, 38, 39, 40, 41, 42, 43, 44, 45, 46, 47, 48, 49, 50, 51, 52, 53, 54, 55, 56, 57, 58, 59, 60, 61, 62, 63, 64, 65, 66, 67, 68, 69, 70, 71, 72, 73, 74, 75, 76, 77, 78, 79, 80, 81, 82, 83, 84, 85, 86, 87, 88, 89, 90, 91, 92, 93, 94, 95, 96, 97, 98, 99, 100, 101, 102, 103, 104, 105, 106, 107, 108, 109, 110, 111, 112, 113, 114, 115, 116, 117, 118, 119, 120, 121, 122] (by decide +kernel) (by decide +kernel)) (goodIn_sub (fun _ h => List.mem_cons_of_mem _ (List.mem_append_left _ (List.mem_append_right _ h))) (by decide +kernel))) (goodIn_sub (fun _ h => List.mem_cons_of_mem _ (List.mem_append_right _ h)) (by decide +kernel))
set_option maxRecDepth 20000 in
theorem gL_cancel_X3_cancel : GoodIn wsL_cancel (wsV RL 48 RX3 yX3_cancel wsX3_cancel) := goodIn_app (goodIn_of _ (by decide +kernel)) ggL_cancel_X3_cancel
theorem dL_cancel_0 : decode cL_cancel 0 = .ok (.aload_n 0, 1) := by decide +kernel
theorem dL_cancel_1 : decode cL_cancel 1 = .ok (.iload_n 1, 1) := by decide +kernel
theorem dL_cancel_2 : decode cL_cancel 2 = .ok (.invokevirtual 48, 3) := by decide +kernel
theorem dL_cancel_5 : decode cL_cancel 5 = .ok (.iconst 0, 1) := by decide +kernel
theorem dL_cancel_6 : decode cL_cancel 6 = .ok (.ireturn, 1) := by decide +kernel
theorem dL_cancel_7 : decode cL_cancel 7 = .ok (.astore_n 2, 1) := by decide +kernel
theorem dL_cancel_8 : decode cL_cancel 8 = .ok (.ldc 18, 2) := by decide +kernel
theorem dL_cancel_10 : decode cL_cancel 10 = .ok (.ireturn, 1) := by decide +kernel
theorem dL_cancel_11 : decode cL_cancel 11 = .ok (.astore_n 2, 1) := by decide +kernel
theorem dL_cancel_12 : decode cL_cancel 12 = .ok (.ldc 47, 2) := by decide +kernel
theorem dL_cancel_14 : decode cL_cancel 14 = .ok (.ireturn, 1) := by decide +kernel
set_option maxRecDepth 20000 in
theorem ggL_finish_X3_finish : GoodIn wsL_finish wsX3_finish := goodIn_ca (goodIn_ca (goodIn_r _ [9, 10, 11, 12, 13, 14, 15, 16, 8, 17, 18, 19, 20, 21, 22, 23, 24, 25, 26, 27, 28, 29, 30, 31, 32, 33, 34, 35, 36, 37, 38, 39, 40, 41, 42, 43, 44, 45, 46, 47, 48, 49, 50, 51, 52, 53, 54, 55, 56, 57, 58, 59, 60, 61, 62, 63, 64, 65, 66, 67, 68, 69, 70, 71, 72, 73, 74, 75, 76, 77, 78, 79, 80, 81, 82, 83, 84, 85, 86, 87, 88, 89, 90, 91, 92, 93, 94, 95, 96, 97, 98, 99, 100, 101, 102, 103, 104, 105, 106, 107, 108, 109, 110, 111, 112, 113, 114, 115, 116, 117, 118, 119, 120, 121, 122, 123, 124, 125, 126, 127, 128, 129] (by decide +kernel) (by decide +kernel)) (goodIn_sub (fun _ h => List.mem_cons_of_mem _ (List.mem_append_left _ (List.mem_append_right _ h))) (by decide +kernel))) (goodIn_sub (fun _ h => List.mem_cons_of_mem _ (List.mem_append_right _ h)) (by decide +kernel))
set_option maxRecDepth 20000 in
theorem gL_finish_X3_finish : GoodIn wsL_finish (wsV RL 51 RX3 yX3_finish wsX3_finish) := goodIn_app (goodIn_of _ (by decide +kernel)) ggL_finish_X3_finish
theorem dL_finish_0 : decode cL_finish 0 = .ok (.aload_n 0, 1) := by decide +kernel
theorem dL_finish_1 : decode cL_finish 1 = .ok (.iload_n 1, 1) := by decide +kernel
theorem dL_finish_2 : decode cL_finish 2 = .ok (.iload_n 2, 1) := by decide +kernel
theorem dL_finish_3 : decode cL_finish 3 = .ok (.invokevirtual 51, 3) := by decide +kernel
theorem dL_finish_6 : decode cL_finish 6 = .ok (.ireturn, 1) := by decide +kernel
theorem dL_finish_7 : decode cL_finish 7 = .ok (.astore_n 3, 1) := by decide +kernel
theorem dL_finish_8 : decode cL_finish 8 = .ok (.ldc 18, 2) := by decide +kernel
theorem dL_finish_10 : decode cL_finish 10 = .ok (.ireturn, 1) := by decide +kernel
theorem dL_finish_11 : decode cL_finish 11 = .ok (.astore_n 3, 1) := by decide +kernel
theorem dL_finish_12 : decode cL_finish 12 = .ok (.ldc 47, 2) := by decide +kernel
theorem dL_finish_14 : decode cL_finish 14 = .ok (.ireturn, 1) := by decide +kernel
set_option maxRecDepth 20000 in
theorem ggL_retire_X3_retire : GoodIn wsL_retire wsX3_retire := goodIn_ca (goodIn_ca (goodIn_ca (goodIn_r _ [11, 12, 13, 14, 15, 16, 17, 18, 19, 10, 20, 21, 22, 23, 24, 25, 26, 27, 28, 29, 30, 31, 32, 33, 34, 35, 36, 37, 38, 39, 40, 41, 42, 43, 44, 45, 46, 47, 48, 49, 50, 51, 52, 53, 54, 55, 56, 57, 58, 59, 60, 61, 62, 63, 64, 65, 66, 67, 68, 69, 70, 71, 72, 73, 74, 75, 76, 77, 78, 79, 80, 81, 82, 83, 84, 85, 86, 87, 88, 89, 90, 91, 92, 93, 94, 95, 96, 97, 98, 99, 100, 101, 102, 103, 104, 105, 106, 107, 108, 109, 110, 111, 112, 113, 114, 115, 116, 117, 118, 119, 120, 121, 122, 123, 124, 125, 126, 127, 128, 129, 130, 131, 132, 133, 134] (by decide +kernel) (by decide +kernel)) (goodIn_sub (fun _ h => List.mem_cons_of_mem _ (List.mem_append_left _ (List.mem_append_left _ (List.mem_append_right _ h)))) (by decide +kernel))) (goodIn_sub (fun _ h => List.mem_cons_of_mem _ (List.mem_append_left _ (List.mem_append_right _ h))) (by decide +kernel))) (goodIn_sub (fun _ h => List.mem_cons_of_mem _ (List.mem_append_right _ h)) (by decide +kernel))
set_option maxRecDepth 20000 in
theorem gL_retire_X3_retire : GoodIn wsL_retire (wsV RL 55 RX3 yX3_retire wsX3_retire) := goodIn_app (goodIn_of _ (by decide +kernel)) ggL_retire_X3_retire
theorem dL_retire_0 : decode cL_retire 0 = .ok (.aload_n 0, 1) := by decide +kernel
theorem dL_retire_1 : decode cL_retire 1 = .ok (.iload_n 1, 1) := by decide +kernel
theorem dL_retire_2 : decode cL_retire 2 = .ok (.iload_n 2, 1) := by decide +kernel
theorem dL_retire_3 : decode cL_retire 3 = .ok (.invokevirtual 55, 3) := by decide +kernel
theorem dL_retire_6 : decode cL_retire 6 = .ok (.iconst 0, 1) := by decide +kernel
theorem dL_retire_7 : decode cL_retire 7 = .ok (.ireturn, 1) := by decide +kernel
theorem dL_retire_8 : decode cL_retire 8 = .ok (.astore_n 3, 1) := by decide +kernel
theorem dL_retire_9 : decode cL_retire 9 = .ok (.ldc 18, 2) := by decide +kernel
theorem dL_retire_11 : decode cL_retire 11 = .ok (.ireturn, 1) := by decide +kernel
theorem dL_retire_12 : decode cL_retire 12 = .ok (.astore_n 3, 1) := by decide +kernel
theorem dL_retire_13 : decode cL_retire 13 = .ok (.ldc 21, 2) := by decide +kernel
theorem dL_retire_15 : decode cL_retire 15 = .ok (.ireturn, 1) := by decide +kernel
theorem dL_retire_16 : decode cL_retire 16 = .ok (.astore_n 3, 1) := by decide +kernel
theorem dL_retire_17 : decode cL_retire 17 = .ok (.ldc 47, 2) := by decide +kernel
theorem dL_retire_19 : decode cL_retire 19 = .ok (.ireturn, 1) := by decide +kernel
set_option maxRecDepth 20000 in
theorem ggL_keep_X3_keep : GoodIn wsL_keep wsX3_keep := goodIn_ca (goodIn_ca (goodIn_r _ [9, 10, 11, 12, 13, 14, 15, 8, 16, 17, 18, 19, 20, 21, 22, 23, 24, 25, 26, 27, 28, 29, 30, 31, 32, 33, 34, 35, 36, 37, 38, 39, 40, 41, 42, 43, 44, 45, 46, 47, 48, 49, 50, 51, 52, 53, 54, 55, 56, 57, 58, 59, 60, 61, 62, 63, 64, 65, 66, 67, 68, 69, 70, 71, 72, 73, 74, 75, 76, 77, 78, 79, 80, 81, 82, 83, 84, 85, 86, 87, 88, 89, 90, 91, 92, 93, 94, 95, 96, 97, 98, 99, 100, 101, 102, 103, 104, 105, 106, 107, 108, 109, 110, 111, 112, 113, 114, 115, 116, 117, 118, 119, 120, 121, 122] (by decide +kernel) (by decide +kernel)) (goodIn_sub (fun _ h => List.mem_cons_of_mem _ (List.mem_append_left _ (List.mem_append_right _ h))) (by decide +kernel))) (goodIn_sub (fun _ h => List.mem_cons_of_mem _ (List.mem_append_right _ h)) (by decide +kernel))
set_option maxRecDepth 20000 in
theorem gL_keep_X3_keep : GoodIn wsL_keep (wsV RL 58 RX3 yX3_keep wsX3_keep) := goodIn_app (goodIn_of _ (by decide +kernel)) ggL_keep_X3_keep
theorem dL_keep_0 : decode cL_keep 0 = .ok (.aload_n 0, 1) := by decide +kernel
theorem dL_keep_1 : decode cL_keep 1 = .ok (.iload_n 1, 1) := by decide +kernel
theorem dL_keep_2 : decode cL_keep 2 = .ok (.invokevirtual 58, 3) := by decide +kernel
theorem dL_keep_5 : decode cL_keep 5 = .ok (.iconst 0, 1) := by decide +kernel
theorem dL_keep_6 : decode cL_keep 6 = .ok (.ireturn, 1) := by decide +kernel
theorem dL_keep_7 : decode cL_keep 7 = .ok (.astore_n 2, 1) := by decide +kernel
theorem dL_keep_8 : decode cL_keep 8 = .ok (.ldc 18, 2) := by decide +kernel
theorem dL_keep_10 : decode cL_keep 10 = .ok (.ireturn, 1) := by decide +kernel
theorem dL_keep_11 : decode cL_keep 11 = .ok (.astore_n 2, 1) := by decide +kernel
theorem dL_keep_12 : decode cL_keep 12 = .ok (.ldc 47, 2) := by decide +kernel
theorem dL_keep_14 : decode cL_keep 14 = .ok (.ireturn, 1) := by decide +kernel
set_option maxRecDepth 20000 in
theorem ggL_release_X3_release : GoodIn wsL_release wsX3_release := goodIn_ca (goodIn_ca (goodIn_r _ [9, 10, 11, 12, 13, 14, 15, 16, 8, 17, 18, 19, 20, 21, 22, 23, 24, 25, 26, 27, 28, 29, 30, 31, 32, 33, 34, 35, 36, 37, 38, 39, 40, 41, 42, 43, 44, 45, 46, 47, 48, 49, 50, 51, 52, 53, 54, 55, 56, 57, 58, 59, 60, 61, 62, 63, 64, 65, 66, 67, 68, 69, 70, 71, 72, 73, 74, 75, 76, 77, 78, 79, 80, 81, 82, 83, 84, 85, 86, 87, 88, 89, 90, 91, 92, 93, 94, 95, 96, 97, 98, 99, 100, 101, 102, 103, 104, 105, 106, 107, 108, 109, 110, 111, 112, 113, 114, 115, 116, 117, 118, 119, 120, 121, 122, 123] (by decide +kernel) (by decide +kernel)) (goodIn_sub (fun _ h => List.mem_cons_of_mem _ (List.mem_append_left _ (List.mem_append_right _ h))) (by decide +kernel))) (goodIn_sub (fun _ h => List.mem_cons_of_mem _ (List.mem_append_right _ h)) (by decide +kernel))
set_option maxRecDepth 20000 in
theorem gL_release_X3_release : GoodIn wsL_release (wsV RL 61 RX3 yX3_release wsX3_release) := goodIn_app (goodIn_of _ (by decide +kernel)) ggL_release_X3_release
theorem dL_release_0 : decode cL_release 0 = .ok (.aload_n 0, 1) := by decide +kernel
theorem dL_release_1 : decode cL_release 1 = .ok (.iload_n 1, 1) := by decide +kernel
theorem dL_release_2 : decode cL_release 2 = .ok (.invokevirtual 61, 3) := by decide +kernel
theorem dL_release_5 : decode cL_release 5 = .ok (.iconst 0, 1) := by decide +kernel
theorem dL_release_6 : decode cL_release 6 = .ok (.ireturn, 1) := by decide +kernel
theorem dL_release_7 : decode cL_release 7 = .ok (.astore_n 2, 1) := by decide +kernel
theorem dL_release_8 : decode cL_release 8 = .ok (.ldc 18, 2) := by decide +kernel
theorem dL_release_10 : decode cL_release 10 = .ok (.ireturn, 1) := by decide +kernel
theorem dL_release_11 : decode cL_release 11 = .ok (.astore_n 2, 1) := by decide +kernel
theorem dL_release_12 : decode cL_release 12 = .ok (.ldc 47, 2) := by decide +kernel
theorem dL_release_14 : decode cL_release 14 = .ok (.ireturn, 1) := by decide +kernel
set_option maxRecDepth 20000 in
theorem ggL_advance_X3_advance : GoodIn wsL_advance wsX3_advance := goodIn_ca (goodIn_r _ [7, 8, 9, 10, 11, 6, 12, 13, 14, 15, 16, 17, 18, 19, 20, 21, 22, 23, 24, 25, 26, 27, 28, 29, 30, 31, 32, 33, 34, 35, 36, 37, 38, 39, 40, 41, 42, 43, 44, 45, 46, 47, 48, 49, 50, 51, 52, 53, 54, 55, 56, 57, 58, 59, 60, 61, 62, 63, 64, 65, 66, 67, 68, 69, 70, 71, 72, 73, 74, 75, 76, 77, 78, 79, 80, 81, 82, 83, 84, 85, 86, 87, 88, 89, 90, 91, 92, 93, 94, 95, 96, 97, 98, 99, 100, 101, 102, 103, 104, 105, 106, 107, 108, 109, 110, 111, 112, 113, 114, 115, 116, 117, 118, 119, 120, 121, 122, 123, 124, 125, 126, 127, 128, 129, 130, 131, 132, 133, 134, 135, 136, 137, 138, 139, 140, 141, 142, 143, 144, 145, 146, 147, 148, 149, 150, 151, 152, 153, 154, 155, 156, 157, 158, 159, 160] (by decide +kernel) (by decide +kernel)) (goodIn_sub (fun _ h => List.mem_cons_of_mem _ (List.mem_append_right _ h)) (by decide +kernel))
set_option maxRecDepth 20000 in
theorem gL_advance_X3_advance : GoodIn wsL_advance (wsV RL 64 RX3 yX3_advance wsX3_advance) := goodIn_app (goodIn_of _ (by decide +kernel)) ggL_advance_X3_advance
theorem dL_advance_0 : decode cL_advance 0 = .ok (.aload_n 0, 1) := by decide +kernel
theorem dL_advance_1 : decode cL_advance 1 = .ok (.iload_n 1, 1) := by decide +kernel
theorem dL_advance_2 : decode cL_advance 2 = .ok (.invokevirtual 64, 3) := by decide +kernel
theorem dL_advance_5 : decode cL_advance 5 = .ok (.ireturn, 1) := by decide +kernel
theorem dL_advance_6 : decode cL_advance 6 = .ok (.astore_n 2, 1) := by decide +kernel
theorem dL_advance_7 : decode cL_advance 7 = .ok (.ldc 21, 2) := by decide +kernel
theorem dL_advance_9 : decode cL_advance 9 = .ok (.ireturn, 1) := by decide +kernel
set_option maxRecDepth 20000 in
theorem ggL_stateOf_X3_stateOf : GoodIn wsL_stateOf wsX3_stateOf := goodIn_ca (goodIn_r _ [7, 8, 9, 10, 11, 6, 12, 13, 14, 15, 16, 17, 18, 19, 20, 21, 22, 23, 24, 25, 26, 27, 28, 29, 30, 31, 32, 33, 34] (by decide +kernel) (by decide +kernel)) (goodIn_sub (fun _ h => List.mem_cons_of_mem _ (List.mem_append_right _ h)) (by decide +kernel))
set_option maxRecDepth 20000 in
theorem gL_stateOf_X3_stateOf : GoodIn wsL_stateOf (wsV RL 67 RX3 yX3_stateOf wsX3_stateOf) := goodIn_app (goodIn_of _ (by decide +kernel)) ggL_stateOf_X3_stateOf
theorem dL_stateOf_0 : decode cL_stateOf 0 = .ok (.aload_n 0, 1) := by decide +kernel
theorem dL_stateOf_1 : decode cL_stateOf 1 = .ok (.iload_n 1, 1) := by decide +kernel
theorem dL_stateOf_2 : decode cL_stateOf 2 = .ok (.invokevirtual 67, 3) := by decide +kernel
theorem dL_stateOf_5 : decode cL_stateOf 5 = .ok (.ireturn, 1) := by decide +kernel
theorem dL_stateOf_6 : decode cL_stateOf 6 = .ok (.astore_n 2, 1) := by decide +kernel
theorem dL_stateOf_7 : decode cL_stateOf 7 = .ok (.ldc 18, 2) := by decide +kernel
theorem dL_stateOf_9 : decode cL_stateOf 9 = .ok (.ireturn, 1) := by decide +kernel
set_option maxRecDepth 20000 in
theorem ggL_reason_X3_reason : GoodIn wsL_reason wsX3_reason := goodIn_ca (goodIn_r _ [7, 8, 9, 10, 11, 6, 12, 13, 14, 15, 16, 17, 18, 19, 20, 21, 22, 23, 24, 25, 26, 27, 28, 29, 30, 31, 32, 33, 34, 35, 36, 37, 38, 39, 40, 41, 42, 43, 44, 45, 46, 47, 48, 49, 50, 51, 52, 53, 54, 55, 56, 57, 58, 59, 60, 61, 62, 63, 64, 65] (by decide +kernel) (by decide +kernel)) (goodIn_sub (fun _ h => List.mem_cons_of_mem _ (List.mem_append_right _ h)) (by decide +kernel))
set_option maxRecDepth 20000 in
theorem gL_reason_X3_reason : GoodIn wsL_reason (wsV RL 70 RX3 yX3_reason wsX3_reason) := goodIn_app (goodIn_of _ (by decide +kernel)) ggL_reason_X3_reason
theorem dL_reason_0 : decode cL_reason 0 = .ok (.aload_n 0, 1) := by decide +kernel
theorem dL_reason_1 : decode cL_reason 1 = .ok (.iload_n 1, 1) := by decide +kernel
theorem dL_reason_2 : decode cL_reason 2 = .ok (.invokevirtual 70, 3) := by decide +kernel
theorem dL_reason_5 : decode cL_reason 5 = .ok (.ireturn, 1) := by decide +kernel
theorem dL_reason_6 : decode cL_reason 6 = .ok (.astore_n 2, 1) := by decide +kernel
theorem dL_reason_7 : decode cL_reason 7 = .ok (.ldc 18, 2) := by decide +kernel
theorem dL_reason_9 : decode cL_reason 9 = .ok (.ireturn, 1) := by decide +kernel
set_option maxRecDepth 20000 in
theorem ggL_matchOf_X3_matchOf : GoodIn wsL_matchOf wsX3_matchOf := goodIn_ca (goodIn_r _ [7, 8, 9, 10, 11, 6, 12, 13, 14, 15, 16, 17, 18, 19, 20, 21, 22, 23, 24, 25, 26, 27, 28, 29, 30, 31, 32, 33, 34, 35, 36, 37, 38, 39, 40, 41, 42, 43, 44, 45, 46, 47, 48, 49, 50, 51, 52, 53, 54, 55, 56, 57, 58, 59, 60, 61, 62] (by decide +kernel) (by decide +kernel)) (goodIn_sub (fun _ h => List.mem_cons_of_mem _ (List.mem_append_right _ h)) (by decide +kernel))
set_option maxRecDepth 20000 in
theorem gL_matchOf_X3_matchOf : GoodIn wsL_matchOf (wsV RL 73 RX3 yX3_matchOf wsX3_matchOf) := goodIn_app (goodIn_of _ (by decide +kernel)) ggL_matchOf_X3_matchOf
theorem dL_matchOf_0 : decode cL_matchOf 0 = .ok (.aload_n 0, 1) := by decide +kernel
theorem dL_matchOf_1 : decode cL_matchOf 1 = .ok (.iload_n 1, 1) := by decide +kernel
theorem dL_matchOf_2 : decode cL_matchOf 2 = .ok (.invokevirtual 73, 3) := by decide +kernel
theorem dL_matchOf_5 : decode cL_matchOf 5 = .ok (.ireturn, 1) := by decide +kernel
theorem dL_matchOf_6 : decode cL_matchOf 6 = .ok (.astore_n 2, 1) := by decide +kernel
theorem dL_matchOf_7 : decode cL_matchOf 7 = .ok (.ldc 18, 2) := by decide +kernel
theorem dL_matchOf_9 : decode cL_matchOf 9 = .ok (.ireturn, 1) := by decide +kernel
set_option maxRecDepth 20000 in
theorem ggL_imageOf_X3_imageOf : GoodIn wsL_imageOf wsX3_imageOf := goodIn_ca (goodIn_r _ [7, 8, 9, 10, 11, 6, 12, 13, 14, 15, 16, 17, 18, 19, 20, 21, 22, 23, 24, 25, 26, 27, 28, 29, 30, 31, 32, 33, 34, 35, 36, 37, 38, 39, 40] (by decide +kernel) (by decide +kernel)) (goodIn_sub (fun _ h => List.mem_cons_of_mem _ (List.mem_append_right _ h)) (by decide +kernel))
set_option maxRecDepth 20000 in
theorem gL_imageOf_X3_imageOf : GoodIn wsL_imageOf (wsV RL 76 RX3 yX3_imageOf wsX3_imageOf) := goodIn_app (goodIn_of _ (by decide +kernel)) ggL_imageOf_X3_imageOf
theorem dL_imageOf_0 : decode cL_imageOf 0 = .ok (.aload_n 0, 1) := by decide +kernel
theorem dL_imageOf_1 : decode cL_imageOf 1 = .ok (.iload_n 1, 1) := by decide +kernel
theorem dL_imageOf_2 : decode cL_imageOf 2 = .ok (.invokevirtual 76, 3) := by decide +kernel
theorem dL_imageOf_5 : decode cL_imageOf 5 = .ok (.ireturn, 1) := by decide +kernel
theorem dL_imageOf_6 : decode cL_imageOf 6 = .ok (.astore_n 2, 1) := by decide +kernel
theorem dL_imageOf_7 : decode cL_imageOf 7 = .ok (.ldc 18, 2) := by decide +kernel
theorem dL_imageOf_9 : decode cL_imageOf 9 = .ok (.ireturn, 1) := by decide +kernel
set_option maxRecDepth 20000 in
theorem ggL_endOf_X3_endOf : GoodIn wsL_endOf wsX3_endOf := goodIn_ca (goodIn_r _ [7, 8, 9, 10, 11, 6, 12, 13, 14, 15, 16, 17, 18, 19, 20, 21, 22, 23, 24, 25, 26, 27, 28, 29, 30, 31, 32, 33, 34, 35, 36, 37, 38, 39, 40] (by decide +kernel) (by decide +kernel)) (goodIn_sub (fun _ h => List.mem_cons_of_mem _ (List.mem_append_right _ h)) (by decide +kernel))
set_option maxRecDepth 20000 in
theorem gL_endOf_X3_endOf : GoodIn wsL_endOf (wsV RL 79 RX3 yX3_endOf wsX3_endOf) := goodIn_app (goodIn_of _ (by decide +kernel)) ggL_endOf_X3_endOf
theorem dL_endOf_0 : decode cL_endOf 0 = .ok (.aload_n 0, 1) := by decide +kernel
theorem dL_endOf_1 : decode cL_endOf 1 = .ok (.iload_n 1, 1) := by decide +kernel
theorem dL_endOf_2 : decode cL_endOf 2 = .ok (.invokevirtual 79, 3) := by decide +kernel
theorem dL_endOf_5 : decode cL_endOf 5 = .ok (.ireturn, 1) := by decide +kernel
theorem dL_endOf_6 : decode cL_endOf 6 = .ok (.astore_n 2, 1) := by decide +kernel
theorem dL_endOf_7 : decode cL_endOf 7 = .ok (.ldc 18, 2) := by decide +kernel
theorem dL_endOf_9 : decode cL_endOf 9 = .ok (.ireturn, 1) := by decide +kernel
set_option maxRecDepth 20000 in
theorem ggL_failuresOf_X3_failuresOf : GoodIn wsL_failuresOf wsX3_failuresOf := goodIn_ca (goodIn_r _ [7, 8, 9, 10, 11, 6, 12, 13, 14, 15, 16, 17, 18, 19, 20, 21, 22, 23, 24, 25, 26, 27, 28, 29, 30, 31, 32, 33, 34] (by decide +kernel) (by decide +kernel)) (goodIn_sub (fun _ h => List.mem_cons_of_mem _ (List.mem_append_right _ h)) (by decide +kernel))
set_option maxRecDepth 20000 in
theorem gL_failuresOf_X3_failuresOf : GoodIn wsL_failuresOf (wsV RL 82 RX3 yX3_failuresOf wsX3_failuresOf) := goodIn_app (goodIn_of _ (by decide +kernel)) ggL_failuresOf_X3_failuresOf
theorem dL_failuresOf_0 : decode cL_failuresOf 0 = .ok (.aload_n 0, 1) := by decide +kernel
theorem dL_failuresOf_1 : decode cL_failuresOf 1 = .ok (.iload_n 1, 1) := by decide +kernel
theorem dL_failuresOf_2 : decode cL_failuresOf 2 = .ok (.invokevirtual 82, 3) := by decide +kernel
theorem dL_failuresOf_5 : decode cL_failuresOf 5 = .ok (.ireturn, 1) := by decide +kernel
theorem dL_failuresOf_6 : decode cL_failuresOf 6 = .ok (.astore_n 2, 1) := by decide +kernel
theorem dL_failuresOf_7 : decode cL_failuresOf 7 = .ok (.ldc 18, 2) := by decide +kernel
theorem dL_failuresOf_9 : decode cL_failuresOf 9 = .ok (.ireturn, 1) := by decide +kernel
set_option maxRecDepth 20000 in
theorem ggL_installing_X3_installing : GoodIn wsL_installing wsX3_installing := goodIn_ca (goodIn_r _ [7, 8, 9, 10, 11, 12, 6, 13, 14, 15, 16, 17, 18, 19, 20, 21, 22, 23, 24, 25, 26, 27, 28, 29, 30, 31, 32, 33, 34, 35, 36, 37, 38, 39, 40] (by decide +kernel) (by decide +kernel)) (goodIn_sub (fun _ h => List.mem_cons_of_mem _ (List.mem_append_right _ h)) (by decide +kernel))
set_option maxRecDepth 20000 in
theorem gL_installing_X3_installing : GoodIn wsL_installing (wsV RL 85 RX3 yX3_installing wsX3_installing) := goodIn_app (goodIn_of _ (by decide +kernel)) ggL_installing_X3_installing
theorem dL_installing_0 : decode cL_installing 0 = .ok (.aload_n 0, 1) := by decide +kernel
theorem dL_installing_1 : decode cL_installing 1 = .ok (.iload_n 1, 1) := by decide +kernel
theorem dL_installing_2 : decode cL_installing 2 = .ok (.invokevirtual 85, 3) := by decide +kernel
theorem dL_installing_5 : decode cL_installing 5 = .ok (.ireturn, 1) := by decide +kernel
theorem dL_installing_6 : decode cL_installing 6 = .ok (.astore_n 2, 1) := by decide +kernel
theorem dL_installing_7 : decode cL_installing 7 = .ok (.ldc 18, 2) := by decide +kernel
theorem dL_installing_9 : decode cL_installing 9 = .ok (.ireturn, 1) := by decide +kernel
set_option maxRecDepth 20000 in
theorem ggL_queueAt_X3_queueAt : GoodIn wsL_queueAt wsX3_queueAt := goodIn_ca (goodIn_r _ [7, 8, 9, 10, 11, 12, 13, 6, 14, 15, 16, 17, 18, 19, 20, 21, 22, 23, 24, 25, 26, 27, 28, 29, 30, 31, 32, 33, 34, 35, 36, 37, 38, 39, 40, 41, 42, 43, 44, 45, 46, 47, 48, 49, 50, 51, 52] (by decide +kernel) (by decide +kernel)) (goodIn_sub (fun _ h => List.mem_cons_of_mem _ (List.mem_append_right _ h)) (by decide +kernel))
set_option maxRecDepth 20000 in
theorem gL_queueAt_X3_queueAt : GoodIn wsL_queueAt (wsV RL 88 RX3 yX3_queueAt wsX3_queueAt) := goodIn_app (goodIn_of _ (by decide +kernel)) ggL_queueAt_X3_queueAt
theorem dL_queueAt_0 : decode cL_queueAt 0 = .ok (.aload_n 0, 1) := by decide +kernel
theorem dL_queueAt_1 : decode cL_queueAt 1 = .ok (.iload_n 1, 1) := by decide +kernel
theorem dL_queueAt_2 : decode cL_queueAt 2 = .ok (.iload_n 2, 1) := by decide +kernel
theorem dL_queueAt_3 : decode cL_queueAt 3 = .ok (.invokevirtual 88, 3) := by decide +kernel
theorem dL_queueAt_6 : decode cL_queueAt 6 = .ok (.ireturn, 1) := by decide +kernel
theorem dL_queueAt_7 : decode cL_queueAt 7 = .ok (.astore_n 3, 1) := by decide +kernel
theorem dL_queueAt_8 : decode cL_queueAt 8 = .ok (.ldc 18, 2) := by decide +kernel
theorem dL_queueAt_10 : decode cL_queueAt 10 = .ok (.ireturn, 1) := by decide +kernel
set_option maxRecDepth 20000 in
theorem ggL_machineAt_X3_machineAt : GoodIn wsL_machineAt wsX3_machineAt := goodIn_ca (goodIn_r _ [7, 8, 9, 10, 11, 12, 13, 14, 15, 16, 17, 18, 19, 20, 21, 22, 23, 24, 25, 26, 27, 28, 29, 30, 31, 32, 33, 34] (by decide +kernel) (by decide +kernel)) (goodIn_sub (fun _ h => List.mem_cons_of_mem _ (List.mem_append_right _ h)) (by decide +kernel))
set_option maxRecDepth 20000 in
theorem gL_machineAt_X3_machineAt : GoodIn wsL_machineAt (wsV RL 91 RX3 yX3_machineAt wsX3_machineAt) := goodIn_app (goodIn_of _ (by decide +kernel)) ggL_machineAt_X3_machineAt
theorem dL_machineAt_0 : decode cL_machineAt 0 = .ok (.aload_n 0, 1) := by decide +kernel
theorem dL_machineAt_1 : decode cL_machineAt 1 = .ok (.iload_n 1, 1) := by decide +kernel
theorem dL_machineAt_2 : decode cL_machineAt 2 = .ok (.invokevirtual 91, 3) := by decide +kernel
theorem dL_machineAt_5 : decode cL_machineAt 5 = .ok (.ireturn, 1) := by decide +kernel
theorem dL_machineAt_6 : decode cL_machineAt 6 = .ok (.astore_n 2, 1) := by decide +kernel
theorem dL_machineAt_7 : decode cL_machineAt 7 = .ok (.ldc 18, 2) := by decide +kernel
theorem dL_machineAt_9 : decode cL_machineAt 9 = .ok (.ireturn, 1) := by decide +kernel
set_option maxRecDepth 20000 in
theorem ggL_stateBefore_X3_stateBefore : GoodIn wsL_stateBefore wsX3_stateBefore := goodIn_ca (goodIn_ca (goodIn_r _ [9, 10, 11, 12, 13, 14, 15, 16, 17, 8, 18, 19, 20, 21, 22, 23, 24, 25, 26, 27, 28, 29, 30, 31, 32, 33, 34, 35, 36, 37, 38, 39, 40, 41, 42, 43, 44, 45, 46, 47, 48, 49, 50, 51, 52, 53, 54, 55, 56, 57, 58, 59] (by decide +kernel) (by decide +kernel)) (goodIn_sub (fun _ h => List.mem_cons_of_mem _ (List.mem_append_left _ (List.mem_append_right _ h))) (by decide +kernel))) (goodIn_sub (fun _ h => List.mem_cons_of_mem _ (List.mem_append_right _ h)) (by decide +kernel))
set_option maxRecDepth 20000 in
theorem gL_stateBefore_X3_stateBefore : GoodIn wsL_stateBefore (wsV RL 94 RX3 yX3_stateBefore wsX3_stateBefore) := goodIn_app (goodIn_of _ (by decide +kernel)) ggL_stateBefore_X3_stateBefore
theorem dL_stateBefore_0 : decode cL_stateBefore 0 = .ok (.aload_n 0, 1) := by decide +kernel
theorem dL_stateBefore_1 : decode cL_stateBefore 1 = .ok (.iload_n 1, 1) := by decide +kernel
theorem dL_stateBefore_2 : decode cL_stateBefore 2 = .ok (.iload_n 2, 1) := by decide +kernel
theorem dL_stateBefore_3 : decode cL_stateBefore 3 = .ok (.invokevirtual 94, 3) := by decide +kernel
theorem dL_stateBefore_6 : decode cL_stateBefore 6 = .ok (.ireturn, 1) := by decide +kernel
theorem dL_stateBefore_7 : decode cL_stateBefore 7 = .ok (.astore_n 3, 1) := by decide +kernel
theorem dL_stateBefore_8 : decode cL_stateBefore 8 = .ok (.ldc 18, 2) := by decide +kernel
theorem dL_stateBefore_10 : decode cL_stateBefore 10 = .ok (.ireturn, 1) := by decide +kernel
theorem dL_stateBefore_11 : decode cL_stateBefore 11 = .ok (.astore_n 3, 1) := by decide +kernel
theorem dL_stateBefore_12 : decode cL_stateBefore 12 = .ok (.ldc 21, 2) := by decide +kernel
theorem dL_stateBefore_14 : decode cL_stateBefore 14 = .ok (.ireturn, 1) := by decide +kernel
set_option maxRecDepth 20000 in
theorem ggL_print_X3_now : GoodIn wsL_print wsX3_now := goodIn_r _ [6, 7, 170, 171, 172, 173, 174, 175, 176, 177, 178] (by decide +kernel) (by decide +kernel)
set_option maxRecDepth 20000 in
theorem gL_print_X3_now : GoodIn wsL_print (wsV RL 99 RX3 yX3_now wsX3_now) := goodIn_app (goodIn_of _ (by decide +kernel)) ggL_print_X3_now
set_option maxRecDepth 20000 in
theorem ggL_print_X3_wipes : GoodIn wsL_print wsX3_wipes := goodIn_r _ [11, 12, 170, 171, 172, 173, 174, 175, 176, 177, 178] (by decide +kernel) (by decide +kernel)
set_option maxRecDepth 20000 in
theorem gL_print_X3_wipes : GoodIn wsL_print (wsV RL 103 RX3 yX3_wipes wsX3_wipes) := goodIn_app (goodIn_of _ (by decide +kernel)) ggL_print_X3_wipes
set_option maxRecDepth 20000 in
theorem ggL_print_X3_entries : GoodIn wsL_print wsX3_entries := goodIn_r _ [16, 17, 18, 19, 20, 21, 22, 23, 24, 25, 26, 27, 28, 170, 171, 172, 173, 174, 175, 176, 177, 178, 179, 180, 181] (by decide +kernel) (by decide +kernel)
set_option maxRecDepth 20000 in
theorem gL_print_X3_entries : GoodIn wsL_print (wsV RL 106 RX3 yX3_entries wsX3_entries) := goodIn_app (goodIn_of _ (by decide +kernel)) ggL_print_X3_entries
set_option maxRecDepth 20000 in
theorem ggL_print_L_stateOf : GoodIn wsL_print wsL_stateOf := goodIn_ca (goodIn_r _ [32, 33, 34, 35, 36, 37, 5, 38, 39, 40, 41, 42, 43, 44, 45, 46, 182, 183, 184, 185, 186, 187, 188, 189, 190, 191, 170, 171, 172, 173, 174, 175, 176, 177, 178] (by decide +kernel) (by decide +kernel)) (goodIn_sub (fun _ h => List.mem_cons_of_mem _ (List.mem_append_left _ (List.mem_append_right _ h))) (by decide +kernel))
set_option maxRecDepth 20000 in
theorem gL_print_L_stateOf : GoodIn wsL_print (va_wsS RL 109 yL_stateOf wsL_stateOf) := goodIn_app (goodIn_of _ (by decide +kernel)) ggL_print_L_stateOf
set_option maxRecDepth 20000 in
theorem ggL_print_L_reason : GoodIn wsL_print wsL_reason := goodIn_ca (goodIn_r _ [49, 33, 34, 50, 51, 52, 5, 53, 39, 40, 41, 42, 43, 44, 45, 46, 54, 55, 56, 57, 58, 59, 60, 61, 62, 63, 64, 65, 66, 67, 68, 69, 70, 71, 72, 73, 74, 75, 76, 182, 183, 184, 185, 186, 187, 188, 189, 190, 191, 170, 171, 172, 173, 174, 175, 176, 177, 178, 192, 193, 194, 195, 196, 197, 198, 199] (by decide +kernel) (by decide +kernel)) (goodIn_sub (fun _ h => List.mem_cons_of_mem _ (List.mem_append_left _ (List.mem_append_right _ h))) (by decide +kernel))
set_option maxRecDepth 20000 in
theorem gL_print_L_reason : GoodIn wsL_print (va_wsS RL 114 yL_reason wsL_reason) := goodIn_app (goodIn_of _ (by decide +kernel)) ggL_print_L_reason
set_option maxRecDepth 20000 in
theorem ggL_print_L_matchOf : GoodIn wsL_print wsL_matchOf := goodIn_ca (goodIn_r _ [79, 33, 34, 80, 81, 82, 5, 83, 84, 40, 41, 42, 43, 44, 45, 46, 54, 55, 56, 57, 58, 59, 60, 61, 62, 63, 64, 65, 66, 67, 68, 69, 70, 71, 72, 73, 192, 193, 194, 195, 196, 197, 198, 199, 170, 171, 172, 173, 174, 175, 176, 177, 178, 182, 183, 184, 185, 186, 187, 188, 189, 190, 191] (by decide +kernel) (by decide +kernel)) (goodIn_sub (fun _ h => List.mem_cons_of_mem _ (List.mem_append_left _ (List.mem_append_right _ h))) (by decide +kernel))
set_option maxRecDepth 20000 in
theorem gL_print_L_matchOf : GoodIn wsL_print (va_wsS RL 116 yL_matchOf wsL_matchOf) := goodIn_app (goodIn_of _ (by decide +kernel)) ggL_print_L_matchOf
set_option maxRecDepth 20000 in
theorem ggL_print_L_imageOf : GoodIn wsL_print wsL_imageOf := goodIn_ca (goodIn_r _ [87, 33, 34, 88, 89, 90, 5, 91, 92, 40, 41, 42, 43, 44, 45, 46, 93, 94, 95, 96, 97, 98, 182, 183, 184, 185, 186, 187, 188, 189, 190, 191, 170, 171, 172, 173, 174, 175, 176, 177, 178] (by decide +kernel) (by decide +kernel)) (goodIn_sub (fun _ h => List.mem_cons_of_mem _ (List.mem_append_left _ (List.mem_append_right _ h))) (by decide +kernel))
set_option maxRecDepth 20000 in
theorem gL_print_L_imageOf : GoodIn wsL_print (va_wsS RL 118 yL_imageOf wsL_imageOf) := goodIn_app (goodIn_of _ (by decide +kernel)) ggL_print_L_imageOf
set_option maxRecDepth 20000 in
theorem ggL_print_L_endOf : GoodIn wsL_print wsL_endOf := goodIn_ca (goodIn_r _ [101, 33, 34, 102, 103, 104, 5, 105, 106, 40, 41, 42, 43, 44, 45, 46, 107, 108, 109, 96, 110, 98, 182, 183, 184, 185, 186, 187, 188, 189, 190, 191, 170, 171, 172, 173, 174, 175, 176, 177, 178] (by decide +kernel) (by decide +kernel)) (goodIn_sub (fun _ h => List.mem_cons_of_mem _ (List.mem_append_left _ (List.mem_append_right _ h))) (by decide +kernel))
set_option maxRecDepth 20000 in
theorem gL_print_L_endOf : GoodIn wsL_print (va_wsS RL 120 yL_endOf wsL_endOf) := goodIn_app (goodIn_of _ (by decide +kernel)) ggL_print_L_endOf
set_option maxRecDepth 20000 in
theorem ggL_print_L_failuresOf : GoodIn wsL_print wsL_failuresOf := goodIn_ca (goodIn_r _ [113, 33, 34, 114, 115, 116, 5, 117, 118, 40, 41, 42, 43, 44, 45, 46, 182, 183, 184, 185, 186, 187, 188, 189, 190, 191, 170, 171, 172, 173, 174, 175, 176, 177, 178] (by decide +kernel) (by decide +kernel)) (goodIn_sub (fun _ h => List.mem_cons_of_mem _ (List.mem_append_left _ (List.mem_append_right _ h))) (by decide +kernel))
set_option maxRecDepth 20000 in
theorem gL_print_L_failuresOf : GoodIn wsL_print (va_wsS RL 122 yL_failuresOf wsL_failuresOf) := goodIn_app (goodIn_of _ (by decide +kernel)) ggL_print_L_failuresOf
set_option maxRecDepth 20000 in
theorem ggL_print_L_queueAt : GoodIn wsL_print wsL_queueAt := goodIn_ca (goodIn_r _ [121, 33, 34, 122, 123, 124, 5, 125, 44, 45, 126, 127, 128, 129, 130, 131, 132, 133, 134, 135, 46, 136, 137, 138, 96, 139, 98, 140, 141, 142, 143, 144, 145, 146, 182, 183, 184, 185, 186, 187, 188, 189, 190, 191, 170, 171, 172, 173, 174, 175, 176, 177, 178] (by decide +kernel) (by decide +kernel)) (goodIn_sub (fun _ h => List.mem_cons_of_mem _ (List.mem_append_left _ (List.mem_append_right _ h))) (by decide +kernel))
set_option maxRecDepth 20000 in
theorem gL_print_L_queueAt : GoodIn wsL_print (va_wsS RL 124 yL_queueAt wsL_queueAt) := goodIn_app (goodIn_of _ (by decide +kernel)) ggL_print_L_queueAt
set_option maxRecDepth 20000 in
theorem ggL_print_L_machineAt : GoodIn wsL_print wsL_machineAt := goodIn_ca (goodIn_r _ [149, 33, 34, 150, 151, 152, 5, 153, 44, 45, 17, 154, 18, 19, 20, 21, 22, 23, 24, 25, 26, 27, 28, 170, 171, 172, 173, 174, 175, 176, 177, 178, 179, 180, 181] (by decide +kernel) (by decide +kernel)) (goodIn_sub (fun _ h => List.mem_cons_of_mem _ (List.mem_append_left _ (List.mem_append_right _ h))) (by decide +kernel))
set_option maxRecDepth 20000 in
theorem gL_print_L_machineAt : GoodIn wsL_print (va_wsS RL 127 yL_machineAt wsL_machineAt) := goodIn_app (goodIn_of _ (by decide +kernel)) ggL_print_L_machineAt
set_option maxRecDepth 20000 in
theorem ggL_print_L_stateBefore : GoodIn wsL_print wsL_stateBefore := goodIn_ca (goodIn_ca (goodIn_r _ [157, 33, 158, 34, 159, 160, 161, 162, 5, 163, 17, 39, 154, 126, 164, 40, 41, 42, 43, 44, 45, 46, 18, 19, 20, 21, 22, 23, 24, 25, 26, 27, 28, 165, 166, 167, 168, 169, 170, 171, 172, 173, 174, 175, 176, 177, 178, 182, 183, 184, 185, 186, 187, 188, 189, 190, 191, 179, 180, 181] (by decide +kernel) (by decide +kernel)) (goodIn_sub (fun _ h => List.mem_cons_of_mem _ (List.mem_append_left _ (List.mem_append_right _ h))) (by decide +kernel))) (goodIn_sub (fun _ h => List.mem_cons_of_mem _ (List.mem_append_right _ h)) (by decide +kernel))
set_option maxRecDepth 20000 in
theorem gL_print_L_stateBefore : GoodIn wsL_print (va_wsS RL 129 yL_stateBefore wsL_stateBefore) := goodIn_app (goodIn_of _ (by decide +kernel)) ggL_print_L_stateBefore
theorem dL_print_0 : decode cL_print 0 = .ok (.ldc2_w 97, 3) := by decide +kernel
theorem dL_print_3 : decode cL_print 3 = .ok (.aload_n 0, 1) := by decide +kernel
theorem dL_print_4 : decode cL_print 4 = .ok (.invokevirtual 99, 3) := by decide +kernel
theorem dL_print_7 : decode cL_print 7 = .ok (.i2l, 1) := by decide +kernel
theorem dL_print_8 : decode cL_print 8 = .ok (.lmul, 1) := by decide +kernel
theorem dL_print_9 : decode cL_print 9 = .ok (.aload_n 0, 1) := by decide +kernel
theorem dL_print_10 : decode cL_print 10 = .ok (.invokevirtual 103, 3) := by decide +kernel
theorem dL_print_13 : decode cL_print 13 = .ok (.i2l, 1) := by decide +kernel
theorem dL_print_14 : decode cL_print 14 = .ok (.ladd, 1) := by decide +kernel
theorem dL_print_15 : decode cL_print 15 = .ok (.lstore_n 1, 1) := by decide +kernel
theorem dL_print_16 : decode cL_print 16 = .ok (.ldc2_w 97, 3) := by decide +kernel
theorem dL_print_19 : decode cL_print 19 = .ok (.lload_n 1, 1) := by decide +kernel
theorem dL_print_20 : decode cL_print 20 = .ok (.lmul, 1) := by decide +kernel
theorem dL_print_21 : decode cL_print 21 = .ok (.aload_n 0, 1) := by decide +kernel
theorem dL_print_22 : decode cL_print 22 = .ok (.invokevirtual 106, 3) := by decide +kernel
theorem dL_print_25 : decode cL_print 25 = .ok (.i2l, 1) := by decide +kernel
theorem dL_print_26 : decode cL_print 26 = .ok (.ladd, 1) := by decide +kernel
theorem dL_print_27 : decode cL_print 27 = .ok (.lstore_n 1, 1) := by decide +kernel
theorem dL_print_28 : decode cL_print 28 = .ok (.iconst 0, 1) := by decide +kernel
theorem dL_print_29 : decode cL_print 29 = .ok (.istore_n 3, 1) := by decide +kernel
theorem dL_print_30 : decode cL_print 30 = .ok (.iload_n 3, 1) := by decide +kernel
theorem dL_print_31 : decode cL_print 31 = .ok (.bipush 16, 2) := by decide +kernel
theorem dL_print_33 : decode cL_print 33 = .ok (.if_icmp .ge 95, 3) := by decide +kernel
theorem dL_print_36 : decode cL_print 36 = .ok (.ldc2_w 97, 3) := by decide +kernel
theorem dL_print_39 : decode cL_print 39 = .ok (.ldc2_w 97, 3) := by decide +kernel
theorem dL_print_42 : decode cL_print 42 = .ok (.ldc2_w 97, 3) := by decide +kernel
theorem dL_print_45 : decode cL_print 45 = .ok (.ldc2_w 97, 3) := by decide +kernel
theorem dL_print_48 : decode cL_print 48 = .ok (.lload_n 1, 1) := by decide +kernel
theorem dL_print_49 : decode cL_print 49 = .ok (.lmul, 1) := by decide +kernel
theorem dL_print_50 : decode cL_print 50 = .ok (.aload_n 0, 1) := by decide +kernel
theorem dL_print_51 : decode cL_print 51 = .ok (.iload_n 3, 1) := by decide +kernel
theorem dL_print_52 : decode cL_print 52 = .ok (.invokestatic 109, 3) := by decide +kernel
theorem dL_print_55 : decode cL_print 55 = .ok (.i2l, 1) := by decide +kernel
theorem dL_print_56 : decode cL_print 56 = .ok (.ladd, 1) := by decide +kernel
theorem dL_print_57 : decode cL_print 57 = .ok (.lmul, 1) := by decide +kernel
theorem dL_print_58 : decode cL_print 58 = .ok (.aload_n 0, 1) := by decide +kernel
theorem dL_print_59 : decode cL_print 59 = .ok (.iload_n 3, 1) := by decide +kernel
theorem dL_print_60 : decode cL_print 60 = .ok (.invokestatic 114, 3) := by decide +kernel
theorem dL_print_63 : decode cL_print 63 = .ok (.i2l, 1) := by decide +kernel
theorem dL_print_64 : decode cL_print 64 = .ok (.ladd, 1) := by decide +kernel
theorem dL_print_65 : decode cL_print 65 = .ok (.lmul, 1) := by decide +kernel
theorem dL_print_66 : decode cL_print 66 = .ok (.aload_n 0, 1) := by decide +kernel
theorem dL_print_67 : decode cL_print 67 = .ok (.iload_n 3, 1) := by decide +kernel
theorem dL_print_68 : decode cL_print 68 = .ok (.invokestatic 116, 3) := by decide +kernel
theorem dL_print_71 : decode cL_print 71 = .ok (.i2l, 1) := by decide +kernel
theorem dL_print_72 : decode cL_print 72 = .ok (.ladd, 1) := by decide +kernel
theorem dL_print_73 : decode cL_print 73 = .ok (.lmul, 1) := by decide +kernel
theorem dL_print_74 : decode cL_print 74 = .ok (.aload_n 0, 1) := by decide +kernel
theorem dL_print_75 : decode cL_print 75 = .ok (.iload_n 3, 1) := by decide +kernel
theorem dL_print_76 : decode cL_print 76 = .ok (.invokestatic 118, 3) := by decide +kernel
theorem dL_print_79 : decode cL_print 79 = .ok (.i2l, 1) := by decide +kernel
theorem dL_print_80 : decode cL_print 80 = .ok (.ladd, 1) := by decide +kernel
theorem dL_print_81 : decode cL_print 81 = .ok (.lstore_n 1, 1) := by decide +kernel
theorem dL_print_82 : decode cL_print 82 = .ok (.ldc2_w 97, 3) := by decide +kernel
theorem dL_print_85 : decode cL_print 85 = .ok (.ldc2_w 97, 3) := by decide +kernel
theorem dL_print_88 : decode cL_print 88 = .ok (.ldc2_w 97, 3) := by decide +kernel
theorem dL_print_91 : decode cL_print 91 = .ok (.lload_n 1, 1) := by decide +kernel
theorem dL_print_92 : decode cL_print 92 = .ok (.lmul, 1) := by decide +kernel
theorem dL_print_93 : decode cL_print 93 = .ok (.aload_n 0, 1) := by decide +kernel
theorem dL_print_94 : decode cL_print 94 = .ok (.iload_n 3, 1) := by decide +kernel
theorem dL_print_95 : decode cL_print 95 = .ok (.invokestatic 120, 3) := by decide +kernel
theorem dL_print_98 : decode cL_print 98 = .ok (.i2l, 1) := by decide +kernel
theorem dL_print_99 : decode cL_print 99 = .ok (.ladd, 1) := by decide +kernel
theorem dL_print_100 : decode cL_print 100 = .ok (.lmul, 1) := by decide +kernel
theorem dL_print_101 : decode cL_print 101 = .ok (.aload_n 0, 1) := by decide +kernel
theorem dL_print_102 : decode cL_print 102 = .ok (.iload_n 3, 1) := by decide +kernel
theorem dL_print_103 : decode cL_print 103 = .ok (.invokestatic 122, 3) := by decide +kernel
theorem dL_print_106 : decode cL_print 106 = .ok (.i2l, 1) := by decide +kernel
theorem dL_print_107 : decode cL_print 107 = .ok (.ladd, 1) := by decide +kernel
theorem dL_print_108 : decode cL_print 108 = .ok (.lmul, 1) := by decide +kernel
theorem dL_print_109 : decode cL_print 109 = .ok (.aload_n 0, 1) := by decide +kernel
theorem dL_print_110 : decode cL_print 110 = .ok (.iload_n 3, 1) := by decide +kernel
theorem dL_print_111 : decode cL_print 111 = .ok (.iconst 4, 1) := by decide +kernel
theorem dL_print_112 : decode cL_print 112 = .ok (.irem, 1) := by decide +kernel
theorem dL_print_113 : decode cL_print 113 = .ok (.iload_n 3, 1) := by decide +kernel
theorem dL_print_114 : decode cL_print 114 = .ok (.iconst 4, 1) := by decide +kernel
theorem dL_print_115 : decode cL_print 115 = .ok (.idiv, 1) := by decide +kernel
theorem dL_print_116 : decode cL_print 116 = .ok (.invokestatic 124, 3) := by decide +kernel
theorem dL_print_119 : decode cL_print 119 = .ok (.i2l, 1) := by decide +kernel
theorem dL_print_120 : decode cL_print 120 = .ok (.ladd, 1) := by decide +kernel
theorem dL_print_121 : decode cL_print 121 = .ok (.lstore_n 1, 1) := by decide +kernel
theorem dL_print_122 : decode cL_print 122 = .ok (.iinc 3 1, 3) := by decide +kernel
theorem dL_print_125 : decode cL_print 125 = .ok (.goto (-95), 3) := by decide +kernel
theorem dL_print_128 : decode cL_print 128 = .ok (.iconst 0, 1) := by decide +kernel
theorem dL_print_129 : decode cL_print 129 = .ok (.istore_n 3, 1) := by decide +kernel
theorem dL_print_130 : decode cL_print 130 = .ok (.iload_n 3, 1) := by decide +kernel
theorem dL_print_131 : decode cL_print 131 = .ok (.aload_n 0, 1) := by decide +kernel
theorem dL_print_132 : decode cL_print 132 = .ok (.invokevirtual 106, 3) := by decide +kernel
theorem dL_print_135 : decode cL_print 135 = .ok (.if_icmp .ge 40, 3) := by decide +kernel
theorem dL_print_138 : decode cL_print 138 = .ok (.ldc2_w 97, 3) := by decide +kernel
theorem dL_print_141 : decode cL_print 141 = .ok (.ldc2_w 97, 3) := by decide +kernel
theorem dL_print_144 : decode cL_print 144 = .ok (.lload_n 1, 1) := by decide +kernel
theorem dL_print_145 : decode cL_print 145 = .ok (.lmul, 1) := by decide +kernel
theorem dL_print_146 : decode cL_print 146 = .ok (.aload_n 0, 1) := by decide +kernel
theorem dL_print_147 : decode cL_print 147 = .ok (.iload_n 3, 1) := by decide +kernel
theorem dL_print_148 : decode cL_print 148 = .ok (.invokestatic 127, 3) := by decide +kernel
theorem dL_print_151 : decode cL_print 151 = .ok (.i2l, 1) := by decide +kernel
theorem dL_print_152 : decode cL_print 152 = .ok (.ladd, 1) := by decide +kernel
theorem dL_print_153 : decode cL_print 153 = .ok (.lmul, 1) := by decide +kernel
theorem dL_print_154 : decode cL_print 154 = .ok (.aload_n 0, 1) := by decide +kernel
theorem dL_print_155 : decode cL_print 155 = .ok (.aload_n 0, 1) := by decide +kernel
theorem dL_print_156 : decode cL_print 156 = .ok (.iload_n 3, 1) := by decide +kernel
theorem dL_print_157 : decode cL_print 157 = .ok (.invokestatic 127, 3) := by decide +kernel
theorem dL_print_160 : decode cL_print 160 = .ok (.iload_n 3, 1) := by decide +kernel
theorem dL_print_161 : decode cL_print 161 = .ok (.iconst 1, 1) := by decide +kernel
theorem dL_print_162 : decode cL_print 162 = .ok (.iadd, 1) := by decide +kernel
theorem dL_print_163 : decode cL_print 163 = .ok (.invokestatic 129, 3) := by decide +kernel
theorem dL_print_166 : decode cL_print 166 = .ok (.i2l, 1) := by decide +kernel
theorem dL_print_167 : decode cL_print 167 = .ok (.ladd, 1) := by decide +kernel
theorem dL_print_168 : decode cL_print 168 = .ok (.lstore_n 1, 1) := by decide +kernel
theorem dL_print_169 : decode cL_print 169 = .ok (.iinc 3 1, 3) := by decide +kernel
theorem dL_print_172 : decode cL_print 172 = .ok (.goto (-42), 3) := by decide +kernel
theorem dL_print_175 : decode cL_print 175 = .ok (.lload_n 1, 1) := by decide +kernel
theorem dL_print_176 : decode cL_print 176 = .ok (.lreturn, 1) := by decide +kernel
set_option maxRecDepth 20000 in
theorem ggL_match_L_stateOf : GoodIn wsL_match wsL_stateOf := goodIn_ca (goodIn_r _ [4, 5, 6, 7, 8, 9, 10, 11, 12, 13, 14, 15, 16, 17, 18, 19, 20, 21, 22, 23, 24, 25, 26, 27, 28, 29, 30, 31, 32, 33, 34, 35, 36, 37, 38] (by decide +kernel) (by decide +kernel)) (goodIn_sub (fun _ h => List.mem_cons_of_mem _ (List.mem_append_right _ h)) (by decide +kernel))
set_option maxRecDepth 20000 in
theorem gL_match_L_stateOf : GoodIn wsL_match (va_wsS RL 109 yL_stateOf wsL_stateOf) := goodIn_app (goodIn_of _ (by decide +kernel)) ggL_match_L_stateOf
theorem dL_match_0 : decode cL_match 0 = .ok (.iconst (-1), 1) := by decide +kernel
theorem dL_match_1 : decode cL_match 1 = .ok (.istore 4, 2) := by decide +kernel
theorem dL_match_3 : decode cL_match 3 = .ok (.bipush 7, 2) := by decide +kernel
theorem dL_match_5 : decode cL_match 5 = .ok (.istore 5, 2) := by decide +kernel
theorem dL_match_7 : decode cL_match 7 = .ok (.iload 5, 2) := by decide +kernel
theorem dL_match_9 : decode cL_match 9 = .ok (.ifCond .lt 154, 3) := by decide +kernel
theorem dL_match_12 : decode cL_match 12 = .ok (.aload_n 2, 1) := by decide +kernel
theorem dL_match_13 : decode cL_match 13 = .ok (.bipush 6, 2) := by decide +kernel
theorem dL_match_15 : decode cL_match 15 = .ok (.iload 5, 2) := by decide +kernel
theorem dL_match_17 : decode cL_match 17 = .ok (.imul, 1) := by decide +kernel
theorem dL_match_18 : decode cL_match 18 = .ok (.iaload, 1) := by decide +kernel
theorem dL_match_19 : decode cL_match 19 = .ok (.ifCond .lt 99, 3) := by decide +kernel
theorem dL_match_22 : decode cL_match 22 = .ok (.aload_n 0, 1) := by decide +kernel
theorem dL_match_23 : decode cL_match 23 = .ok (.iload_n 3, 1) := by decide +kernel
theorem dL_match_24 : decode cL_match 24 = .ok (.invokestatic 109, 3) := by decide +kernel
theorem dL_match_27 : decode cL_match 27 = .ok (.ifCond .le 91, 3) := by decide +kernel
theorem dL_match_30 : decode cL_match 30 = .ok (.aload_n 1, 1) := by decide +kernel
theorem dL_match_31 : decode cL_match 31 = .ok (.iconst 4, 1) := by decide +kernel
theorem dL_match_32 : decode cL_match 32 = .ok (.iload_n 3, 1) := by decide +kernel
theorem dL_match_33 : decode cL_match 33 = .ok (.imul, 1) := by decide +kernel
theorem dL_match_34 : decode cL_match 34 = .ok (.iconst 1, 1) := by decide +kernel
theorem dL_match_35 : decode cL_match 35 = .ok (.iadd, 1) := by decide +kernel
theorem dL_match_36 : decode cL_match 36 = .ok (.iaload, 1) := by decide +kernel
theorem dL_match_37 : decode cL_match 37 = .ok (.aload_n 2, 1) := by decide +kernel
theorem dL_match_38 : decode cL_match 38 = .ok (.bipush 6, 2) := by decide +kernel
theorem dL_match_40 : decode cL_match 40 = .ok (.iload 5, 2) := by decide +kernel
theorem dL_match_42 : decode cL_match 42 = .ok (.imul, 1) := by decide +kernel
theorem dL_match_43 : decode cL_match 43 = .ok (.iconst 1, 1) := by decide +kernel
theorem dL_match_44 : decode cL_match 44 = .ok (.iadd, 1) := by decide +kernel
theorem dL_match_45 : decode cL_match 45 = .ok (.iaload, 1) := by decide +kernel
theorem dL_match_46 : decode cL_match 46 = .ok (.if_icmp .lt 72, 3) := by decide +kernel
theorem dL_match_49 : decode cL_match 49 = .ok (.aload_n 2, 1) := by decide +kernel
theorem dL_match_50 : decode cL_match 50 = .ok (.bipush 6, 2) := by decide +kernel
theorem dL_match_52 : decode cL_match 52 = .ok (.iload 5, 2) := by decide +kernel
theorem dL_match_54 : decode cL_match 54 = .ok (.imul, 1) := by decide +kernel
theorem dL_match_55 : decode cL_match 55 = .ok (.iconst 2, 1) := by decide +kernel
theorem dL_match_56 : decode cL_match 56 = .ok (.iadd, 1) := by decide +kernel
theorem dL_match_57 : decode cL_match 57 = .ok (.iaload, 1) := by decide +kernel
theorem dL_match_58 : decode cL_match 58 = .ok (.aload_n 1, 1) := by decide +kernel
theorem dL_match_59 : decode cL_match 59 = .ok (.iconst 4, 1) := by decide +kernel
theorem dL_match_60 : decode cL_match 60 = .ok (.iload_n 3, 1) := by decide +kernel
theorem dL_match_61 : decode cL_match 61 = .ok (.imul, 1) := by decide +kernel
theorem dL_match_62 : decode cL_match 62 = .ok (.iconst 2, 1) := by decide +kernel
theorem dL_match_63 : decode cL_match 63 = .ok (.iadd, 1) := by decide +kernel
theorem dL_match_64 : decode cL_match 64 = .ok (.iaload, 1) := by decide +kernel
theorem dL_match_65 : decode cL_match 65 = .ok (.ishr, 1) := by decide +kernel
theorem dL_match_66 : decode cL_match 66 = .ok (.iconst 1, 1) := by decide +kernel
theorem dL_match_67 : decode cL_match 67 = .ok (.iand, 1) := by decide +kernel
theorem dL_match_68 : decode cL_match 68 = .ok (.iconst 1, 1) := by decide +kernel
theorem dL_match_69 : decode cL_match 69 = .ok (.if_icmp .ne 49, 3) := by decide +kernel
theorem dL_match_72 : decode cL_match 72 = .ok (.aload_n 1, 1) := by decide +kernel
theorem dL_match_73 : decode cL_match 73 = .ok (.iconst 4, 1) := by decide +kernel
theorem dL_match_74 : decode cL_match 74 = .ok (.iload_n 3, 1) := by decide +kernel
theorem dL_match_75 : decode cL_match 75 = .ok (.imul, 1) := by decide +kernel
theorem dL_match_76 : decode cL_match 76 = .ok (.iconst 3, 1) := by decide +kernel
theorem dL_match_77 : decode cL_match 77 = .ok (.iadd, 1) := by decide +kernel
theorem dL_match_78 : decode cL_match 78 = .ok (.iaload, 1) := by decide +kernel
theorem dL_match_79 : decode cL_match 79 = .ok (.iconst (-1), 1) := by decide +kernel
theorem dL_match_80 : decode cL_match 80 = .ok (.ixor, 1) := by decide +kernel
theorem dL_match_81 : decode cL_match 81 = .ok (.aload_n 2, 1) := by decide +kernel
theorem dL_match_82 : decode cL_match 82 = .ok (.bipush 6, 2) := by decide +kernel
theorem dL_match_84 : decode cL_match 84 = .ok (.iload 5, 2) := by decide +kernel
theorem dL_match_86 : decode cL_match 86 = .ok (.imul, 1) := by decide +kernel
theorem dL_match_87 : decode cL_match 87 = .ok (.iconst 3, 1) := by decide +kernel
theorem dL_match_88 : decode cL_match 88 = .ok (.iadd, 1) := by decide +kernel
theorem dL_match_89 : decode cL_match 89 = .ok (.iaload, 1) := by decide +kernel
theorem dL_match_90 : decode cL_match 90 = .ok (.iand, 1) := by decide +kernel
theorem dL_match_91 : decode cL_match 91 = .ok (.ifCond .ne 27, 3) := by decide +kernel
theorem dL_match_94 : decode cL_match 94 = .ok (.aload_n 1, 1) := by decide +kernel
theorem dL_match_95 : decode cL_match 95 = .ok (.iconst 4, 1) := by decide +kernel
theorem dL_match_96 : decode cL_match 96 = .ok (.iload_n 3, 1) := by decide +kernel
theorem dL_match_97 : decode cL_match 97 = .ok (.imul, 1) := by decide +kernel
theorem dL_match_98 : decode cL_match 98 = .ok (.iconst 3, 1) := by decide +kernel
theorem dL_match_99 : decode cL_match 99 = .ok (.iadd, 1) := by decide +kernel
theorem dL_match_100 : decode cL_match 100 = .ok (.iaload, 1) := by decide +kernel
theorem dL_match_101 : decode cL_match 101 = .ok (.aload_n 2, 1) := by decide +kernel
theorem dL_match_102 : decode cL_match 102 = .ok (.bipush 6, 2) := by decide +kernel
theorem dL_match_104 : decode cL_match 104 = .ok (.iload 5, 2) := by decide +kernel
theorem dL_match_106 : decode cL_match 106 = .ok (.imul, 1) := by decide +kernel
theorem dL_match_107 : decode cL_match 107 = .ok (.iconst 4, 1) := by decide +kernel
theorem dL_match_108 : decode cL_match 108 = .ok (.iadd, 1) := by decide +kernel
theorem dL_match_109 : decode cL_match 109 = .ok (.iaload, 1) := by decide +kernel
theorem dL_match_110 : decode cL_match 110 = .ok (.iand, 1) := by decide +kernel
theorem dL_match_111 : decode cL_match 111 = .ok (.ifCond .ne 7, 3) := by decide +kernel
theorem dL_match_114 : decode cL_match 114 = .ok (.iconst 1, 1) := by decide +kernel
theorem dL_match_115 : decode cL_match 115 = .ok (.goto 4, 3) := by decide +kernel
theorem dL_match_118 : decode cL_match 118 = .ok (.iconst 0, 1) := by decide +kernel
theorem dL_match_119 : decode cL_match 119 = .ok (.istore 6, 2) := by decide +kernel
theorem dL_match_121 : decode cL_match 121 = .ok (.iload 6, 2) := by decide +kernel
theorem dL_match_123 : decode cL_match 123 = .ok (.ifCond .eq 30, 3) := by decide +kernel
theorem dL_match_126 : decode cL_match 126 = .ok (.iload 4, 2) := by decide +kernel
theorem dL_match_128 : decode cL_match 128 = .ok (.ifCond .lt 20, 3) := by decide +kernel
theorem dL_match_131 : decode cL_match 131 = .ok (.aload_n 2, 1) := by decide +kernel
theorem dL_match_132 : decode cL_match 132 = .ok (.bipush 6, 2) := by decide +kernel
theorem dL_match_134 : decode cL_match 134 = .ok (.iload 5, 2) := by decide +kernel
theorem dL_match_136 : decode cL_match 136 = .ok (.imul, 1) := by decide +kernel
theorem dL_match_137 : decode cL_match 137 = .ok (.iaload, 1) := by decide +kernel
theorem dL_match_138 : decode cL_match 138 = .ok (.aload_n 2, 1) := by decide +kernel
theorem dL_match_139 : decode cL_match 139 = .ok (.bipush 6, 2) := by decide +kernel
theorem dL_match_141 : decode cL_match 141 = .ok (.iload 4, 2) := by decide +kernel
theorem dL_match_143 : decode cL_match 143 = .ok (.imul, 1) := by decide +kernel
theorem dL_match_144 : decode cL_match 144 = .ok (.iaload, 1) := by decide +kernel
theorem dL_match_145 : decode cL_match 145 = .ok (.if_icmp .lt 8, 3) := by decide +kernel
theorem dL_match_148 : decode cL_match 148 = .ok (.iload 5, 2) := by decide +kernel
theorem dL_match_150 : decode cL_match 150 = .ok (.goto 5, 3) := by decide +kernel
theorem dL_match_153 : decode cL_match 153 = .ok (.iload 4, 2) := by decide +kernel
theorem dL_match_155 : decode cL_match 155 = .ok (.istore 4, 2) := by decide +kernel
theorem dL_match_157 : decode cL_match 157 = .ok (.iinc 5 (-1), 3) := by decide +kernel
theorem dL_match_160 : decode cL_match 160 = .ok (.goto (-153), 3) := by decide +kernel
theorem dL_match_163 : decode cL_match 163 = .ok (.iload 4, 2) := by decide +kernel
theorem dL_match_165 : decode cL_match 165 = .ok (.ireturn, 1) := by decide +kernel
set_option maxRecDepth 20000 in
theorem ggL_goes_L_stateOf : GoodIn wsL_goes wsL_stateOf := goodIn_ca (goodIn_r _ [4, 5, 6, 7, 8, 9, 10, 11, 12, 13, 14, 15, 16, 17, 18, 19, 100, 101, 102, 103, 104, 105, 106, 107, 108, 109, 110, 111, 112, 113, 114, 115, 116, 117, 118] (by decide +kernel) (by decide +kernel)) (goodIn_sub (fun _ h => List.mem_cons_of_mem _ (List.mem_append_right _ h)) (by decide +kernel))
set_option maxRecDepth 20000 in
theorem gL_goes_L_stateOf : GoodIn wsL_goes (va_wsS RL 109 yL_stateOf wsL_stateOf) := goodIn_app (goodIn_of _ (by decide +kernel)) ggL_goes_L_stateOf
set_option maxRecDepth 20000 in
theorem ggL_goes_L_match : GoodIn wsL_goes wsL_match := goodIn_ca (goodIn_r _ [22, 1, 2, 3, 4, 5, 6, 7, 8, 9, 10, 11, 12, 13, 14, 15, 16, 17, 18, 19, 100, 101, 102, 103, 104, 105, 106, 107, 108, 109, 110, 111, 112, 113, 114, 115, 116, 117, 118] (by decide +kernel) (by decide +kernel)) (goodIn_sub (fun _ h => List.mem_cons_of_mem _ (List.mem_append_right _ h)) (by decide +kernel))
set_option maxRecDepth 20000 in
theorem gL_goes_L_match : GoodIn wsL_goes (va_wsS RL 131 yL_match wsL_match) := goodIn_app (goodIn_of _ (by decide +kernel)) ggL_goes_L_match
set_option maxRecDepth 20000 in
theorem ggL_goes_L_endOf : GoodIn wsL_goes wsL_endOf := goodIn_ca (goodIn_r _ [25, 5, 6, 26, 27, 28, 10, 29, 30, 13, 14, 15, 16, 17, 18, 19, 31, 32, 33, 34, 35, 36, 100, 101, 102, 103, 104, 105, 106, 107, 108, 109, 110, 111, 112, 113, 114, 115, 116, 117, 118] (by decide +kernel) (by decide +kernel)) (goodIn_sub (fun _ h => List.mem_cons_of_mem _ (List.mem_append_right _ h)) (by decide +kernel))
set_option maxRecDepth 20000 in
theorem gL_goes_L_endOf : GoodIn wsL_goes (va_wsS RL 120 yL_endOf wsL_endOf) := goodIn_app (goodIn_of _ (by decide +kernel)) ggL_goes_L_endOf
set_option maxRecDepth 20000 in
theorem ggL_goes_L_failuresOf : GoodIn wsL_goes wsL_failuresOf := goodIn_ca (goodIn_r _ [39, 5, 6, 40, 41, 42, 10, 43, 44, 13, 14, 15, 16, 17, 18, 19, 100, 101, 102, 103, 104, 105, 106, 107, 108, 109, 110, 111, 112, 113, 114, 115, 116, 117, 118] (by decide +kernel) (by decide +kernel)) (goodIn_sub (fun _ h => List.mem_cons_of_mem _ (List.mem_append_right _ h)) (by decide +kernel))
set_option maxRecDepth 20000 in
theorem gL_goes_L_failuresOf : GoodIn wsL_goes (va_wsS RL 122 yL_failuresOf wsL_failuresOf) := goodIn_app (goodIn_of _ (by decide +kernel)) ggL_goes_L_failuresOf
set_option maxRecDepth 20000 in
theorem ggL_goes_L_imageOf : GoodIn wsL_goes wsL_imageOf := goodIn_ca (goodIn_r _ [47, 5, 6, 48, 49, 50, 10, 51, 52, 13, 14, 15, 16, 17, 18, 19, 53, 54, 55, 34, 56, 36, 100, 101, 102, 103, 104, 105, 106, 107, 108, 109, 110, 111, 112, 113, 114, 115, 116, 117, 118] (by decide +kernel) (by decide +kernel)) (goodIn_sub (fun _ h => List.mem_cons_of_mem _ (List.mem_append_right _ h)) (by decide +kernel))
set_option maxRecDepth 20000 in
theorem gL_goes_L_imageOf : GoodIn wsL_goes (va_wsS RL 118 yL_imageOf wsL_imageOf) := goodIn_app (goodIn_of _ (by decide +kernel)) ggL_goes_L_imageOf
set_option maxRecDepth 20000 in
theorem ggL_goes_L_matchOf : GoodIn wsL_goes wsL_matchOf := goodIn_ca (goodIn_r _ [59, 5, 6, 60, 61, 62, 10, 63, 64, 13, 14, 15, 16, 17, 18, 19, 65, 66, 67, 68, 69, 70, 71, 72, 73, 74, 75, 76, 77, 78, 79, 80, 81, 82, 83, 84, 119, 120, 121, 122, 123, 124, 125, 126, 110, 111, 112, 113, 114, 115, 116, 117, 118, 100, 101, 102, 103, 104, 105, 106, 107, 108, 109] (by decide +kernel) (by decide +kernel)) (goodIn_sub (fun _ h => List.mem_cons_of_mem _ (List.mem_append_right _ h)) (by decide +kernel))
set_option maxRecDepth 20000 in
theorem gL_goes_L_matchOf : GoodIn wsL_goes (va_wsS RL 116 yL_matchOf wsL_matchOf) := goodIn_app (goodIn_of _ (by decide +kernel)) ggL_goes_L_matchOf
set_option maxRecDepth 20000 in
theorem ggL_goes_L_reason : GoodIn wsL_goes wsL_reason := goodIn_ca (goodIn_r _ [87, 5, 6, 88, 89, 90, 10, 91, 12, 13, 14, 15, 16, 17, 18, 19, 65, 66, 67, 68, 69, 70, 71, 72, 73, 74, 75, 76, 77, 78, 79, 80, 81, 82, 83, 84, 92, 93, 94, 100, 101, 102, 103, 104, 105, 106, 107, 108, 109, 110, 111, 112, 113, 114, 115, 116, 117, 118, 119, 120, 121, 122, 123, 124, 125, 126] (by decide +kernel) (by decide +kernel)) (goodIn_sub (fun _ h => List.mem_cons_of_mem _ (List.mem_append_right _ h)) (by decide +kernel))
set_option maxRecDepth 20000 in
theorem gL_goes_L_reason : GoodIn wsL_goes (va_wsS RL 114 yL_reason wsL_reason) := goodIn_app (goodIn_of _ (by decide +kernel)) ggL_goes_L_reason
set_option maxRecDepth 20000 in
theorem ggL_goes_X3_now : GoodIn wsL_goes wsX3_now := goodIn_r _ [98, 99, 110, 111, 112, 113, 114, 115, 116, 117, 118] (by decide +kernel) (by decide +kernel)
set_option maxRecDepth 20000 in
theorem gL_goes_X3_now : GoodIn wsL_goes (wsV RL 99 RX3 yX3_now wsX3_now) := goodIn_app (goodIn_of _ (by decide +kernel)) ggL_goes_X3_now
theorem dL_goes_0 : decode cL_goes 0 = .ok (.aload_n 0, 1) := by decide +kernel
theorem dL_goes_1 : decode cL_goes 1 = .ok (.iload 4, 2) := by decide +kernel
theorem dL_goes_3 : decode cL_goes 3 = .ok (.invokestatic 109, 3) := by decide +kernel
theorem dL_goes_6 : decode cL_goes 6 = .ok (.istore 5, 2) := by decide +kernel
theorem dL_goes_8 : decode cL_goes 8 = .ok (.aload_n 0, 1) := by decide +kernel
theorem dL_goes_9 : decode cL_goes 9 = .ok (.aload_n 1, 1) := by decide +kernel
theorem dL_goes_10 : decode cL_goes 10 = .ok (.aload_n 2, 1) := by decide +kernel
theorem dL_goes_11 : decode cL_goes 11 = .ok (.iload 4, 2) := by decide +kernel
theorem dL_goes_13 : decode cL_goes 13 = .ok (.invokestatic 131, 3) := by decide +kernel
theorem dL_goes_16 : decode cL_goes 16 = .ok (.istore 6, 2) := by decide +kernel
theorem dL_goes_18 : decode cL_goes 18 = .ok (.aload_n 0, 1) := by decide +kernel
theorem dL_goes_19 : decode cL_goes 19 = .ok (.iload 4, 2) := by decide +kernel
theorem dL_goes_21 : decode cL_goes 21 = .ok (.invokestatic 120, 3) := by decide +kernel
theorem dL_goes_24 : decode cL_goes 24 = .ok (.istore 7, 2) := by decide +kernel
theorem dL_goes_26 : decode cL_goes 26 = .ok (.aload_n 0, 1) := by decide +kernel
theorem dL_goes_27 : decode cL_goes 27 = .ok (.iload 4, 2) := by decide +kernel
theorem dL_goes_29 : decode cL_goes 29 = .ok (.invokestatic 122, 3) := by decide +kernel
theorem dL_goes_32 : decode cL_goes 32 = .ok (.istore 8, 2) := by decide +kernel
theorem dL_goes_34 : decode cL_goes 34 = .ok (.iload 5, 2) := by decide +kernel
theorem dL_goes_36 : decode cL_goes 36 = .ok (.iconst 3, 1) := by decide +kernel
theorem dL_goes_37 : decode cL_goes 37 = .ok (.if_icmp .eq 16, 3) := by decide +kernel
theorem dL_goes_40 : decode cL_goes 40 = .ok (.iload 5, 2) := by decide +kernel
theorem dL_goes_42 : decode cL_goes 42 = .ok (.iconst 4, 1) := by decide +kernel
theorem dL_goes_43 : decode cL_goes 43 = .ok (.if_icmp .eq 10, 3) := by decide +kernel
theorem dL_goes_46 : decode cL_goes 46 = .ok (.iload 5, 2) := by decide +kernel
theorem dL_goes_48 : decode cL_goes 48 = .ok (.bipush 6, 2) := by decide +kernel
theorem dL_goes_50 : decode cL_goes 50 = .ok (.if_icmp .ne 7, 3) := by decide +kernel
theorem dL_goes_53 : decode cL_goes 53 = .ok (.iconst 1, 1) := by decide +kernel
theorem dL_goes_54 : decode cL_goes 54 = .ok (.goto 4, 3) := by decide +kernel
theorem dL_goes_57 : decode cL_goes 57 = .ok (.iconst 0, 1) := by decide +kernel
theorem dL_goes_58 : decode cL_goes 58 = .ok (.istore 9, 2) := by decide +kernel
theorem dL_goes_60 : decode cL_goes 60 = .ok (.iload 5, 2) := by decide +kernel
theorem dL_goes_62 : decode cL_goes 62 = .ok (.iconst 3, 1) := by decide +kernel
theorem dL_goes_63 : decode cL_goes 63 = .ok (.if_icmp .eq 16, 3) := by decide +kernel
theorem dL_goes_66 : decode cL_goes 66 = .ok (.iload 5, 2) := by decide +kernel
theorem dL_goes_68 : decode cL_goes 68 = .ok (.iconst 5, 1) := by decide +kernel
theorem dL_goes_69 : decode cL_goes 69 = .ok (.if_icmp .eq 10, 3) := by decide +kernel
theorem dL_goes_72 : decode cL_goes 72 = .ok (.iload 5, 2) := by decide +kernel
theorem dL_goes_74 : decode cL_goes 74 = .ok (.bipush 6, 2) := by decide +kernel
theorem dL_goes_76 : decode cL_goes 76 = .ok (.if_icmp .ne 7, 3) := by decide +kernel
theorem dL_goes_79 : decode cL_goes 79 = .ok (.iconst 1, 1) := by decide +kernel
theorem dL_goes_80 : decode cL_goes 80 = .ok (.goto 4, 3) := by decide +kernel
theorem dL_goes_83 : decode cL_goes 83 = .ok (.iconst 0, 1) := by decide +kernel
theorem dL_goes_84 : decode cL_goes 84 = .ok (.istore 10, 2) := by decide +kernel
theorem dL_goes_86 : decode cL_goes 86 = .ok (.aload_n 0, 1) := by decide +kernel
theorem dL_goes_87 : decode cL_goes 87 = .ok (.iload 4, 2) := by decide +kernel
theorem dL_goes_89 : decode cL_goes 89 = .ok (.invokestatic 118, 3) := by decide +kernel
theorem dL_goes_92 : decode cL_goes 92 = .ok (.istore 11, 2) := by decide +kernel
theorem dL_goes_94 : decode cL_goes 94 = .ok (.iload 5, 2) := by decide +kernel
theorem dL_goes_96 : decode cL_goes 96 = .ok (.iconst 5, 1) := by decide +kernel
theorem dL_goes_97 : decode cL_goes 97 = .ok (.if_icmp .ne 7, 3) := by decide +kernel
theorem dL_goes_100 : decode cL_goes 100 = .ok (.iconst 0, 1) := by decide +kernel
theorem dL_goes_101 : decode cL_goes 101 = .ok (.goto 82, 3) := by decide +kernel
theorem dL_goes_104 : decode cL_goes 104 = .ok (.iload 5, 2) := by decide +kernel
theorem dL_goes_106 : decode cL_goes 106 = .ok (.ifCond .ne 7, 3) := by decide +kernel
theorem dL_goes_109 : decode cL_goes 109 = .ok (.iconst 1, 1) := by decide +kernel
theorem dL_goes_110 : decode cL_goes 110 = .ok (.goto 73, 3) := by decide +kernel
theorem dL_goes_113 : decode cL_goes 113 = .ok (.iload 5, 2) := by decide +kernel
theorem dL_goes_115 : decode cL_goes 115 = .ok (.iconst 3, 1) := by decide +kernel
theorem dL_goes_116 : decode cL_goes 116 = .ok (.if_icmp .ge 12, 3) := by decide +kernel
theorem dL_goes_119 : decode cL_goes 119 = .ok (.iload 6, 2) := by decide +kernel
theorem dL_goes_121 : decode cL_goes 121 = .ok (.ifCond .ge 7, 3) := by decide +kernel
theorem dL_goes_124 : decode cL_goes 124 = .ok (.iconst 2, 1) := by decide +kernel
theorem dL_goes_125 : decode cL_goes 125 = .ok (.goto 58, 3) := by decide +kernel
theorem dL_goes_128 : decode cL_goes 128 = .ok (.iload 5, 2) := by decide +kernel
theorem dL_goes_130 : decode cL_goes 130 = .ok (.iconst 1, 1) := by decide +kernel
theorem dL_goes_131 : decode cL_goes 131 = .ok (.if_icmp .ne 7, 3) := by decide +kernel
theorem dL_goes_134 : decode cL_goes 134 = .ok (.iconst 3, 1) := by decide +kernel
theorem dL_goes_135 : decode cL_goes 135 = .ok (.goto 48, 3) := by decide +kernel
theorem dL_goes_138 : decode cL_goes 138 = .ok (.iload 5, 2) := by decide +kernel
theorem dL_goes_140 : decode cL_goes 140 = .ok (.iconst 2, 1) := by decide +kernel
theorem dL_goes_141 : decode cL_goes 141 = .ok (.if_icmp .ne 7, 3) := by decide +kernel
theorem dL_goes_144 : decode cL_goes 144 = .ok (.iconst 4, 1) := by decide +kernel
theorem dL_goes_145 : decode cL_goes 145 = .ok (.goto 38, 3) := by decide +kernel
theorem dL_goes_148 : decode cL_goes 148 = .ok (.iload 5, 2) := by decide +kernel
theorem dL_goes_150 : decode cL_goes 150 = .ok (.iconst 3, 1) := by decide +kernel
theorem dL_goes_151 : decode cL_goes 151 = .ok (.if_icmp .ne 7, 3) := by decide +kernel
theorem dL_goes_154 : decode cL_goes 154 = .ok (.iconst 5, 1) := by decide +kernel
theorem dL_goes_155 : decode cL_goes 155 = .ok (.goto 28, 3) := by decide +kernel
theorem dL_goes_158 : decode cL_goes 158 = .ok (.iload 5, 2) := by decide +kernel
theorem dL_goes_160 : decode cL_goes 160 = .ok (.iconst 4, 1) := by decide +kernel
theorem dL_goes_161 : decode cL_goes 161 = .ok (.if_icmp .ne 8, 3) := by decide +kernel
theorem dL_goes_164 : decode cL_goes 164 = .ok (.bipush 6, 2) := by decide +kernel
theorem dL_goes_166 : decode cL_goes 166 = .ok (.goto 17, 3) := by decide +kernel
theorem dL_goes_169 : decode cL_goes 169 = .ok (.iload 5, 2) := by decide +kernel
theorem dL_goes_171 : decode cL_goes 171 = .ok (.bipush 6, 2) := by decide +kernel
theorem dL_goes_173 : decode cL_goes 173 = .ok (.if_icmp .ne 8, 3) := by decide +kernel
theorem dL_goes_176 : decode cL_goes 176 = .ok (.bipush 7, 2) := by decide +kernel
theorem dL_goes_178 : decode cL_goes 178 = .ok (.goto 5, 3) := by decide +kernel
theorem dL_goes_181 : decode cL_goes 181 = .ok (.bipush 8, 2) := by decide +kernel
theorem dL_goes_183 : decode cL_goes 183 = .ok (.istore 12, 2) := by decide +kernel
theorem dL_goes_185 : decode cL_goes 185 = .ok (.iload 5, 2) := by decide +kernel
theorem dL_goes_187 : decode cL_goes 187 = .ok (.ifCond .lt 156, 3) := by decide +kernel
theorem dL_goes_190 : decode cL_goes 190 = .ok (.iload 5, 2) := by decide +kernel
theorem dL_goes_192 : decode cL_goes 192 = .ok (.bipush 8, 2) := by decide +kernel
theorem dL_goes_194 : decode cL_goes 194 = .ok (.if_icmp .ge 149, 3) := by decide +kernel
theorem dL_goes_197 : decode cL_goes 197 = .ok (.aload_n 0, 1) := by decide +kernel
theorem dL_goes_198 : decode cL_goes 198 = .ok (.iload 4, 2) := by decide +kernel
theorem dL_goes_200 : decode cL_goes 200 = .ok (.invokestatic 116, 3) := by decide +kernel
theorem dL_goes_203 : decode cL_goes 203 = .ok (.iload 6, 2) := by decide +kernel
theorem dL_goes_205 : decode cL_goes 205 = .ok (.if_icmp .ne 138, 3) := by decide +kernel
theorem dL_goes_208 : decode cL_goes 208 = .ok (.aload_n 0, 1) := by decide +kernel
theorem dL_goes_209 : decode cL_goes 209 = .ok (.iload 4, 2) := by decide +kernel
theorem dL_goes_211 : decode cL_goes 211 = .ok (.invokestatic 114, 3) := by decide +kernel
theorem dL_goes_214 : decode cL_goes 214 = .ok (.iload 12, 2) := by decide +kernel
theorem dL_goes_216 : decode cL_goes 216 = .ok (.if_icmp .ne 127, 3) := by decide +kernel
theorem dL_goes_219 : decode cL_goes 219 = .ok (.iload 9, 2) := by decide +kernel
theorem dL_goes_221 : decode cL_goes 221 = .ok (.ifCond .eq 33, 3) := by decide +kernel
theorem dL_goes_224 : decode cL_goes 224 = .ok (.iload 7, 2) := by decide +kernel
theorem dL_goes_226 : decode cL_goes 226 = .ok (.aload_n 0, 1) := by decide +kernel
theorem dL_goes_227 : decode cL_goes 227 = .ok (.invokevirtual 99, 3) := by decide +kernel
theorem dL_goes_230 : decode cL_goes 230 = .ok (.if_icmp .le 113, 3) := by decide +kernel
theorem dL_goes_233 : decode cL_goes 233 = .ok (.iload 5, 2) := by decide +kernel
theorem dL_goes_235 : decode cL_goes 235 = .ok (.iconst 4, 1) := by decide +kernel
theorem dL_goes_236 : decode cL_goes 236 = .ok (.if_icmp .eq 24, 3) := by decide +kernel
theorem dL_goes_239 : decode cL_goes 239 = .ok (.iload 7, 2) := by decide +kernel
theorem dL_goes_241 : decode cL_goes 241 = .ok (.aload_n 0, 1) := by decide +kernel
theorem dL_goes_242 : decode cL_goes 242 = .ok (.invokevirtual 99, 3) := by decide +kernel
theorem dL_goes_245 : decode cL_goes 245 = .ok (.bipush 48, 2) := by decide +kernel
theorem dL_goes_247 : decode cL_goes 247 = .ok (.iadd, 1) := by decide +kernel
theorem dL_goes_248 : decode cL_goes 248 = .ok (.if_icmp .gt 95, 3) := by decide +kernel
theorem dL_goes_251 : decode cL_goes 251 = .ok (.goto 9, 3) := by decide +kernel
theorem dL_goes_254 : decode cL_goes 254 = .ok (.iload 7, 2) := by decide +kernel
theorem dL_goes_256 : decode cL_goes 256 = .ok (.iconst (-1), 1) := by decide +kernel
theorem dL_goes_257 : decode cL_goes 257 = .ok (.if_icmp .ne 86, 3) := by decide +kernel
theorem dL_goes_260 : decode cL_goes 260 = .ok (.iload 10, 2) := by decide +kernel
theorem dL_goes_262 : decode cL_goes 262 = .ok (.ifCond .eq 18, 3) := by decide +kernel
theorem dL_goes_265 : decode cL_goes 265 = .ok (.iload 11, 2) := by decide +kernel
theorem dL_goes_267 : decode cL_goes 267 = .ok (.ifCond .lt 76, 3) := by decide +kernel
theorem dL_goes_270 : decode cL_goes 270 = .ok (.iload 11, 2) := by decide +kernel
theorem dL_goes_272 : decode cL_goes 272 = .ok (.bipush 8, 2) := by decide +kernel
theorem dL_goes_274 : decode cL_goes 274 = .ok (.if_icmp .ge 69, 3) := by decide +kernel
theorem dL_goes_277 : decode cL_goes 277 = .ok (.goto 9, 3) := by decide +kernel
theorem dL_goes_280 : decode cL_goes 280 = .ok (.iload 11, 2) := by decide +kernel
theorem dL_goes_282 : decode cL_goes 282 = .ok (.iconst (-1), 1) := by decide +kernel
theorem dL_goes_283 : decode cL_goes 283 = .ok (.if_icmp .ne 60, 3) := by decide +kernel
theorem dL_goes_286 : decode cL_goes 286 = .ok (.iload 8, 2) := by decide +kernel
theorem dL_goes_288 : decode cL_goes 288 = .ok (.ifCond .lt 55, 3) := by decide +kernel
theorem dL_goes_291 : decode cL_goes 291 = .ok (.iload 8, 2) := by decide +kernel
theorem dL_goes_293 : decode cL_goes 293 = .ok (.bipush 10, 2) := by decide +kernel
theorem dL_goes_295 : decode cL_goes 295 = .ok (.if_icmp .ge 48, 3) := by decide +kernel
theorem dL_goes_298 : decode cL_goes 298 = .ok (.iload 5, 2) := by decide +kernel
theorem dL_goes_300 : decode cL_goes 300 = .ok (.iconst 5, 1) := by decide +kernel
theorem dL_goes_301 : decode cL_goes 301 = .ok (.if_icmp .eq 15, 3) := by decide +kernel
theorem dL_goes_304 : decode cL_goes 304 = .ok (.iload 5, 2) := by decide +kernel
theorem dL_goes_306 : decode cL_goes 306 = .ok (.bipush 6, 2) := by decide +kernel
theorem dL_goes_308 : decode cL_goes 308 = .ok (.if_icmp .eq 8, 3) := by decide +kernel
theorem dL_goes_311 : decode cL_goes 311 = .ok (.iload 5, 2) := by decide +kernel
theorem dL_goes_313 : decode cL_goes 313 = .ok (.ifCond .ne 8, 3) := by decide +kernel
theorem dL_goes_316 : decode cL_goes 316 = .ok (.iload 8, 2) := by decide +kernel
theorem dL_goes_318 : decode cL_goes 318 = .ok (.ifCond .ne 25, 3) := by decide +kernel
theorem dL_goes_321 : decode cL_goes 321 = .ok (.iload 5, 2) := by decide +kernel
theorem dL_goes_323 : decode cL_goes 323 = .ok (.iconst 4, 1) := by decide +kernel
theorem dL_goes_324 : decode cL_goes 324 = .ok (.if_icmp .eq 10, 3) := by decide +kernel
theorem dL_goes_327 : decode cL_goes 327 = .ok (.iload 5, 2) := by decide +kernel
theorem dL_goes_329 : decode cL_goes 329 = .ok (.bipush 7, 2) := by decide +kernel
theorem dL_goes_331 : decode cL_goes 331 = .ok (.if_icmp .ne 8, 3) := by decide +kernel
theorem dL_goes_334 : decode cL_goes 334 = .ok (.iload 8, 2) := by decide +kernel
theorem dL_goes_336 : decode cL_goes 336 = .ok (.ifCond .le 7, 3) := by decide +kernel
theorem dL_goes_339 : decode cL_goes 339 = .ok (.iconst 1, 1) := by decide +kernel
theorem dL_goes_340 : decode cL_goes 340 = .ok (.goto 4, 3) := by decide +kernel
theorem dL_goes_343 : decode cL_goes 343 = .ok (.iconst 0, 1) := by decide +kernel
theorem dL_goes_344 : decode cL_goes 344 = .ok (.ireturn, 1) := by decide +kernel
set_option maxRecDepth 20000 in
theorem ggL_queues_L_stateOf : GoodIn wsL_queues wsL_stateOf := goodIn_ca (goodIn_r _ [5, 6, 1, 7, 8, 9, 10, 11, 12, 13, 14, 15, 16, 17, 18, 19, 61, 62, 63, 64, 65, 66, 67, 68, 69, 70, 71, 72, 73, 74, 75, 76, 77, 78, 79] (by decide +kernel) (by decide +kernel)) (goodIn_sub (fun _ h => List.mem_cons_of_mem _ (List.mem_append_right _ h)) (by decide +kernel))
set_option maxRecDepth 20000 in
theorem gL_queues_L_stateOf : GoodIn wsL_queues (va_wsS RL 109 yL_stateOf wsL_stateOf) := goodIn_app (goodIn_of _ (by decide +kernel)) ggL_queues_L_stateOf
set_option maxRecDepth 20000 in
theorem ggL_queues_L_queueAt : GoodIn wsL_queues wsL_queueAt := goodIn_ca (goodIn_r _ [22, 6, 1, 23, 24, 25, 10, 26, 17, 18, 27, 28, 29, 30, 31, 32, 33, 34, 35, 36, 19, 37, 38, 39, 40, 41, 42, 43, 44, 45, 46, 47, 48, 49, 61, 62, 63, 64, 65, 66, 67, 68, 69, 70, 71, 72, 73, 74, 75, 76, 77, 78, 79] (by decide +kernel) (by decide +kernel)) (goodIn_sub (fun _ h => List.mem_cons_of_mem _ (List.mem_append_right _ h)) (by decide +kernel))
set_option maxRecDepth 20000 in
theorem gL_queues_L_queueAt : GoodIn wsL_queues (va_wsS RL 124 yL_queueAt wsL_queueAt) := goodIn_app (goodIn_of _ (by decide +kernel)) ggL_queues_L_queueAt
set_option maxRecDepth 20000 in
theorem ggL_queues_L_installing : GoodIn wsL_queues wsL_installing := goodIn_ca (goodIn_r _ [52, 6, 1, 53, 54, 55, 10, 56, 17, 18, 28, 29, 30, 31, 32, 57, 58, 59, 60, 19, 12, 48, 71, 72, 73, 74, 75, 76, 77, 78, 79, 61, 62, 63, 64, 65, 66, 67, 68, 69, 70] (by decide +kernel) (by decide +kernel)) (goodIn_sub (fun _ h => List.mem_cons_of_mem _ (List.mem_append_right _ h)) (by decide +kernel))
set_option maxRecDepth 20000 in
theorem gL_queues_L_installing : GoodIn wsL_queues (va_wsS RL 135 yL_installing wsL_installing) := goodIn_app (goodIn_of _ (by decide +kernel)) ggL_queues_L_installing
theorem dL_queues_0 : decode cL_queues 0 = .ok (.iconst 0, 1) := by decide +kernel
theorem dL_queues_1 : decode cL_queues 1 = .ok (.istore_n 3, 1) := by decide +kernel
theorem dL_queues_2 : decode cL_queues 2 = .ok (.iconst 0, 1) := by decide +kernel
theorem dL_queues_3 : decode cL_queues 3 = .ok (.istore 4, 2) := by decide +kernel
theorem dL_queues_5 : decode cL_queues 5 = .ok (.iconst 0, 1) := by decide +kernel
theorem dL_queues_6 : decode cL_queues 6 = .ok (.istore 5, 2) := by decide +kernel
theorem dL_queues_8 : decode cL_queues 8 = .ok (.iload 5, 2) := by decide +kernel
theorem dL_queues_10 : decode cL_queues 10 = .ok (.iconst 4, 1) := by decide +kernel
theorem dL_queues_11 : decode cL_queues 11 = .ok (.if_icmp .ge 225, 3) := by decide +kernel
theorem dL_queues_14 : decode cL_queues 14 = .ok (.iconst 0, 1) := by decide +kernel
theorem dL_queues_15 : decode cL_queues 15 = .ok (.istore 6, 2) := by decide +kernel
theorem dL_queues_17 : decode cL_queues 17 = .ok (.iconst 0, 1) := by decide +kernel
theorem dL_queues_18 : decode cL_queues 18 = .ok (.istore 7, 2) := by decide +kernel
theorem dL_queues_20 : decode cL_queues 20 = .ok (.iload 7, 2) := by decide +kernel
theorem dL_queues_22 : decode cL_queues 22 = .ok (.bipush 16, 2) := by decide +kernel
theorem dL_queues_24 : decode cL_queues 24 = .ok (.if_icmp .ge 65, 3) := by decide +kernel
theorem dL_queues_27 : decode cL_queues 27 = .ok (.iload 6, 2) := by decide +kernel
theorem dL_queues_29 : decode cL_queues 29 = .ok (.aload_n 0, 1) := by decide +kernel
theorem dL_queues_30 : decode cL_queues 30 = .ok (.iload 7, 2) := by decide +kernel
theorem dL_queues_32 : decode cL_queues 32 = .ok (.invokestatic 109, 3) := by decide +kernel
theorem dL_queues_35 : decode cL_queues 35 = .ok (.iconst 3, 1) := by decide +kernel
theorem dL_queues_36 : decode cL_queues 36 = .ok (.if_icmp .ne 18, 3) := by decide +kernel
theorem dL_queues_39 : decode cL_queues 39 = .ok (.aload_n 1, 1) := by decide +kernel
theorem dL_queues_40 : decode cL_queues 40 = .ok (.iconst 4, 1) := by decide +kernel
theorem dL_queues_41 : decode cL_queues 41 = .ok (.iload 7, 2) := by decide +kernel
theorem dL_queues_43 : decode cL_queues 43 = .ok (.imul, 1) := by decide +kernel
theorem dL_queues_44 : decode cL_queues 44 = .ok (.iaload, 1) := by decide +kernel
theorem dL_queues_45 : decode cL_queues 45 = .ok (.iload 5, 2) := by decide +kernel
theorem dL_queues_47 : decode cL_queues 47 = .ok (.if_icmp .ne 7, 3) := by decide +kernel
theorem dL_queues_50 : decode cL_queues 50 = .ok (.iconst 1, 1) := by decide +kernel
theorem dL_queues_51 : decode cL_queues 51 = .ok (.goto 4, 3) := by decide +kernel
theorem dL_queues_54 : decode cL_queues 54 = .ok (.iconst 0, 1) := by decide +kernel
theorem dL_queues_55 : decode cL_queues 55 = .ok (.iadd, 1) := by decide +kernel
theorem dL_queues_56 : decode cL_queues 56 = .ok (.istore 6, 2) := by decide +kernel
theorem dL_queues_58 : decode cL_queues 58 = .ok (.iload 4, 2) := by decide +kernel
theorem dL_queues_60 : decode cL_queues 60 = .ok (.iload 5, 2) := by decide +kernel
theorem dL_queues_62 : decode cL_queues 62 = .ok (.ifCond .ne 17, 3) := by decide +kernel
theorem dL_queues_65 : decode cL_queues 65 = .ok (.aload_n 0, 1) := by decide +kernel
theorem dL_queues_66 : decode cL_queues 66 = .ok (.iload 7, 2) := by decide +kernel
theorem dL_queues_68 : decode cL_queues 68 = .ok (.invokestatic 109, 3) := by decide +kernel
theorem dL_queues_71 : decode cL_queues 71 = .ok (.iconst 2, 1) := by decide +kernel
theorem dL_queues_72 : decode cL_queues 72 = .ok (.if_icmp .ne 7, 3) := by decide +kernel
theorem dL_queues_75 : decode cL_queues 75 = .ok (.iconst 1, 1) := by decide +kernel
theorem dL_queues_76 : decode cL_queues 76 = .ok (.goto 4, 3) := by decide +kernel
theorem dL_queues_79 : decode cL_queues 79 = .ok (.iconst 0, 1) := by decide +kernel
theorem dL_queues_80 : decode cL_queues 80 = .ok (.iadd, 1) := by decide +kernel
theorem dL_queues_81 : decode cL_queues 81 = .ok (.istore 4, 2) := by decide +kernel
theorem dL_queues_83 : decode cL_queues 83 = .ok (.iinc 7 1, 3) := by decide +kernel
theorem dL_queues_86 : decode cL_queues 86 = .ok (.goto (-66), 3) := by decide +kernel
theorem dL_queues_89 : decode cL_queues 89 = .ok (.iconst 0, 1) := by decide +kernel
theorem dL_queues_90 : decode cL_queues 90 = .ok (.istore 7, 2) := by decide +kernel
theorem dL_queues_92 : decode cL_queues 92 = .ok (.iconst 0, 1) := by decide +kernel
theorem dL_queues_93 : decode cL_queues 93 = .ok (.istore 8, 2) := by decide +kernel
theorem dL_queues_95 : decode cL_queues 95 = .ok (.aload_n 0, 1) := by decide +kernel
theorem dL_queues_96 : decode cL_queues 96 = .ok (.iload 5, 2) := by decide +kernel
theorem dL_queues_98 : decode cL_queues 98 = .ok (.iload 7, 2) := by decide +kernel
theorem dL_queues_100 : decode cL_queues 100 = .ok (.invokestatic 124, 3) := by decide +kernel
theorem dL_queues_103 : decode cL_queues 103 = .ok (.ifCond .lt 69, 3) := by decide +kernel
theorem dL_queues_106 : decode cL_queues 106 = .ok (.aload_n 0, 1) := by decide +kernel
theorem dL_queues_107 : decode cL_queues 107 = .ok (.iload 5, 2) := by decide +kernel
theorem dL_queues_109 : decode cL_queues 109 = .ok (.iload 7, 2) := by decide +kernel
theorem dL_queues_111 : decode cL_queues 111 = .ok (.invokestatic 124, 3) := by decide +kernel
theorem dL_queues_114 : decode cL_queues 114 = .ok (.istore 9, 2) := by decide +kernel
theorem dL_queues_116 : decode cL_queues 116 = .ok (.iload 9, 2) := by decide +kernel
theorem dL_queues_118 : decode cL_queues 118 = .ok (.bipush 15, 2) := by decide +kernel
theorem dL_queues_120 : decode cL_queues 120 = .ok (.if_icmp .gt 35, 3) := by decide +kernel
theorem dL_queues_123 : decode cL_queues 123 = .ok (.aload_n 0, 1) := by decide +kernel
theorem dL_queues_124 : decode cL_queues 124 = .ok (.iload 9, 2) := by decide +kernel
theorem dL_queues_126 : decode cL_queues 126 = .ok (.invokestatic 109, 3) := by decide +kernel
theorem dL_queues_129 : decode cL_queues 129 = .ok (.iconst 2, 1) := by decide +kernel
theorem dL_queues_130 : decode cL_queues 130 = .ok (.if_icmp .ne 25, 3) := by decide +kernel
theorem dL_queues_133 : decode cL_queues 133 = .ok (.aload_n 1, 1) := by decide +kernel
theorem dL_queues_134 : decode cL_queues 134 = .ok (.iconst 4, 1) := by decide +kernel
theorem dL_queues_135 : decode cL_queues 135 = .ok (.iload 9, 2) := by decide +kernel
theorem dL_queues_137 : decode cL_queues 137 = .ok (.imul, 1) := by decide +kernel
theorem dL_queues_138 : decode cL_queues 138 = .ok (.iaload, 1) := by decide +kernel
theorem dL_queues_139 : decode cL_queues 139 = .ok (.iload 5, 2) := by decide +kernel
theorem dL_queues_141 : decode cL_queues 141 = .ok (.if_icmp .ne 14, 3) := by decide +kernel
theorem dL_queues_144 : decode cL_queues 144 = .ok (.iload 8, 2) := by decide +kernel
theorem dL_queues_146 : decode cL_queues 146 = .ok (.iload 9, 2) := by decide +kernel
theorem dL_queues_148 : decode cL_queues 148 = .ok (.ishr, 1) := by decide +kernel
theorem dL_queues_149 : decode cL_queues 149 = .ok (.iconst 1, 1) := by decide +kernel
theorem dL_queues_150 : decode cL_queues 150 = .ok (.iand, 1) := by decide +kernel
theorem dL_queues_151 : decode cL_queues 151 = .ok (.iconst 1, 1) := by decide +kernel
theorem dL_queues_152 : decode cL_queues 152 = .ok (.if_icmp .ne 5, 3) := by decide +kernel
theorem dL_queues_155 : decode cL_queues 155 = .ok (.iconst 0, 1) := by decide +kernel
theorem dL_queues_156 : decode cL_queues 156 = .ok (.ireturn, 1) := by decide +kernel
theorem dL_queues_157 : decode cL_queues 157 = .ok (.iload 8, 2) := by decide +kernel
theorem dL_queues_159 : decode cL_queues 159 = .ok (.iconst 1, 1) := by decide +kernel
theorem dL_queues_160 : decode cL_queues 160 = .ok (.iload 9, 2) := by decide +kernel
theorem dL_queues_162 : decode cL_queues 162 = .ok (.ishl, 1) := by decide +kernel
theorem dL_queues_163 : decode cL_queues 163 = .ok (.ior, 1) := by decide +kernel
theorem dL_queues_164 : decode cL_queues 164 = .ok (.istore 8, 2) := by decide +kernel
theorem dL_queues_166 : decode cL_queues 166 = .ok (.iinc 7 1, 3) := by decide +kernel
theorem dL_queues_169 : decode cL_queues 169 = .ok (.goto (-74), 3) := by decide +kernel
theorem dL_queues_172 : decode cL_queues 172 = .ok (.iload_n 3, 1) := by decide +kernel
theorem dL_queues_173 : decode cL_queues 173 = .ok (.iload 7, 2) := by decide +kernel
theorem dL_queues_175 : decode cL_queues 175 = .ok (.iadd, 1) := by decide +kernel
theorem dL_queues_176 : decode cL_queues 176 = .ok (.istore_n 3, 1) := by decide +kernel
theorem dL_queues_177 : decode cL_queues 177 = .ok (.aload_n 0, 1) := by decide +kernel
theorem dL_queues_178 : decode cL_queues 178 = .ok (.iload 5, 2) := by decide +kernel
theorem dL_queues_180 : decode cL_queues 180 = .ok (.iload 7, 2) := by decide +kernel
theorem dL_queues_182 : decode cL_queues 182 = .ok (.invokestatic 124, 3) := by decide +kernel
theorem dL_queues_185 : decode cL_queues 185 = .ok (.iconst (-1), 1) := by decide +kernel
theorem dL_queues_186 : decode cL_queues 186 = .ok (.if_icmp .ne 42, 3) := by decide +kernel
theorem dL_queues_189 : decode cL_queues 189 = .ok (.aload_n 0, 1) := by decide +kernel
theorem dL_queues_190 : decode cL_queues 190 = .ok (.iload 5, 2) := by decide +kernel
theorem dL_queues_192 : decode cL_queues 192 = .ok (.iload 7, 2) := by decide +kernel
theorem dL_queues_194 : decode cL_queues 194 = .ok (.iconst 1, 1) := by decide +kernel
theorem dL_queues_195 : decode cL_queues 195 = .ok (.iadd, 1) := by decide +kernel
theorem dL_queues_196 : decode cL_queues 196 = .ok (.invokestatic 124, 3) := by decide +kernel
theorem dL_queues_199 : decode cL_queues 199 = .ok (.iconst (-1), 1) := by decide +kernel
theorem dL_queues_200 : decode cL_queues 200 = .ok (.if_icmp .ne 28, 3) := by decide +kernel
theorem dL_queues_203 : decode cL_queues 203 = .ok (.aload_n 0, 1) := by decide +kernel
theorem dL_queues_204 : decode cL_queues 204 = .ok (.iload 5, 2) := by decide +kernel
theorem dL_queues_206 : decode cL_queues 206 = .ok (.invokestatic 135, 3) := by decide +kernel
theorem dL_queues_209 : decode cL_queues 209 = .ok (.iload 6, 2) := by decide +kernel
theorem dL_queues_211 : decode cL_queues 211 = .ok (.if_icmp .ne 17, 3) := by decide +kernel
theorem dL_queues_214 : decode cL_queues 214 = .ok (.iload 6, 2) := by decide +kernel
theorem dL_queues_216 : decode cL_queues 216 = .ok (.aload_n 2, 1) := by decide +kernel
theorem dL_queues_217 : decode cL_queues 217 = .ok (.iload 5, 2) := by decide +kernel
theorem dL_queues_219 : decode cL_queues 219 = .ok (.iaload, 1) := by decide +kernel
theorem dL_queues_220 : decode cL_queues 220 = .ok (.if_icmp .ge 10, 3) := by decide +kernel
theorem dL_queues_223 : decode cL_queues 223 = .ok (.iload 7, 2) := by decide +kernel
theorem dL_queues_225 : decode cL_queues 225 = .ok (.ifCond .le 5, 3) := by decide +kernel
theorem dL_queues_228 : decode cL_queues 228 = .ok (.iconst 0, 1) := by decide +kernel
theorem dL_queues_229 : decode cL_queues 229 = .ok (.ireturn, 1) := by decide +kernel
theorem dL_queues_230 : decode cL_queues 230 = .ok (.iinc 5 1, 3) := by decide +kernel
theorem dL_queues_233 : decode cL_queues 233 = .ok (.goto (-225), 3) := by decide +kernel
theorem dL_queues_236 : decode cL_queues 236 = .ok (.iload_n 3, 1) := by decide +kernel
theorem dL_queues_237 : decode cL_queues 237 = .ok (.iload 4, 2) := by decide +kernel
theorem dL_queues_239 : decode cL_queues 239 = .ok (.if_icmp .ne 39, 3) := by decide +kernel
theorem dL_queues_242 : decode cL_queues 242 = .ok (.aload_n 0, 1) := by decide +kernel
theorem dL_queues_243 : decode cL_queues 243 = .ok (.iconst 4, 1) := by decide +kernel
theorem dL_queues_244 : decode cL_queues 244 = .ok (.iconst 0, 1) := by decide +kernel
theorem dL_queues_245 : decode cL_queues 245 = .ok (.invokestatic 124, 3) := by decide +kernel
theorem dL_queues_248 : decode cL_queues 248 = .ok (.ldc 18, 2) := by decide +kernel
theorem dL_queues_250 : decode cL_queues 250 = .ok (.if_icmp .ne 28, 3) := by decide +kernel
theorem dL_queues_253 : decode cL_queues 253 = .ok (.aload_n 0, 1) := by decide +kernel
theorem dL_queues_254 : decode cL_queues 254 = .ok (.iconst 0, 1) := by decide +kernel
theorem dL_queues_255 : decode cL_queues 255 = .ok (.iconst (-1), 1) := by decide +kernel
theorem dL_queues_256 : decode cL_queues 256 = .ok (.invokestatic 124, 3) := by decide +kernel
theorem dL_queues_259 : decode cL_queues 259 = .ok (.ldc 18, 2) := by decide +kernel
theorem dL_queues_261 : decode cL_queues 261 = .ok (.if_icmp .ne 17, 3) := by decide +kernel
theorem dL_queues_264 : decode cL_queues 264 = .ok (.aload_n 0, 1) := by decide +kernel
theorem dL_queues_265 : decode cL_queues 265 = .ok (.iconst (-1), 1) := by decide +kernel
theorem dL_queues_266 : decode cL_queues 266 = .ok (.invokestatic 135, 3) := by decide +kernel
theorem dL_queues_269 : decode cL_queues 269 = .ok (.ldc 18, 2) := by decide +kernel
theorem dL_queues_271 : decode cL_queues 271 = .ok (.if_icmp .ne 7, 3) := by decide +kernel
theorem dL_queues_274 : decode cL_queues 274 = .ok (.iconst 1, 1) := by decide +kernel
theorem dL_queues_275 : decode cL_queues 275 = .ok (.goto 4, 3) := by decide +kernel
theorem dL_queues_278 : decode cL_queues 278 = .ok (.iconst 0, 1) := by decide +kernel
theorem dL_queues_279 : decode cL_queues 279 = .ok (.ireturn, 1) := by decide +kernel
set_option maxRecDepth 20000 in
theorem ggL_journal_X3_entries : GoodIn wsL_journal wsX3_entries := goodIn_r _ [7, 8, 9, 10, 11, 12, 13, 14, 15, 16, 17, 18, 19, 60, 61, 62, 63, 64, 65, 66, 67, 68, 69, 70, 71] (by decide +kernel) (by decide +kernel)
set_option maxRecDepth 20000 in
theorem gL_journal_X3_entries : GoodIn wsL_journal (wsV RL 106 RX3 yX3_entries wsX3_entries) := goodIn_app (goodIn_of _ (by decide +kernel)) ggL_journal_X3_entries
set_option maxRecDepth 20000 in
theorem ggL_journal_L_machineAt : GoodIn wsL_journal wsL_machineAt := goodIn_ca (goodIn_r _ [23, 24, 1, 25, 26, 27, 6, 28, 29, 30, 8, 31, 9, 10, 11, 12, 13, 14, 15, 16, 17, 18, 19, 60, 61, 62, 63, 64, 65, 66, 67, 68, 69, 70, 71] (by decide +kernel) (by decide +kernel)) (goodIn_sub (fun _ h => List.mem_cons_of_mem _ (List.mem_append_left _ (List.mem_append_right _ h))) (by decide +kernel))
set_option maxRecDepth 20000 in
theorem gL_journal_L_machineAt : GoodIn wsL_journal (va_wsS RL 127 yL_machineAt wsL_machineAt) := goodIn_app (goodIn_of _ (by decide +kernel)) ggL_journal_L_machineAt
set_option maxRecDepth 20000 in
theorem ggL_journal_L_stateBefore : GoodIn wsL_journal wsL_stateBefore := goodIn_ca (goodIn_ca (goodIn_r _ [34, 24, 35, 1, 2, 36, 37, 38, 6, 39, 8, 40, 31, 41, 42, 43, 44, 45, 46, 29, 30, 47, 9, 10, 11, 12, 13, 14, 15, 16, 17, 18, 19, 48, 49, 50, 51, 52, 60, 61, 62, 63, 64, 65, 66, 67, 68, 72, 73, 74, 75, 76, 77, 78, 79, 80, 81, 69, 70, 71] (by decide +kernel) (by decide +kernel)) (goodIn_sub (fun _ h => List.mem_cons_of_mem _ (List.mem_append_left _ (List.mem_append_right _ h))) (by decide +kernel))) (goodIn_sub (fun _ h => List.mem_cons_of_mem _ (List.mem_append_right _ h)) (by decide +kernel))
set_option maxRecDepth 20000 in
theorem gL_journal_L_stateBefore : GoodIn wsL_journal (va_wsS RL 129 yL_stateBefore wsL_stateBefore) := goodIn_app (goodIn_of _ (by decide +kernel)) ggL_journal_L_stateBefore
set_option maxRecDepth 20000 in
theorem ggL_journal_L_stateOf : GoodIn wsL_journal wsL_stateOf := goodIn_ca (goodIn_r _ [55, 24, 1, 56, 57, 58, 6, 59, 40, 43, 44, 45, 46, 29, 30, 47, 72, 73, 74, 75, 76, 77, 78, 79, 80, 81, 60, 61, 62, 63, 64, 65, 66, 67, 68] (by decide +kernel) (by decide +kernel)) (goodIn_sub (fun _ h => List.mem_cons_of_mem _ (List.mem_append_left _ (List.mem_append_right _ h))) (by decide +kernel))
set_option maxRecDepth 20000 in
theorem gL_journal_L_stateOf : GoodIn wsL_journal (va_wsS RL 109 yL_stateOf wsL_stateOf) := goodIn_app (goodIn_of _ (by decide +kernel)) ggL_journal_L_stateOf
theorem dL_journal_0 : decode cL_journal 0 = .ok (.aload_n 0, 1) := by decide +kernel
theorem dL_journal_1 : decode cL_journal 1 = .ok (.invokevirtual 106, 3) := by decide +kernel
theorem dL_journal_4 : decode cL_journal 4 = .ok (.istore_n 1, 1) := by decide +kernel
theorem dL_journal_5 : decode cL_journal 5 = .ok (.iload_n 1, 1) := by decide +kernel
theorem dL_journal_6 : decode cL_journal 6 = .ok (.ifCond .lt 58, 3) := by decide +kernel
theorem dL_journal_9 : decode cL_journal 9 = .ok (.iload_n 1, 1) := by decide +kernel
theorem dL_journal_10 : decode cL_journal 10 = .ok (.bipush 40, 2) := by decide +kernel
theorem dL_journal_12 : decode cL_journal 12 = .ok (.if_icmp .gt 52, 3) := by decide +kernel
theorem dL_journal_15 : decode cL_journal 15 = .ok (.aload_n 0, 1) := by decide +kernel
theorem dL_journal_16 : decode cL_journal 16 = .ok (.iload_n 1, 1) := by decide +kernel
theorem dL_journal_17 : decode cL_journal 17 = .ok (.invokestatic 127, 3) := by decide +kernel
theorem dL_journal_20 : decode cL_journal 20 = .ok (.ldc 18, 2) := by decide +kernel
theorem dL_journal_22 : decode cL_journal 22 = .ok (.if_icmp .ne 42, 3) := by decide +kernel
theorem dL_journal_25 : decode cL_journal 25 = .ok (.aload_n 0, 1) := by decide +kernel
theorem dL_journal_26 : decode cL_journal 26 = .ok (.iconst (-1), 1) := by decide +kernel
theorem dL_journal_27 : decode cL_journal 27 = .ok (.invokestatic 127, 3) := by decide +kernel
theorem dL_journal_30 : decode cL_journal 30 = .ok (.ldc 18, 2) := by decide +kernel
theorem dL_journal_32 : decode cL_journal 32 = .ok (.if_icmp .ne 32, 3) := by decide +kernel
theorem dL_journal_35 : decode cL_journal 35 = .ok (.aload_n 0, 1) := by decide +kernel
theorem dL_journal_36 : decode cL_journal 36 = .ok (.iconst 0, 1) := by decide +kernel
theorem dL_journal_37 : decode cL_journal 37 = .ok (.iload_n 1, 1) := by decide +kernel
theorem dL_journal_38 : decode cL_journal 38 = .ok (.iconst 1, 1) := by decide +kernel
theorem dL_journal_39 : decode cL_journal 39 = .ok (.iadd, 1) := by decide +kernel
theorem dL_journal_40 : decode cL_journal 40 = .ok (.invokestatic 129, 3) := by decide +kernel
theorem dL_journal_43 : decode cL_journal 43 = .ok (.ldc 21, 2) := by decide +kernel
theorem dL_journal_45 : decode cL_journal 45 = .ok (.if_icmp .ne 19, 3) := by decide +kernel
theorem dL_journal_48 : decode cL_journal 48 = .ok (.aload_n 0, 1) := by decide +kernel
theorem dL_journal_49 : decode cL_journal 49 = .ok (.bipush 16, 2) := by decide +kernel
theorem dL_journal_51 : decode cL_journal 51 = .ok (.iconst (-1), 1) := by decide +kernel
theorem dL_journal_52 : decode cL_journal 52 = .ok (.invokestatic 129, 3) := by decide +kernel
theorem dL_journal_55 : decode cL_journal 55 = .ok (.ldc 18, 2) := by decide +kernel
theorem dL_journal_57 : decode cL_journal 57 = .ok (.if_icmp .ne 7, 3) := by decide +kernel
theorem dL_journal_60 : decode cL_journal 60 = .ok (.iconst 1, 1) := by decide +kernel
theorem dL_journal_61 : decode cL_journal 61 = .ok (.goto 4, 3) := by decide +kernel
theorem dL_journal_64 : decode cL_journal 64 = .ok (.iconst 0, 1) := by decide +kernel
theorem dL_journal_65 : decode cL_journal 65 = .ok (.istore_n 2, 1) := by decide +kernel
theorem dL_journal_66 : decode cL_journal 66 = .ok (.iconst 0, 1) := by decide +kernel
theorem dL_journal_67 : decode cL_journal 67 = .ok (.istore_n 3, 1) := by decide +kernel
theorem dL_journal_68 : decode cL_journal 68 = .ok (.iload_n 3, 1) := by decide +kernel
theorem dL_journal_69 : decode cL_journal 69 = .ok (.bipush 16, 2) := by decide +kernel
theorem dL_journal_71 : decode cL_journal 71 = .ok (.if_icmp .ge 33, 3) := by decide +kernel
theorem dL_journal_74 : decode cL_journal 74 = .ok (.iload_n 2, 1) := by decide +kernel
theorem dL_journal_75 : decode cL_journal 75 = .ok (.ifCond .eq 21, 3) := by decide +kernel
theorem dL_journal_78 : decode cL_journal 78 = .ok (.aload_n 0, 1) := by decide +kernel
theorem dL_journal_79 : decode cL_journal 79 = .ok (.iload_n 3, 1) := by decide +kernel
theorem dL_journal_80 : decode cL_journal 80 = .ok (.iconst 0, 1) := by decide +kernel
theorem dL_journal_81 : decode cL_journal 81 = .ok (.invokestatic 129, 3) := by decide +kernel
theorem dL_journal_84 : decode cL_journal 84 = .ok (.aload_n 0, 1) := by decide +kernel
theorem dL_journal_85 : decode cL_journal 85 = .ok (.iload_n 3, 1) := by decide +kernel
theorem dL_journal_86 : decode cL_journal 86 = .ok (.invokestatic 109, 3) := by decide +kernel
theorem dL_journal_89 : decode cL_journal 89 = .ok (.if_icmp .ne 7, 3) := by decide +kernel
theorem dL_journal_92 : decode cL_journal 92 = .ok (.iconst 1, 1) := by decide +kernel
theorem dL_journal_93 : decode cL_journal 93 = .ok (.goto 4, 3) := by decide +kernel
theorem dL_journal_96 : decode cL_journal 96 = .ok (.iconst 0, 1) := by decide +kernel
theorem dL_journal_97 : decode cL_journal 97 = .ok (.istore_n 2, 1) := by decide +kernel
theorem dL_journal_98 : decode cL_journal 98 = .ok (.iinc 3 1, 3) := by decide +kernel
theorem dL_journal_101 : decode cL_journal 101 = .ok (.goto (-33), 3) := by decide +kernel
theorem dL_journal_104 : decode cL_journal 104 = .ok (.iconst 0, 1) := by decide +kernel
theorem dL_journal_105 : decode cL_journal 105 = .ok (.istore_n 3, 1) := by decide +kernel
theorem dL_journal_106 : decode cL_journal 106 = .ok (.iload_n 3, 1) := by decide +kernel
theorem dL_journal_107 : decode cL_journal 107 = .ok (.iload_n 1, 1) := by decide +kernel
theorem dL_journal_108 : decode cL_journal 108 = .ok (.if_icmp .ge 234, 3) := by decide +kernel
theorem dL_journal_111 : decode cL_journal 111 = .ok (.iload_n 2, 1) := by decide +kernel
theorem dL_journal_112 : decode cL_journal 112 = .ok (.ifCond .eq 230, 3) := by decide +kernel
theorem dL_journal_115 : decode cL_journal 115 = .ok (.aload_n 0, 1) := by decide +kernel
theorem dL_journal_116 : decode cL_journal 116 = .ok (.iload_n 3, 1) := by decide +kernel
theorem dL_journal_117 : decode cL_journal 117 = .ok (.invokestatic 127, 3) := by decide +kernel
theorem dL_journal_120 : decode cL_journal 120 = .ok (.istore 4, 2) := by decide +kernel
theorem dL_journal_122 : decode cL_journal 122 = .ok (.aload_n 0, 1) := by decide +kernel
theorem dL_journal_123 : decode cL_journal 123 = .ok (.iload 4, 2) := by decide +kernel
theorem dL_journal_125 : decode cL_journal 125 = .ok (.iload_n 3, 1) := by decide +kernel
theorem dL_journal_126 : decode cL_journal 126 = .ok (.iconst 1, 1) := by decide +kernel
theorem dL_journal_127 : decode cL_journal 127 = .ok (.iadd, 1) := by decide +kernel
theorem dL_journal_128 : decode cL_journal 128 = .ok (.invokestatic 129, 3) := by decide +kernel
theorem dL_journal_131 : decode cL_journal 131 = .ok (.istore 5, 2) := by decide +kernel
theorem dL_journal_133 : decode cL_journal 133 = .ok (.aload_n 0, 1) := by decide +kernel
theorem dL_journal_134 : decode cL_journal 134 = .ok (.iload 4, 2) := by decide +kernel
theorem dL_journal_136 : decode cL_journal 136 = .ok (.iload_n 3, 1) := by decide +kernel
theorem dL_journal_137 : decode cL_journal 137 = .ok (.invokestatic 129, 3) := by decide +kernel
theorem dL_journal_140 : decode cL_journal 140 = .ok (.istore 6, 2) := by decide +kernel
theorem dL_journal_142 : decode cL_journal 142 = .ok (.iload 5, 2) := by decide +kernel
theorem dL_journal_144 : decode cL_journal 144 = .ok (.ifCond .ne 9, 3) := by decide +kernel
theorem dL_journal_147 : decode cL_journal 147 = .ok (.iload 6, 2) := by decide +kernel
theorem dL_journal_149 : decode cL_journal 149 = .ok (.iconst 1, 1) := by decide +kernel
theorem dL_journal_150 : decode cL_journal 150 = .ok (.if_icmp .eq 127, 3) := by decide +kernel
theorem dL_journal_153 : decode cL_journal 153 = .ok (.iload 5, 2) := by decide +kernel
theorem dL_journal_155 : decode cL_journal 155 = .ok (.iconst 1, 1) := by decide +kernel
theorem dL_journal_156 : decode cL_journal 156 = .ok (.if_icmp .ne 9, 3) := by decide +kernel
theorem dL_journal_159 : decode cL_journal 159 = .ok (.iload 6, 2) := by decide +kernel
theorem dL_journal_161 : decode cL_journal 161 = .ok (.iconst 2, 1) := by decide +kernel
theorem dL_journal_162 : decode cL_journal 162 = .ok (.if_icmp .eq 115, 3) := by decide +kernel
theorem dL_journal_165 : decode cL_journal 165 = .ok (.iload 5, 2) := by decide +kernel
theorem dL_journal_167 : decode cL_journal 167 = .ok (.iconst 2, 1) := by decide +kernel
theorem dL_journal_168 : decode cL_journal 168 = .ok (.if_icmp .ne 15, 3) := by decide +kernel
theorem dL_journal_171 : decode cL_journal 171 = .ok (.iload 6, 2) := by decide +kernel
theorem dL_journal_173 : decode cL_journal 173 = .ok (.iconst 1, 1) := by decide +kernel
theorem dL_journal_174 : decode cL_journal 174 = .ok (.if_icmp .eq 103, 3) := by decide +kernel
theorem dL_journal_177 : decode cL_journal 177 = .ok (.iload 6, 2) := by decide +kernel
theorem dL_journal_179 : decode cL_journal 179 = .ok (.iconst 3, 1) := by decide +kernel
theorem dL_journal_180 : decode cL_journal 180 = .ok (.if_icmp .eq 97, 3) := by decide +kernel
theorem dL_journal_183 : decode cL_journal 183 = .ok (.iload 5, 2) := by decide +kernel
theorem dL_journal_185 : decode cL_journal 185 = .ok (.iconst 3, 1) := by decide +kernel
theorem dL_journal_186 : decode cL_journal 186 = .ok (.if_icmp .ne 22, 3) := by decide +kernel
theorem dL_journal_189 : decode cL_journal 189 = .ok (.iload 6, 2) := by decide +kernel
theorem dL_journal_191 : decode cL_journal 191 = .ok (.iconst 4, 1) := by decide +kernel
theorem dL_journal_192 : decode cL_journal 192 = .ok (.if_icmp .eq 85, 3) := by decide +kernel
theorem dL_journal_195 : decode cL_journal 195 = .ok (.iload 6, 2) := by decide +kernel
theorem dL_journal_197 : decode cL_journal 197 = .ok (.iconst 5, 1) := by decide +kernel
theorem dL_journal_198 : decode cL_journal 198 = .ok (.if_icmp .eq 79, 3) := by decide +kernel
theorem dL_journal_201 : decode cL_journal 201 = .ok (.iload 6, 2) := by decide +kernel
theorem dL_journal_203 : decode cL_journal 203 = .ok (.bipush 7, 2) := by decide +kernel
theorem dL_journal_205 : decode cL_journal 205 = .ok (.if_icmp .eq 72, 3) := by decide +kernel
theorem dL_journal_208 : decode cL_journal 208 = .ok (.iload 5, 2) := by decide +kernel
theorem dL_journal_210 : decode cL_journal 210 = .ok (.iconst 4, 1) := by decide +kernel
theorem dL_journal_211 : decode cL_journal 211 = .ok (.if_icmp .ne 15, 3) := by decide +kernel
theorem dL_journal_214 : decode cL_journal 214 = .ok (.iload 6, 2) := by decide +kernel
theorem dL_journal_216 : decode cL_journal 216 = .ok (.iconst 1, 1) := by decide +kernel
theorem dL_journal_217 : decode cL_journal 217 = .ok (.if_icmp .eq 60, 3) := by decide +kernel
theorem dL_journal_220 : decode cL_journal 220 = .ok (.iload 6, 2) := by decide +kernel
theorem dL_journal_222 : decode cL_journal 222 = .ok (.iconst 2, 1) := by decide +kernel
theorem dL_journal_223 : decode cL_journal 223 = .ok (.if_icmp .eq 54, 3) := by decide +kernel
theorem dL_journal_226 : decode cL_journal 226 = .ok (.iload 5, 2) := by decide +kernel
theorem dL_journal_228 : decode cL_journal 228 = .ok (.iconst 5, 1) := by decide +kernel
theorem dL_journal_229 : decode cL_journal 229 = .ok (.if_icmp .ne 16, 3) := by decide +kernel
theorem dL_journal_232 : decode cL_journal 232 = .ok (.iload 6, 2) := by decide +kernel
theorem dL_journal_234 : decode cL_journal 234 = .ok (.iconst 1, 1) := by decide +kernel
theorem dL_journal_235 : decode cL_journal 235 = .ok (.if_icmp .eq 42, 3) := by decide +kernel
theorem dL_journal_238 : decode cL_journal 238 = .ok (.iload 6, 2) := by decide +kernel
theorem dL_journal_240 : decode cL_journal 240 = .ok (.bipush 6, 2) := by decide +kernel
theorem dL_journal_242 : decode cL_journal 242 = .ok (.if_icmp .eq 35, 3) := by decide +kernel
theorem dL_journal_245 : decode cL_journal 245 = .ok (.iload 5, 2) := by decide +kernel
theorem dL_journal_247 : decode cL_journal 247 = .ok (.bipush 6, 2) := by decide +kernel
theorem dL_journal_249 : decode cL_journal 249 = .ok (.if_icmp .ne 15, 3) := by decide +kernel
theorem dL_journal_252 : decode cL_journal 252 = .ok (.iload 6, 2) := by decide +kernel
theorem dL_journal_254 : decode cL_journal 254 = .ok (.iconst 1, 1) := by decide +kernel
theorem dL_journal_255 : decode cL_journal 255 = .ok (.if_icmp .eq 22, 3) := by decide +kernel
theorem dL_journal_258 : decode cL_journal 258 = .ok (.iload 6, 2) := by decide +kernel
theorem dL_journal_260 : decode cL_journal 260 = .ok (.iconst 5, 1) := by decide +kernel
theorem dL_journal_261 : decode cL_journal 261 = .ok (.if_icmp .eq 16, 3) := by decide +kernel
theorem dL_journal_264 : decode cL_journal 264 = .ok (.iload 5, 2) := by decide +kernel
theorem dL_journal_266 : decode cL_journal 266 = .ok (.bipush 7, 2) := by decide +kernel
theorem dL_journal_268 : decode cL_journal 268 = .ok (.if_icmp .ne 13, 3) := by decide +kernel
theorem dL_journal_271 : decode cL_journal 271 = .ok (.iload 6, 2) := by decide +kernel
theorem dL_journal_273 : decode cL_journal 273 = .ok (.iconst 1, 1) := by decide +kernel
theorem dL_journal_274 : decode cL_journal 274 = .ok (.if_icmp .ne 7, 3) := by decide +kernel
theorem dL_journal_277 : decode cL_journal 277 = .ok (.iconst 1, 1) := by decide +kernel
theorem dL_journal_278 : decode cL_journal 278 = .ok (.goto 4, 3) := by decide +kernel
theorem dL_journal_281 : decode cL_journal 281 = .ok (.iconst 0, 1) := by decide +kernel
theorem dL_journal_282 : decode cL_journal 282 = .ok (.istore 7, 2) := by decide +kernel
theorem dL_journal_284 : decode cL_journal 284 = .ok (.iload 4, 2) := by decide +kernel
theorem dL_journal_286 : decode cL_journal 286 = .ok (.ifCond .lt 48, 3) := by decide +kernel
theorem dL_journal_289 : decode cL_journal 289 = .ok (.iload 4, 2) := by decide +kernel
theorem dL_journal_291 : decode cL_journal 291 = .ok (.bipush 16, 2) := by decide +kernel
theorem dL_journal_293 : decode cL_journal 293 = .ok (.if_icmp .ge 41, 3) := by decide +kernel
theorem dL_journal_296 : decode cL_journal 296 = .ok (.iload 7, 2) := by decide +kernel
theorem dL_journal_298 : decode cL_journal 298 = .ok (.ifCond .eq 36, 3) := by decide +kernel
theorem dL_journal_301 : decode cL_journal 301 = .ok (.aload_n 0, 1) := by decide +kernel
theorem dL_journal_302 : decode cL_journal 302 = .ok (.iload 4, 2) := by decide +kernel
theorem dL_journal_304 : decode cL_journal 304 = .ok (.iconst 1, 1) := by decide +kernel
theorem dL_journal_305 : decode cL_journal 305 = .ok (.iadd, 1) := by decide +kernel
theorem dL_journal_306 : decode cL_journal 306 = .ok (.bipush 16, 2) := by decide +kernel
theorem dL_journal_308 : decode cL_journal 308 = .ok (.irem, 1) := by decide +kernel
theorem dL_journal_309 : decode cL_journal 309 = .ok (.iload_n 3, 1) := by decide +kernel
theorem dL_journal_310 : decode cL_journal 310 = .ok (.iconst 1, 1) := by decide +kernel
theorem dL_journal_311 : decode cL_journal 311 = .ok (.iadd, 1) := by decide +kernel
theorem dL_journal_312 : decode cL_journal 312 = .ok (.invokestatic 129, 3) := by decide +kernel
theorem dL_journal_315 : decode cL_journal 315 = .ok (.aload_n 0, 1) := by decide +kernel
theorem dL_journal_316 : decode cL_journal 316 = .ok (.iload 4, 2) := by decide +kernel
theorem dL_journal_318 : decode cL_journal 318 = .ok (.iconst 1, 1) := by decide +kernel
theorem dL_journal_319 : decode cL_journal 319 = .ok (.iadd, 1) := by decide +kernel
theorem dL_journal_320 : decode cL_journal 320 = .ok (.bipush 16, 2) := by decide +kernel
theorem dL_journal_322 : decode cL_journal 322 = .ok (.irem, 1) := by decide +kernel
theorem dL_journal_323 : decode cL_journal 323 = .ok (.iload_n 3, 1) := by decide +kernel
theorem dL_journal_324 : decode cL_journal 324 = .ok (.invokestatic 129, 3) := by decide +kernel
theorem dL_journal_327 : decode cL_journal 327 = .ok (.if_icmp .ne 7, 3) := by decide +kernel
theorem dL_journal_330 : decode cL_journal 330 = .ok (.iconst 1, 1) := by decide +kernel
theorem dL_journal_331 : decode cL_journal 331 = .ok (.goto 4, 3) := by decide +kernel
theorem dL_journal_334 : decode cL_journal 334 = .ok (.iconst 0, 1) := by decide +kernel
theorem dL_journal_335 : decode cL_journal 335 = .ok (.istore_n 2, 1) := by decide +kernel
theorem dL_journal_336 : decode cL_journal 336 = .ok (.iinc 3 1, 3) := by decide +kernel
theorem dL_journal_339 : decode cL_journal 339 = .ok (.goto (-233), 3) := by decide +kernel
theorem dL_journal_342 : decode cL_journal 342 = .ok (.iload_n 2, 1) := by decide +kernel
theorem dL_journal_343 : decode cL_journal 343 = .ok (.ireturn, 1) := by decide +kernel
set_option maxRecDepth 20000 in
theorem ggL_passes_X3_nextChange : GoodIn wsL_passes wsX3_nextChange := goodIn_r _ [5, 6, 7, 8, 9, 10, 11, 12, 13, 14, 147, 148, 149, 150, 151, 152, 153, 154, 155, 156, 157, 158, 159, 160, 161, 162, 163, 164, 165] (by decide +kernel) (by decide +kernel)
set_option maxRecDepth 20000 in
theorem gL_passes_X3_nextChange : GoodIn wsL_passes (wsV RL 137 RX3 yX3_nextChange wsX3_nextChange) := goodIn_app (goodIn_of _ (by decide +kernel)) ggL_passes_X3_nextChange
set_option maxRecDepth 20000 in
theorem ggL_passes_X3_now : GoodIn wsL_passes wsX3_now := goodIn_r _ [18, 8, 147, 148, 149, 150, 151, 152, 153, 154, 155] (by decide +kernel) (by decide +kernel)
set_option maxRecDepth 20000 in
theorem gL_passes_X3_now : GoodIn wsL_passes (wsV RL 99 RX3 yX3_now wsX3_now) := goodIn_app (goodIn_of _ (by decide +kernel)) ggL_passes_X3_now
set_option maxRecDepth 20000 in
theorem ggL_passes_L_advance : GoodIn wsL_passes wsL_advance := goodIn_ca (goodIn_r _ [22, 23, 24, 25, 26, 27, 4, 28, 29, 30, 31, 32, 33, 34, 35, 36, 37, 38, 39, 8, 40, 41, 42, 43, 6, 44, 45, 46, 12, 47, 14, 48, 49, 50, 51, 52, 53, 54, 55, 7, 56, 57, 58, 59, 60, 61, 62, 63, 64, 65, 66, 67, 68, 69, 70, 71, 72, 73, 74, 75, 76, 77, 78, 79, 80, 81, 82, 83, 84, 85, 86, 87, 88, 89, 90, 91, 92, 93, 94, 95, 96, 97, 98, 99, 100, 101, 102, 103, 104, 105, 106, 107, 108, 109, 110, 111, 112, 113, 114, 115, 116, 117, 118, 119, 120, 121, 122, 123, 124, 125, 126, 127, 128, 129, 130, 131, 132, 133, 134, 135, 136, 137, 138, 139, 140, 141, 142, 143, 144, 145, 146, 147, 148, 149, 150, 151, 152, 153, 154, 155, 166, 167, 168, 156, 157, 158, 159, 160, 161, 162, 163, 164, 165, 169, 170, 171, 172, 173, 174, 175, 176] (by decide +kernel) (by decide +kernel)) (goodIn_sub (fun _ h => List.mem_cons_of_mem _ (List.mem_append_right _ h)) (by decide +kernel))
set_option maxRecDepth 20000 in
theorem gL_passes_L_advance : GoodIn wsL_passes (va_wsS RL 140 yL_advance wsL_advance) := goodIn_app (goodIn_of _ (by decide +kernel)) ggL_passes_L_advance
theorem dL_passes_0 : decode cL_passes 0 = .ok (.aload_n 0, 1) := by decide +kernel
theorem dL_passes_1 : decode cL_passes 1 = .ok (.invokevirtual 137, 3) := by decide +kernel
theorem dL_passes_4 : decode cL_passes 4 = .ok (.istore_n 3, 1) := by decide +kernel
theorem dL_passes_5 : decode cL_passes 5 = .ok (.aload_n 0, 1) := by decide +kernel
theorem dL_passes_6 : decode cL_passes 6 = .ok (.invokevirtual 99, 3) := by decide +kernel
theorem dL_passes_9 : decode cL_passes 9 = .ok (.istore 4, 2) := by decide +kernel
theorem dL_passes_11 : decode cL_passes 11 = .ok (.iconst 0, 1) := by decide +kernel
theorem dL_passes_12 : decode cL_passes 12 = .ok (.istore 5, 2) := by decide +kernel
theorem dL_passes_14 : decode cL_passes 14 = .ok (.iload_n 3, 1) := by decide +kernel
theorem dL_passes_15 : decode cL_passes 15 = .ok (.aload_n 1, 1) := by decide +kernel
theorem dL_passes_16 : decode cL_passes 16 = .ok (.invokevirtual 137, 3) := by decide +kernel
theorem dL_passes_19 : decode cL_passes 19 = .ok (.if_icmp .ne 16, 3) := by decide +kernel
theorem dL_passes_22 : decode cL_passes 22 = .ok (.iload_n 3, 1) := by decide +kernel
theorem dL_passes_23 : decode cL_passes 23 = .ok (.iconst (-1), 1) := by decide +kernel
theorem dL_passes_24 : decode cL_passes 24 = .ok (.if_icmp .eq 7, 3) := by decide +kernel
theorem dL_passes_27 : decode cL_passes 27 = .ok (.iload_n 3, 1) := by decide +kernel
theorem dL_passes_28 : decode cL_passes 28 = .ok (.ifCond .le 7, 3) := by decide +kernel
theorem dL_passes_31 : decode cL_passes 31 = .ok (.iconst 1, 1) := by decide +kernel
theorem dL_passes_32 : decode cL_passes 32 = .ok (.goto 4, 3) := by decide +kernel
theorem dL_passes_35 : decode cL_passes 35 = .ok (.iconst 0, 1) := by decide +kernel
theorem dL_passes_36 : decode cL_passes 36 = .ok (.istore 6, 2) := by decide +kernel
theorem dL_passes_38 : decode cL_passes 38 = .ok (.iconst 1, 1) := by decide +kernel
theorem dL_passes_39 : decode cL_passes 39 = .ok (.istore 7, 2) := by decide +kernel
theorem dL_passes_41 : decode cL_passes 41 = .ok (.iload 7, 2) := by decide +kernel
theorem dL_passes_43 : decode cL_passes 43 = .ok (.iload_n 2, 1) := by decide +kernel
theorem dL_passes_44 : decode cL_passes 44 = .ok (.if_icmp .gt 66, 3) := by decide +kernel
theorem dL_passes_47 : decode cL_passes 47 = .ok (.aload_n 1, 1) := by decide +kernel
theorem dL_passes_48 : decode cL_passes 48 = .ok (.iconst 1, 1) := by decide +kernel
theorem dL_passes_49 : decode cL_passes 49 = .ok (.invokestatic 140, 3) := by decide +kernel
theorem dL_passes_52 : decode cL_passes 52 = .ok (.istore 8, 2) := by decide +kernel
theorem dL_passes_54 : decode cL_passes 54 = .ok (.iload 5, 2) := by decide +kernel
theorem dL_passes_56 : decode cL_passes 56 = .ok (.iload 8, 2) := by decide +kernel
theorem dL_passes_58 : decode cL_passes 58 = .ok (.iadd, 1) := by decide +kernel
theorem dL_passes_59 : decode cL_passes 59 = .ok (.istore 5, 2) := by decide +kernel
theorem dL_passes_61 : decode cL_passes 61 = .ok (.iload 6, 2) := by decide +kernel
theorem dL_passes_63 : decode cL_passes 63 = .ok (.ifCond .eq 38, 3) := by decide +kernel
theorem dL_passes_66 : decode cL_passes 66 = .ok (.iload 8, 2) := by decide +kernel
theorem dL_passes_68 : decode cL_passes 68 = .ok (.ifCond .lt 33, 3) := by decide +kernel
theorem dL_passes_71 : decode cL_passes 71 = .ok (.iload_n 3, 1) := by decide +kernel
theorem dL_passes_72 : decode cL_passes 72 = .ok (.ifCond .le 9, 3) := by decide +kernel
theorem dL_passes_75 : decode cL_passes 75 = .ok (.iload 7, 2) := by decide +kernel
theorem dL_passes_77 : decode cL_passes 77 = .ok (.iload_n 3, 1) := by decide +kernel
theorem dL_passes_78 : decode cL_passes 78 = .ok (.if_icmp .ge 8, 3) := by decide +kernel
theorem dL_passes_81 : decode cL_passes 81 = .ok (.iload 8, 2) := by decide +kernel
theorem dL_passes_83 : decode cL_passes 83 = .ok (.ifCond .ne 18, 3) := by decide +kernel
theorem dL_passes_86 : decode cL_passes 86 = .ok (.iload 7, 2) := by decide +kernel
theorem dL_passes_88 : decode cL_passes 88 = .ok (.iload_n 3, 1) := by decide +kernel
theorem dL_passes_89 : decode cL_passes 89 = .ok (.if_icmp .ne 8, 3) := by decide +kernel
theorem dL_passes_92 : decode cL_passes 92 = .ok (.iload 8, 2) := by decide +kernel
theorem dL_passes_94 : decode cL_passes 94 = .ok (.ifCond .le 7, 3) := by decide +kernel
theorem dL_passes_97 : decode cL_passes 97 = .ok (.iconst 1, 1) := by decide +kernel
theorem dL_passes_98 : decode cL_passes 98 = .ok (.goto 4, 3) := by decide +kernel
theorem dL_passes_101 : decode cL_passes 101 = .ok (.iconst 0, 1) := by decide +kernel
theorem dL_passes_102 : decode cL_passes 102 = .ok (.istore 6, 2) := by decide +kernel
theorem dL_passes_104 : decode cL_passes 104 = .ok (.iinc 7 1, 3) := by decide +kernel
theorem dL_passes_107 : decode cL_passes 107 = .ok (.goto (-66), 3) := by decide +kernel
theorem dL_passes_110 : decode cL_passes 110 = .ok (.iload 6, 2) := by decide +kernel
theorem dL_passes_112 : decode cL_passes 112 = .ok (.ifCond .eq 39, 3) := by decide +kernel
theorem dL_passes_115 : decode cL_passes 115 = .ok (.aload_n 0, 1) := by decide +kernel
theorem dL_passes_116 : decode cL_passes 116 = .ok (.iload_n 2, 1) := by decide +kernel
theorem dL_passes_117 : decode cL_passes 117 = .ok (.invokestatic 140, 3) := by decide +kernel
theorem dL_passes_120 : decode cL_passes 120 = .ok (.iload 5, 2) := by decide +kernel
theorem dL_passes_122 : decode cL_passes 122 = .ok (.if_icmp .ne 29, 3) := by decide +kernel
theorem dL_passes_125 : decode cL_passes 125 = .ok (.aload_n 0, 1) := by decide +kernel
theorem dL_passes_126 : decode cL_passes 126 = .ok (.invokevirtual 99, 3) := by decide +kernel
theorem dL_passes_129 : decode cL_passes 129 = .ok (.iload 4, 2) := by decide +kernel
theorem dL_passes_131 : decode cL_passes 131 = .ok (.iload_n 2, 1) := by decide +kernel
theorem dL_passes_132 : decode cL_passes 132 = .ok (.iadd, 1) := by decide +kernel
theorem dL_passes_133 : decode cL_passes 133 = .ok (.if_icmp .ne 18, 3) := by decide +kernel
theorem dL_passes_136 : decode cL_passes 136 = .ok (.aload_n 1, 1) := by decide +kernel
theorem dL_passes_137 : decode cL_passes 137 = .ok (.invokevirtual 99, 3) := by decide +kernel
theorem dL_passes_140 : decode cL_passes 140 = .ok (.aload_n 0, 1) := by decide +kernel
theorem dL_passes_141 : decode cL_passes 141 = .ok (.invokevirtual 99, 3) := by decide +kernel
theorem dL_passes_144 : decode cL_passes 144 = .ok (.if_icmp .ne 7, 3) := by decide +kernel
theorem dL_passes_147 : decode cL_passes 147 = .ok (.iconst 1, 1) := by decide +kernel
theorem dL_passes_148 : decode cL_passes 148 = .ok (.goto 4, 3) := by decide +kernel
theorem dL_passes_151 : decode cL_passes 151 = .ok (.iconst 0, 1) := by decide +kernel
theorem dL_passes_152 : decode cL_passes 152 = .ok (.ireturn, 1) := by decide +kernel
set_option maxRecDepth 20000 in
theorem ggL_acts_L_low : GoodIn wsL_acts wsL_low := goodIn_r _ [7, 8] (by decide +kernel) (by decide +kernel)
set_option maxRecDepth 20000 in
theorem gL_acts_L_low : GoodIn wsL_acts (va_wsS RL 142 yL_low wsL_low) := goodIn_app (goodIn_of _ (by decide +kernel)) ggL_acts_L_low
set_option maxRecDepth 20000 in
theorem ggL_acts_L_stateOf : GoodIn wsL_acts wsL_stateOf := goodIn_ca (goodIn_r _ [11, 12, 2, 13, 14, 15, 16, 17, 18, 19, 20, 21, 22, 23, 24, 25, 252, 253, 254, 255, 256, 257, 258, 259, 260, 261, 262, 263, 264, 265, 266, 267, 268, 269, 270] (by decide +kernel) (by decide +kernel)) (goodIn_sub (fun _ h => List.mem_cons_of_mem _ (List.mem_append_left _ (List.mem_append_left _ (List.mem_append_right _ h)))) (by decide +kernel))
set_option maxRecDepth 20000 in
theorem gL_acts_L_stateOf : GoodIn wsL_acts (va_wsS RL 109 yL_stateOf wsL_stateOf) := goodIn_app (goodIn_of _ (by decide +kernel)) ggL_acts_L_stateOf
set_option maxRecDepth 20000 in
theorem ggL_acts_L_setImage : GoodIn wsL_acts wsL_setImage := goodIn_ca (goodIn_ca (goodIn_r _ [28, 12, 29, 2, 30, 31, 32, 33, 16, 34, 35, 36, 37, 38, 39, 40, 41, 42, 43, 44, 45, 23, 24, 46, 47, 48, 49, 50, 51, 52, 53, 54, 55, 56, 57, 58, 59, 60, 61, 62, 63, 64, 25, 18, 65, 66, 67, 68, 69, 70, 71, 72, 73, 74, 75, 76, 77, 78, 79, 80, 81, 82, 83, 84, 85, 86, 87, 88, 89, 90, 91, 92, 93, 94, 95, 96, 97, 98, 99, 100, 101, 102, 103, 104, 105, 106, 107, 108, 109, 110, 111, 112, 113, 114, 115, 116, 117, 118, 119, 120, 121, 271, 272, 273, 274, 275, 276, 277, 278, 262, 263, 264, 265, 266, 267, 268, 269, 270, 252, 253, 254, 255, 256, 257, 258, 259, 260, 261, 279, 280, 281] (by decide +kernel) (by decide +kernel)) (goodIn_sub (fun _ h => List.mem_cons_of_mem _ (List.mem_append_left _ (List.mem_append_left _ (List.mem_append_right _ h)))) (by decide +kernel))) (goodIn_sub (fun _ h => List.mem_cons_of_mem _ (List.mem_append_left _ (List.mem_append_right _ h))) (by decide +kernel))
set_option maxRecDepth 20000 in
theorem gL_acts_L_setImage : GoodIn wsL_acts (va_wsS RL 145 yL_setImage wsL_setImage) := goodIn_app (goodIn_of _ (by decide +kernel)) ggL_acts_L_setImage
set_option maxRecDepth 20000 in
theorem ggL_acts_L_dropImage : GoodIn wsL_acts wsL_dropImage := goodIn_ca (goodIn_r _ [124, 12, 2, 125, 126, 127, 16, 128, 35, 129, 130, 131, 132, 23, 24, 42, 43, 44, 45, 46, 52, 53, 54, 55, 56, 57, 58, 59, 60, 61, 62, 63, 64, 25, 18, 65, 66, 67, 68, 69, 70, 71, 72, 73, 74, 75, 76, 77, 78, 79, 80, 81, 82, 83, 84, 85, 86, 87, 88, 36, 89, 90, 91, 92, 93, 37, 94, 95, 96, 97, 98, 99, 100, 101, 102, 103, 104, 105, 106, 107, 108, 109, 110, 111, 112, 113, 114, 115, 116, 117, 118, 119, 120, 121, 271, 272, 273, 274, 275, 276, 277, 278, 262, 263, 264, 265, 266, 267, 268, 269, 270, 252, 253, 254, 255, 256, 257, 258, 259, 260, 261, 279, 280, 281] (by decide +kernel) (by decide +kernel)) (goodIn_sub (fun _ h => List.mem_cons_of_mem _ (List.mem_append_left _ (List.mem_append_left _ (List.mem_append_right _ h)))) (by decide +kernel))
set_option maxRecDepth 20000 in
theorem gL_acts_L_dropImage : GoodIn wsL_acts (va_wsS RL 148 yL_dropImage wsL_dropImage) := goodIn_app (goodIn_of _ (by decide +kernel)) ggL_acts_L_dropImage
set_option maxRecDepth 20000 in
theorem ggL_acts_L_setTime : GoodIn wsL_acts wsL_setTime := goodIn_ca (goodIn_ca (goodIn_r _ [135, 12, 29, 2, 30, 136, 137, 138, 16, 139, 36, 129, 130, 131, 132, 23, 24, 35, 42, 43, 44, 45, 46, 47, 48, 49, 50, 51, 52, 53, 54, 55, 56, 57, 58, 59, 60, 61, 62, 63, 64, 25, 18, 65, 66, 67, 68, 69, 70, 71, 72, 73, 74, 75, 76, 77, 78, 79, 80, 81, 82, 83, 84, 85, 86, 87, 88, 89, 90, 91, 92, 93, 37, 94, 95, 96, 97, 98, 99, 100, 101, 102, 103, 104, 105, 106, 107, 108, 109, 110, 111, 112, 113, 114, 115, 116, 117, 118, 119, 120, 121, 271, 272, 273, 274, 275, 276, 277, 278, 262, 263, 264, 265, 266, 267, 268, 269, 270, 252, 253, 254, 255, 256, 257, 258, 259, 260, 261, 279, 280, 281] (by decide +kernel) (by decide +kernel)) (goodIn_sub (fun _ h => List.mem_cons_of_mem _ (List.mem_append_left _ (List.mem_append_left _ (List.mem_append_right _ h)))) (by decide +kernel))) (goodIn_sub (fun _ h => List.mem_cons_of_mem _ (List.mem_append_left _ (List.mem_append_right _ h))) (by decide +kernel))
set_option maxRecDepth 20000 in
theorem gL_acts_L_setTime : GoodIn wsL_acts (va_wsS RL 150 yL_setTime wsL_setTime) := goodIn_app (goodIn_of _ (by decide +kernel)) ggL_acts_L_setTime
set_option maxRecDepth 20000 in
theorem ggL_acts_L_setBatch : GoodIn wsL_acts wsL_setBatch := goodIn_ca (goodIn_ca (goodIn_r _ [142, 12, 29, 2, 30, 143, 144, 145, 16, 146, 23, 24, 56, 147, 148, 149, 150, 47, 48, 49, 50, 51, 52, 53, 54, 55, 57, 58, 59, 60, 61, 62, 63, 64, 25, 18, 65, 66, 67, 68, 69, 70, 71, 72, 73, 74, 75, 76, 77, 78, 79, 80, 81, 82, 83, 84, 85, 86, 87, 88, 36, 89, 90, 91, 92, 93, 46, 37, 94, 95, 96, 97, 98, 99, 100, 101, 102, 103, 104, 105, 106, 107, 108, 109, 110, 111, 112, 113, 114, 115, 116, 117, 118, 119, 120, 121, 262, 263, 264, 265, 266, 267, 268, 269, 270, 252, 253, 254, 255, 256, 257, 258, 259, 260, 261, 271, 272, 273, 274, 275, 276, 277, 278, 279, 280, 281] (by decide +kernel) (by decide +kernel)) (goodIn_sub (fun _ h => List.mem_cons_of_mem _ (List.mem_append_left _ (List.mem_append_left _ (List.mem_append_right _ h)))) (by decide +kernel))) (goodIn_sub (fun _ h => List.mem_cons_of_mem _ (List.mem_append_left _ (List.mem_append_right _ h))) (by decide +kernel))
set_option maxRecDepth 20000 in
theorem gL_acts_L_setBatch : GoodIn wsL_acts (va_wsS RL 152 yL_setBatch wsL_setBatch) := goodIn_app (goodIn_of _ (by decide +kernel)) ggL_acts_L_setBatch
set_option maxRecDepth 20000 in
theorem ggL_acts_L_setRetries : GoodIn wsL_acts wsL_setRetries := goodIn_ca (goodIn_r _ [153, 29, 30, 154, 155, 156, 16, 157, 158, 159, 47, 48, 49, 50, 51, 52, 53, 54, 55, 56, 57, 58, 59, 60, 61, 62, 63, 64, 25, 18, 65, 66, 67, 68, 69, 70, 71, 72, 73, 74, 75, 76, 77, 78, 79, 80, 81, 82, 83, 84, 85, 86, 87, 88, 36, 89, 90, 91, 92, 93, 46, 37, 94, 95, 96, 97, 98, 99, 100, 101, 102, 103, 104, 105, 106, 107, 108, 109, 110, 111, 112, 113, 114, 115, 116, 117, 118, 119, 120, 121, 262, 263, 264, 265, 266, 267, 268, 269, 270, 252, 253, 254, 255, 256, 257, 258, 259, 260, 261, 271, 272, 273, 274, 275, 276, 277, 278, 279, 280, 281] (by decide +kernel) (by decide +kernel)) (goodIn_sub (fun _ h => List.mem_cons_of_mem _ (List.mem_append_left _ (List.mem_append_right _ h))) (by decide +kernel))
set_option maxRecDepth 20000 in
theorem gL_acts_L_setRetries : GoodIn wsL_acts (va_wsS RL 154 yL_setRetries wsL_setRetries) := goodIn_app (goodIn_of _ (by decide +kernel)) ggL_acts_L_setRetries
set_option maxRecDepth 20000 in
theorem ggL_acts_L_failuresOf : GoodIn wsL_acts wsL_failuresOf := goodIn_ca (goodIn_r _ [162, 12, 2, 163, 164, 165, 16, 166, 167, 19, 20, 21, 22, 23, 24, 25, 252, 253, 254, 255, 256, 257, 258, 259, 260, 261, 262, 263, 264, 265, 266, 267, 268, 269, 270] (by decide +kernel) (by decide +kernel)) (goodIn_sub (fun _ h => List.mem_cons_of_mem _ (List.mem_append_left _ (List.mem_append_left _ (List.mem_append_right _ h)))) (by decide +kernel))
set_option maxRecDepth 20000 in
theorem gL_acts_L_failuresOf : GoodIn wsL_acts (va_wsS RL 122 yL_failuresOf wsL_failuresOf) := goodIn_app (goodIn_of _ (by decide +kernel)) ggL_acts_L_failuresOf
set_option maxRecDepth 20000 in
theorem ggL_acts_L_report : GoodIn wsL_acts wsL_report := goodIn_ca (goodIn_ca (goodIn_r _ [170, 12, 29, 2, 30, 171, 172, 173, 16, 174, 23, 24, 65, 175, 176, 177, 18, 19, 20, 21, 22, 25, 147, 148, 149, 150, 56, 47, 48, 49, 50, 51, 178, 179, 180, 181, 81, 108, 109, 110, 111, 112, 113, 114, 115, 116, 117, 118, 119, 120, 121, 182, 183, 184, 185, 167, 159, 88, 158, 89, 186, 187, 188, 189, 190, 52, 53, 54, 55, 57, 58, 59, 60, 61, 62, 63, 64, 66, 67, 68, 69, 70, 71, 72, 73, 74, 75, 76, 77, 78, 79, 80, 82, 83, 84, 85, 86, 87, 36, 90, 91, 92, 93, 46, 37, 94, 95, 96, 97, 98, 99, 100, 101, 102, 103, 104, 105, 106, 107, 252, 253, 254, 255, 256, 257, 258, 259, 260, 261, 262, 263, 264, 265, 266, 267, 268, 269, 270, 279, 280, 281, 271, 272, 273, 274, 275, 276, 277, 278] (by decide +kernel) (by decide +kernel)) (goodIn_sub (fun _ h => List.mem_cons_of_mem _ (List.mem_append_left _ (List.mem_append_left _ (List.mem_append_right _ h)))) (by decide +kernel))) (goodIn_sub (fun _ h => List.mem_cons_of_mem _ (List.mem_append_left _ (List.mem_append_right _ h))) (by decide +kernel))
set_option maxRecDepth 20000 in
theorem gL_acts_L_report : GoodIn wsL_acts (va_wsS RL 156 yL_report wsL_report) := goodIn_app (goodIn_of _ (by decide +kernel)) ggL_acts_L_report
set_option maxRecDepth 20000 in
theorem ggL_acts_L_match : GoodIn wsL_acts wsL_match := goodIn_ca (goodIn_r _ [193, 9, 10, 6, 11, 12, 2, 13, 14, 15, 16, 17, 18, 19, 20, 21, 22, 23, 24, 25, 252, 253, 254, 255, 256, 257, 258, 259, 260, 261, 262, 263, 264, 265, 266, 267, 268, 269, 270] (by decide +kernel) (by decide +kernel)) (goodIn_sub (fun _ h => List.mem_cons_of_mem _ (List.mem_append_left _ (List.mem_append_left _ (List.mem_append_right _ h)))) (by decide +kernel))
set_option maxRecDepth 20000 in
theorem gL_acts_L_match : GoodIn wsL_acts (va_wsS RL 131 yL_match wsL_match) := goodIn_app (goodIn_of _ (by decide +kernel)) ggL_acts_L_match
set_option maxRecDepth 20000 in
theorem ggL_acts_L_order : GoodIn wsL_acts wsL_order := goodIn_ca (goodIn_ca (goodIn_r _ [196, 12, 197, 2, 3, 198, 199, 200, 16, 201, 202, 203, 18, 19, 20, 21, 22, 23, 24, 25, 90, 91, 92, 93, 46, 37, 94, 95, 96, 97, 98, 99, 100, 101, 102, 103, 104, 105, 106, 107, 204, 205, 206, 207, 81, 186, 187, 188, 189, 190, 108, 109, 110, 111, 112, 113, 114, 115, 116, 117, 118, 119, 120, 121, 52, 53, 54, 55, 56, 57, 58, 59, 60, 61, 62, 63, 64, 65, 66, 67, 68, 69, 70, 71, 72, 73, 74, 75, 76, 77, 78, 79, 80, 82, 83, 84, 85, 86, 87, 88, 36, 89, 252, 253, 254, 255, 256, 257, 258, 259, 260, 261, 262, 263, 264, 265, 266, 267, 268, 269, 270, 271, 272, 273, 274, 275, 276, 277, 278, 279, 280, 281] (by decide +kernel) (by decide +kernel)) (goodIn_sub (fun _ h => List.mem_cons_of_mem _ (List.mem_append_right _ h)) (by decide +kernel))) (goodIn_sub (fun _ h => List.mem_cons_of_mem _ (List.mem_append_left _ (List.mem_append_left _ (List.mem_append_right _ h)))) (by decide +kernel))
set_option maxRecDepth 20000 in
theorem gL_acts_L_order : GoodIn wsL_acts (va_wsS RL 159 yL_order wsL_order) := goodIn_app (goodIn_of _ (by decide +kernel)) ggL_acts_L_order
set_option maxRecDepth 20000 in
theorem ggL_acts_L_cancel : GoodIn wsL_acts wsL_cancel := goodIn_ca (goodIn_ca (goodIn_r _ [210, 12, 197, 2, 3, 211, 212, 213, 16, 214, 202, 203, 18, 19, 20, 21, 22, 23, 24, 25, 108, 109, 110, 111, 112, 113, 114, 115, 116, 117, 118, 119, 120, 121, 52, 53, 54, 55, 56, 57, 58, 59, 60, 61, 62, 63, 64, 65, 66, 67, 68, 69, 70, 71, 72, 73, 74, 75, 76, 77, 78, 79, 80, 81, 82, 83, 84, 85, 86, 87, 88, 36, 89, 90, 91, 92, 93, 46, 37, 94, 95, 96, 97, 98, 99, 100, 101, 102, 103, 104, 105, 106, 107, 252, 253, 254, 255, 256, 257, 258, 259, 260, 261, 262, 263, 264, 265, 266, 267, 268, 269, 270, 279, 280, 281, 271, 272, 273, 274, 275, 276, 277, 278] (by decide +kernel) (by decide +kernel)) (goodIn_sub (fun _ h => List.mem_cons_of_mem _ (List.mem_append_right _ h)) (by decide +kernel))) (goodIn_sub (fun _ h => List.mem_cons_of_mem _ (List.mem_append_left _ (List.mem_append_left _ (List.mem_append_right _ h)))) (by decide +kernel))
set_option maxRecDepth 20000 in
theorem gL_acts_L_cancel : GoodIn wsL_acts (va_wsS RL 161 yL_cancel wsL_cancel) := goodIn_app (goodIn_of _ (by decide +kernel)) ggL_acts_L_cancel
set_option maxRecDepth 20000 in
theorem ggL_acts_L_finish : GoodIn wsL_acts wsL_finish := goodIn_ca (goodIn_ca (goodIn_r _ [217, 12, 197, 2, 3, 218, 219, 220, 16, 221, 202, 203, 18, 167, 19, 20, 21, 22, 23, 24, 25, 108, 109, 110, 111, 112, 113, 114, 115, 116, 117, 118, 119, 120, 121, 182, 183, 184, 185, 159, 88, 158, 89, 52, 53, 54, 55, 56, 57, 58, 59, 60, 61, 62, 63, 64, 65, 66, 67, 68, 69, 70, 71, 72, 73, 74, 75, 76, 77, 78, 79, 80, 81, 82, 83, 84, 85, 86, 87, 36, 90, 91, 92, 93, 46, 37, 94, 95, 96, 97, 98, 99, 100, 101, 102, 103, 104, 105, 106, 107, 252, 253, 254, 255, 256, 257, 258, 259, 260, 261, 262, 263, 264, 265, 266, 267, 268, 269, 270, 279, 280, 281, 271, 272, 273, 274, 275, 276, 277, 278] (by decide +kernel) (by decide +kernel)) (goodIn_sub (fun _ h => List.mem_cons_of_mem _ (List.mem_append_right _ h)) (by decide +kernel))) (goodIn_sub (fun _ h => List.mem_cons_of_mem _ (List.mem_append_left _ (List.mem_append_left _ (List.mem_append_right _ h)))) (by decide +kernel))
set_option maxRecDepth 20000 in
theorem gL_acts_L_finish : GoodIn wsL_acts (va_wsS RL 163 yL_finish wsL_finish) := goodIn_app (goodIn_of _ (by decide +kernel)) ggL_acts_L_finish
set_option maxRecDepth 20000 in
theorem ggL_acts_X3_wipes : GoodIn wsL_acts wsX3_wipes := goodIn_r _ [225, 226, 262, 263, 264, 265, 266, 267, 268, 269, 270] (by decide +kernel) (by decide +kernel)
set_option maxRecDepth 20000 in
theorem gL_acts_X3_wipes : GoodIn wsL_acts (wsV RL 103 RX3 yX3_wipes wsX3_wipes) := goodIn_app (goodIn_of _ (by decide +kernel)) ggL_acts_X3_wipes
set_option maxRecDepth 20000 in
theorem ggL_acts_L_retire : GoodIn wsL_acts wsL_retire := goodIn_ca (goodIn_ca (goodIn_ca (goodIn_r _ [229, 12, 29, 197, 2, 30, 3, 230, 231, 232, 16, 233, 202, 203, 18, 88, 89, 19, 20, 21, 22, 23, 24, 25, 47, 48, 49, 50, 51, 234, 235, 236, 237, 226, 108, 109, 110, 111, 112, 113, 114, 115, 116, 117, 118, 119, 120, 121, 52, 53, 54, 55, 56, 57, 58, 59, 60, 61, 62, 63, 64, 65, 66, 67, 68, 69, 70, 71, 72, 73, 74, 75, 76, 77, 78, 79, 80, 81, 82, 83, 84, 85, 86, 87, 36, 90, 91, 92, 93, 46, 37, 94, 95, 96, 97, 98, 99, 100, 101, 102, 103, 104, 105, 106, 107, 252, 253, 254, 255, 256, 257, 258, 259, 260, 261, 262, 263, 264, 265, 266, 267, 268, 269, 270, 279, 280, 281, 271, 272, 273, 274, 275, 276, 277, 278] (by decide +kernel) (by decide +kernel)) (goodIn_sub (fun _ h => List.mem_cons_of_mem _ (List.mem_append_right _ h)) (by decide +kernel))) (goodIn_sub (fun _ h => List.mem_cons_of_mem _ (List.mem_append_left _ (List.mem_append_left _ (List.mem_append_right _ h)))) (by decide +kernel))) (goodIn_sub (fun _ h => List.mem_cons_of_mem _ (List.mem_append_left _ (List.mem_append_right _ h))) (by decide +kernel))
set_option maxRecDepth 20000 in
theorem gL_acts_L_retire : GoodIn wsL_acts (va_wsS RL 166 yL_retire wsL_retire) := goodIn_app (goodIn_of _ (by decide +kernel)) ggL_acts_L_retire
set_option maxRecDepth 20000 in
theorem ggL_acts_L_keep : GoodIn wsL_acts wsL_keep := goodIn_ca (goodIn_ca (goodIn_r _ [240, 12, 197, 2, 3, 241, 242, 243, 16, 244, 202, 203, 18, 19, 20, 21, 22, 23, 24, 25, 108, 109, 110, 111, 112, 113, 114, 115, 116, 117, 118, 119, 120, 121, 52, 53, 54, 55, 56, 57, 58, 59, 60, 61, 62, 63, 64, 65, 66, 67, 68, 69, 70, 71, 72, 73, 74, 75, 76, 77, 78, 79, 80, 81, 82, 83, 84, 85, 86, 87, 88, 36, 89, 90, 91, 92, 93, 46, 37, 94, 95, 96, 97, 98, 99, 100, 101, 102, 103, 104, 105, 106, 107, 252, 253, 254, 255, 256, 257, 258, 259, 260, 261, 262, 263, 264, 265, 266, 267, 268, 269, 270, 279, 280, 281, 271, 272, 273, 274, 275, 276, 277, 278] (by decide +kernel) (by decide +kernel)) (goodIn_sub (fun _ h => List.mem_cons_of_mem _ (List.mem_append_right _ h)) (by decide +kernel))) (goodIn_sub (fun _ h => List.mem_cons_of_mem _ (List.mem_append_left _ (List.mem_append_left _ (List.mem_append_right _ h)))) (by decide +kernel))
set_option maxRecDepth 20000 in
theorem gL_acts_L_keep : GoodIn wsL_acts (va_wsS RL 168 yL_keep wsL_keep) := goodIn_app (goodIn_of _ (by decide +kernel)) ggL_acts_L_keep
set_option maxRecDepth 20000 in
theorem ggL_acts_L_release : GoodIn wsL_acts wsL_release := goodIn_ca (goodIn_ca (goodIn_r _ [247, 12, 197, 2, 3, 248, 249, 250, 16, 251, 202, 203, 18, 167, 19, 20, 21, 22, 23, 24, 25, 108, 109, 110, 111, 112, 113, 114, 115, 116, 117, 118, 119, 120, 121, 52, 53, 54, 55, 56, 57, 58, 59, 60, 61, 62, 63, 64, 65, 66, 67, 68, 69, 70, 71, 72, 73, 74, 75, 76, 77, 78, 79, 80, 81, 82, 83, 84, 85, 86, 87, 88, 36, 89, 90, 91, 92, 93, 46, 37, 94, 95, 96, 97, 98, 99, 100, 101, 102, 103, 104, 105, 106, 107, 252, 253, 254, 255, 256, 257, 258, 259, 260, 261, 262, 263, 264, 265, 266, 267, 268, 269, 270, 279, 280, 281, 271, 272, 273, 274, 275, 276, 277, 278] (by decide +kernel) (by decide +kernel)) (goodIn_sub (fun _ h => List.mem_cons_of_mem _ (List.mem_append_right _ h)) (by decide +kernel))) (goodIn_sub (fun _ h => List.mem_cons_of_mem _ (List.mem_append_left _ (List.mem_append_left _ (List.mem_append_right _ h)))) (by decide +kernel))
set_option maxRecDepth 20000 in
theorem gL_acts_L_release : GoodIn wsL_acts (va_wsS RL 170 yL_release wsL_release) := goodIn_app (goodIn_of _ (by decide +kernel)) ggL_acts_L_release
