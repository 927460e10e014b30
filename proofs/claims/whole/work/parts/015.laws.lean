theorem dL_setImage_0 : decode cL_setImage 0 = .ok (.aload_n 0, 1) := by decide +kernel
theorem dL_setImage_1 : decode cL_setImage 1 = .ok (.iload_n 1, 1) := by decide +kernel
theorem dL_setImage_2 : decode cL_setImage 2 = .ok (.iload_n 2, 1) := by decide +kernel
theorem dL_setImage_3 : decode cL_setImage 3 = .ok (.iload_n 3, 1) := by decide +kernel
theorem dL_setImage_4 : decode cL_setImage 4 = .ok (.iload 4, 2) := by decide +kernel
theorem dL_setImage_6 : decode cL_setImage 6 = .ok (.iload 5, 2) := by decide +kernel
theorem dL_setImage_8 : decode cL_setImage 8 = .ok (.iload 6, 2) := by decide +kernel
theorem dL_setImage_10 : decode cL_setImage 10 = .ok (.invokevirtual 7, 3) := by decide +kernel
theorem dL_setImage_13 : decode cL_setImage 13 = .ok (.goto 11, 3) := by decide +kernel
theorem dL_setImage_16 : decode cL_setImage 16 = .ok (.astore 7, 2) := by decide +kernel
theorem dL_setImage_18 : decode cL_setImage 18 = .ok (.iconst 1, 1) := by decide +kernel
theorem dL_setImage_19 : decode cL_setImage 19 = .ok (.ireturn, 1) := by decide +kernel
theorem dL_setImage_20 : decode cL_setImage 20 = .ok (.astore 7, 2) := by decide +kernel
theorem dL_setImage_22 : decode cL_setImage 22 = .ok (.iconst 2, 1) := by decide +kernel
theorem dL_setImage_23 : decode cL_setImage 23 = .ok (.ireturn, 1) := by decide +kernel
theorem dL_setImage_24 : decode cL_setImage 24 = .ok (.iconst 0, 1) := by decide +kernel
theorem dL_setImage_25 : decode cL_setImage 25 = .ok (.ireturn, 1) := by decide +kernel
set_option maxRecDepth 20000 in
theorem ggL_setTime_X3_setTime : GoodIn wsL_setTime wsX3_setTime := goodIn_ca (goodIn_ca (goodIn_r _ [7, 8, 9, 10, 11, 6, 12, 13, 14, 15, 16, 17, 18, 19, 20, 21, 22, 23, 24, 25, 26, 27, 28, 29, 30, 31, 32, 33, 34, 35, 36, 37, 38, 39, 40, 41, 42, 43, 44, 45, 46, 47, 48, 49, 50, 51, 52, 53, 54, 55, 56, 57, 58, 59, 60, 61, 62, 63, 64, 65, 66, 67, 68, 69, 70, 71, 72, 73, 74, 75, 76, 77, 78, 79, 80, 81, 82, 83, 84, 85, 86, 87, 88, 89, 90, 91, 92, 93, 94, 95, 96, 97, 98, 99, 100, 101, 102, 103, 104, 105, 106, 107, 108, 109, 110, 111, 112, 113, 114, 115, 116, 117, 118, 119, 120, 121, 122, 123, 124, 125, 126, 127, 128] (by decide +kernel) (by decide +kernel)) (goodIn_sub (fun _ h => List.mem_cons_of_mem _ (List.mem_append_left _ (List.mem_append_right _ h))) (by decide +kernel))) (goodIn_sub (fun _ h => List.mem_cons_of_mem _ (List.mem_append_right _ h)) (by decide +kernel))
set_option maxRecDepth 20000 in
theorem gL_setTime_X3_setTime : GoodIn wsL_setTime (wsV RL 17 RX3 yX3_setTime wsX3_setTime) := goodIn_app (goodIn_of _ (by decide +kernel)) ggL_setTime_X3_setTime
theorem dL_setTime_0 : decode cL_setTime 0 = .ok (.aload_n 3, 1) := by decide +kernel
theorem dL_setTime_1 : decode cL_setTime 1 = .ok (.iconst 0, 1) := by decide +kernel
theorem dL_setTime_2 : decode cL_setTime 2 = .ok (.aload_n 0, 1) := by decide +kernel
theorem dL_setTime_3 : decode cL_setTime 3 = .ok (.iload_n 1, 1) := by decide +kernel
theorem dL_setTime_4 : decode cL_setTime 4 = .ok (.iload_n 2, 1) := by decide +kernel
theorem dL_setTime_5 : decode cL_setTime 5 = .ok (.invokevirtual 17, 3) := by decide +kernel
theorem dL_setTime_8 : decode cL_setTime 8 = .ok (.i2l, 1) := by decide +kernel
theorem dL_setTime_9 : decode cL_setTime 9 = .ok (.lastore, 1) := by decide +kernel
theorem dL_setTime_10 : decode cL_setTime 10 = .ok (.goto 11, 3) := by decide +kernel
theorem dL_setTime_13 : decode cL_setTime 13 = .ok (.astore 4, 2) := by decide +kernel
theorem dL_setTime_15 : decode cL_setTime 15 = .ok (.iconst 1, 1) := by decide +kernel
theorem dL_setTime_16 : decode cL_setTime 16 = .ok (.ireturn, 1) := by decide +kernel
theorem dL_setTime_17 : decode cL_setTime 17 = .ok (.astore 4, 2) := by decide +kernel
theorem dL_setTime_19 : decode cL_setTime 19 = .ok (.iconst 2, 1) := by decide +kernel
theorem dL_setTime_20 : decode cL_setTime 20 = .ok (.ireturn, 1) := by decide +kernel
theorem dL_setTime_21 : decode cL_setTime 21 = .ok (.iconst 0, 1) := by decide +kernel
theorem dL_setTime_22 : decode cL_setTime 22 = .ok (.ireturn, 1) := by decide +kernel
set_option maxRecDepth 20000 in
theorem ggL_dropImage_X3_dropImage : GoodIn wsL_dropImage wsX3_dropImage := goodIn_ca (goodIn_r _ [6, 7, 8, 9, 10, 5, 11, 12, 13, 14, 15, 16, 17, 18, 19, 20, 21, 22, 23, 24, 25, 26, 27, 28, 29, 30, 31, 32, 33, 34, 35, 36, 37, 38, 39, 40, 41, 42, 43, 44, 45, 46, 47, 48, 49, 50, 51, 52, 53, 54, 55, 56, 57, 58, 59, 60, 61, 62, 63, 64, 65, 66, 67, 68, 69, 70, 71, 72, 73, 74, 75, 76, 77, 78, 79, 80, 81, 82, 83, 84, 85, 86, 87, 88, 89, 90, 91, 92, 93, 94, 95, 96, 97, 98, 99, 100, 101, 102, 103, 104, 105, 106, 107, 108, 109, 110, 111, 112, 113, 114, 115, 116, 117, 118, 119, 120, 121, 122] (by decide +kernel) (by decide +kernel)) (goodIn_sub (fun _ h => List.mem_cons_of_mem _ (List.mem_append_right _ h)) (by decide +kernel))
set_option maxRecDepth 20000 in
theorem gL_dropImage_X3_dropImage : GoodIn wsL_dropImage (wsV RL 21 RX3 yX3_dropImage wsX3_dropImage) := goodIn_app (goodIn_of _ (by decide +kernel)) ggL_dropImage_X3_dropImage
theorem dL_dropImage_0 : decode cL_dropImage 0 = .ok (.aload_n 0, 1) := by decide +kernel
theorem dL_dropImage_1 : decode cL_dropImage 1 = .ok (.iload_n 1, 1) := by decide +kernel
theorem dL_dropImage_2 : decode cL_dropImage 2 = .ok (.invokevirtual 21, 3) := by decide +kernel
theorem dL_dropImage_5 : decode cL_dropImage 5 = .ok (.goto 6, 3) := by decide +kernel
theorem dL_dropImage_8 : decode cL_dropImage 8 = .ok (.astore_n 2, 1) := by decide +kernel
theorem dL_dropImage_9 : decode cL_dropImage 9 = .ok (.iconst 1, 1) := by decide +kernel
theorem dL_dropImage_10 : decode cL_dropImage 10 = .ok (.ireturn, 1) := by decide +kernel
theorem dL_dropImage_11 : decode cL_dropImage 11 = .ok (.iconst 0, 1) := by decide +kernel
theorem dL_dropImage_12 : decode cL_dropImage 12 = .ok (.ireturn, 1) := by decide +kernel
set_option maxRecDepth 20000 in
theorem ggL_setBatch_X3_setBatch : GoodIn wsL_setBatch wsX3_setBatch := goodIn_ca (goodIn_ca (goodIn_r _ [7, 8, 9, 10, 11, 12, 13, 6, 14, 15, 16, 17, 18, 19, 20, 21, 22, 23, 24, 25, 26, 27, 28, 29, 30, 31, 32, 33, 34, 35, 36, 37, 38, 39, 40, 41, 42, 43, 44, 45, 46, 47, 48, 49, 50, 51, 52, 53, 54, 55, 56, 57, 58, 59, 60, 61, 62, 63, 64, 65, 66, 67, 68, 69, 70, 71, 72, 73, 74, 75, 76, 77, 78, 79, 80, 81, 82, 83, 84, 85, 86, 87, 88, 89, 90, 91, 92, 93, 94, 95, 96, 97, 98, 99, 100, 101, 102, 103, 104, 105, 106, 107, 108, 109, 110, 111, 112, 113, 114, 115, 116, 117, 118, 119, 120, 121, 122, 123] (by decide +kernel) (by decide +kernel)) (goodIn_sub (fun _ h => List.mem_cons_of_mem _ (List.mem_append_left _ (List.mem_append_right _ h))) (by decide +kernel))) (goodIn_sub (fun _ h => List.mem_cons_of_mem _ (List.mem_append_right _ h)) (by decide +kernel))
set_option maxRecDepth 20000 in
theorem gL_setBatch_X3_setBatch : GoodIn wsL_setBatch (wsV RL 25 RX3 yX3_setBatch wsX3_setBatch) := goodIn_app (goodIn_of _ (by decide +kernel)) ggL_setBatch_X3_setBatch
theorem dL_setBatch_0 : decode cL_setBatch 0 = .ok (.aload_n 3, 1) := by decide +kernel
theorem dL_setBatch_1 : decode cL_setBatch 1 = .ok (.iconst 0, 1) := by decide +kernel
theorem dL_setBatch_2 : decode cL_setBatch 2 = .ok (.aload_n 0, 1) := by decide +kernel
theorem dL_setBatch_3 : decode cL_setBatch 3 = .ok (.iload_n 1, 1) := by decide +kernel
theorem dL_setBatch_4 : decode cL_setBatch 4 = .ok (.iload_n 2, 1) := by decide +kernel
theorem dL_setBatch_5 : decode cL_setBatch 5 = .ok (.invokevirtual 25, 3) := by decide +kernel
theorem dL_setBatch_8 : decode cL_setBatch 8 = .ok (.i2l, 1) := by decide +kernel
theorem dL_setBatch_9 : decode cL_setBatch 9 = .ok (.lastore, 1) := by decide +kernel
theorem dL_setBatch_10 : decode cL_setBatch 10 = .ok (.goto 11, 3) := by decide +kernel
theorem dL_setBatch_13 : decode cL_setBatch 13 = .ok (.astore 4, 2) := by decide +kernel
theorem dL_setBatch_15 : decode cL_setBatch 15 = .ok (.iconst 1, 1) := by decide +kernel
theorem dL_setBatch_16 : decode cL_setBatch 16 = .ok (.ireturn, 1) := by decide +kernel
theorem dL_setBatch_17 : decode cL_setBatch 17 = .ok (.astore 4, 2) := by decide +kernel
theorem dL_setBatch_19 : decode cL_setBatch 19 = .ok (.iconst 2, 1) := by decide +kernel
theorem dL_setBatch_20 : decode cL_setBatch 20 = .ok (.ireturn, 1) := by decide +kernel
theorem dL_setBatch_21 : decode cL_setBatch 21 = .ok (.iconst 0, 1) := by decide +kernel
theorem dL_setBatch_22 : decode cL_setBatch 22 = .ok (.ireturn, 1) := by decide +kernel
set_option maxRecDepth 20000 in
theorem ggL_setRetries_X3_setRetries : GoodIn wsL_setRetries wsX3_setRetries := goodIn_ca (goodIn_r _ [6, 7, 8, 9, 10, 5, 11, 12, 13, 14, 15, 16, 17, 18, 19, 20, 21, 22, 23, 24, 25, 26, 27, 28, 29, 30, 31, 32, 33, 34, 35, 36, 37, 38, 39, 40, 41, 42, 43, 44, 45, 46, 47, 48, 49, 50, 51, 52, 53, 54, 55, 56, 57, 58, 59, 60, 61, 62, 63, 64, 65, 66, 67, 68, 69, 70, 71, 72, 73, 74, 75, 76, 77, 78, 79, 80, 81, 82, 83, 84, 85, 86, 87, 88, 89, 90, 91, 92, 93, 94, 95, 96, 97, 98, 99, 100, 101, 102, 103, 104, 105, 106, 107, 108, 109, 110, 111, 112, 113, 114, 115, 116, 117, 118] (by decide +kernel) (by decide +kernel)) (goodIn_sub (fun _ h => List.mem_cons_of_mem _ (List.mem_append_right _ h)) (by decide +kernel))
set_option maxRecDepth 20000 in
theorem gL_setRetries_X3_setRetries : GoodIn wsL_setRetries (wsV RL 28 RX3 yX3_setRetries wsX3_setRetries) := goodIn_app (goodIn_of _ (by decide +kernel)) ggL_setRetries_X3_setRetries
theorem dL_setRetries_0 : decode cL_setRetries 0 = .ok (.aload_n 0, 1) := by decide +kernel
theorem dL_setRetries_1 : decode cL_setRetries 1 = .ok (.iload_n 1, 1) := by decide +kernel
theorem dL_setRetries_2 : decode cL_setRetries 2 = .ok (.iload_n 2, 1) := by decide +kernel
theorem dL_setRetries_3 : decode cL_setRetries 3 = .ok (.invokevirtual 28, 3) := by decide +kernel
theorem dL_setRetries_6 : decode cL_setRetries 6 = .ok (.goto 6, 3) := by decide +kernel
theorem dL_setRetries_9 : decode cL_setRetries 9 = .ok (.astore_n 3, 1) := by decide +kernel
theorem dL_setRetries_10 : decode cL_setRetries 10 = .ok (.iconst 1, 1) := by decide +kernel
theorem dL_setRetries_11 : decode cL_setRetries 11 = .ok (.ireturn, 1) := by decide +kernel
theorem dL_setRetries_12 : decode cL_setRetries 12 = .ok (.iconst 0, 1) := by decide +kernel
theorem dL_setRetries_13 : decode cL_setRetries 13 = .ok (.ireturn, 1) := by decide +kernel
set_option maxRecDepth 20000 in
theorem ggL_report_X3_report : GoodIn wsL_report wsX3_report := goodIn_ca (goodIn_ca (goodIn_r _ [7, 8, 9, 10, 11, 12, 13, 14, 15, 16, 17, 6, 18, 19, 20, 21, 22, 23, 24, 25, 26, 27, 28, 29, 30, 31, 32, 33, 34, 35, 36, 37, 38, 39, 40, 41, 42, 43, 44, 45, 46, 47, 48, 49, 50, 51, 52, 53, 54, 55, 56, 57, 58, 59, 60, 61, 62, 63, 64, 65, 66, 67, 68, 69, 70, 71, 72, 73, 74, 75, 76, 77, 78, 79, 80, 81, 82, 83, 84, 85, 86, 87, 88, 89, 90, 91, 92, 93, 94, 95, 96, 97, 98, 99, 100, 101, 102, 103, 104, 105, 106, 107, 108, 109, 110, 111, 112, 113, 114, 115, 116, 117, 118, 119, 120, 121, 122, 123, 124, 125, 126, 127, 128, 129, 130, 131, 132, 133, 134, 135, 136, 137, 138, 139, 140, 141, 142, 143, 144, 145, 146] (by decide +kernel) (by decide +kernel)) (goodIn_sub (fun _ h => List.mem_cons_of_mem _ (List.mem_append_left _ (List.mem_append_right _ h))) (by decide +kernel))) (goodIn_sub (fun _ h => List.mem_cons_of_mem _ (List.mem_append_right _ h)) (by decide +kernel))
set_option maxRecDepth 20000 in
theorem gL_report_X3_report : GoodIn wsL_report (wsV RL 32 RX3 yX3_report wsX3_report) := goodIn_app (goodIn_of _ (by decide +kernel)) ggL_report_X3_report
theorem dL_report_0 : decode cL_report 0 = .ok (.aload 6, 2) := by decide +kernel
theorem dL_report_2 : decode cL_report 2 = .ok (.iconst 0, 1) := by decide +kernel
theorem dL_report_3 : decode cL_report 3 = .ok (.aload_n 0, 1) := by decide +kernel
theorem dL_report_4 : decode cL_report 4 = .ok (.iload_n 1, 1) := by decide +kernel
theorem dL_report_5 : decode cL_report 5 = .ok (.iload_n 2, 1) := by decide +kernel
theorem dL_report_6 : decode cL_report 6 = .ok (.iload_n 3, 1) := by decide +kernel
theorem dL_report_7 : decode cL_report 7 = .ok (.iload 4, 2) := by decide +kernel
theorem dL_report_9 : decode cL_report 9 = .ok (.iload 5, 2) := by decide +kernel
theorem dL_report_11 : decode cL_report 11 = .ok (.invokevirtual 32, 3) := by decide +kernel
theorem dL_report_14 : decode cL_report 14 = .ok (.i2l, 1) := by decide +kernel
theorem dL_report_15 : decode cL_report 15 = .ok (.lastore, 1) := by decide +kernel
theorem dL_report_16 : decode cL_report 16 = .ok (.goto 11, 3) := by decide +kernel
theorem dL_report_19 : decode cL_report 19 = .ok (.astore 7, 2) := by decide +kernel
theorem dL_report_21 : decode cL_report 21 = .ok (.iconst 1, 1) := by decide +kernel
theorem dL_report_22 : decode cL_report 22 = .ok (.ireturn, 1) := by decide +kernel
theorem dL_report_23 : decode cL_report 23 = .ok (.astore 7, 2) := by decide +kernel
theorem dL_report_25 : decode cL_report 25 = .ok (.iconst 2, 1) := by decide +kernel
theorem dL_report_26 : decode cL_report 26 = .ok (.ireturn, 1) := by decide +kernel
theorem dL_report_27 : decode cL_report 27 = .ok (.iconst 0, 1) := by decide +kernel
theorem dL_report_28 : decode cL_report 28 = .ok (.ireturn, 1) := by decide +kernel
set_option maxRecDepth 20000 in
theorem ggL_order_X3_order : GoodIn wsL_order wsX3_order := goodIn_ca (goodIn_ca (goodIn_r _ [7, 8, 9, 10, 11, 12, 13, 6, 14, 15, 16, 17, 18, 19, 20, 21, 22, 23, 24, 25, 26, 27, 28, 29, 30, 31, 32, 33, 34, 35, 36, 37, 38, 39, 40, 41, 42, 43, 44, 45, 46, 47, 48, 49, 50, 51, 52, 53, 54, 55, 56, 57, 58, 59, 60, 61, 62, 63, 64, 65, 66, 67, 68, 69, 70, 71, 72, 73, 74, 75, 76, 77, 78, 79, 80, 81, 82, 83, 84, 85, 86, 87, 88, 89, 90, 91, 92, 93, 94, 95, 96, 97, 98, 99, 100, 101, 102, 103, 104, 105, 106, 107, 108, 109, 110, 111, 112, 113, 114, 115, 116, 117, 118, 119, 120, 121, 122, 123, 124, 125, 126, 127, 128, 129] (by decide +kernel) (by decide +kernel)) (goodIn_sub (fun _ h => List.mem_cons_of_mem _ (List.mem_append_left _ (List.mem_append_right _ h))) (by decide +kernel))) (goodIn_sub (fun _ h => List.mem_cons_of_mem _ (List.mem_append_right _ h)) (by decide +kernel))
set_option maxRecDepth 20000 in
theorem gL_order_X3_order : GoodIn wsL_order (wsV RL 36 RX3 yX3_order wsX3_order) := goodIn_app (goodIn_of _ (by decide +kernel)) ggL_order_X3_order
theorem dL_order_0 : decode cL_order 0 = .ok (.aload_n 2, 1) := by decide +kernel
theorem dL_order_1 : decode cL_order 1 = .ok (.iconst 0, 1) := by decide +kernel
theorem dL_order_2 : decode cL_order 2 = .ok (.aload_n 0, 1) := by decide +kernel
theorem dL_order_3 : decode cL_order 3 = .ok (.iload_n 1, 1) := by decide +kernel
theorem dL_order_4 : decode cL_order 4 = .ok (.invokevirtual 36, 3) := by decide +kernel
theorem dL_order_7 : decode cL_order 7 = .ok (.i2l, 1) := by decide +kernel
theorem dL_order_8 : decode cL_order 8 = .ok (.lastore, 1) := by decide +kernel
theorem dL_order_9 : decode cL_order 9 = .ok (.goto 9, 3) := by decide +kernel
theorem dL_order_12 : decode cL_order 12 = .ok (.astore_n 3, 1) := by decide +kernel
theorem dL_order_13 : decode cL_order 13 = .ok (.iconst 1, 1) := by decide +kernel
theorem dL_order_14 : decode cL_order 14 = .ok (.ireturn, 1) := by decide +kernel
theorem dL_order_15 : decode cL_order 15 = .ok (.astore_n 3, 1) := by decide +kernel
theorem dL_order_16 : decode cL_order 16 = .ok (.iconst 2, 1) := by decide +kernel
theorem dL_order_17 : decode cL_order 17 = .ok (.ireturn, 1) := by decide +kernel
theorem dL_order_18 : decode cL_order 18 = .ok (.iconst 0, 1) := by decide +kernel
theorem dL_order_19 : decode cL_order 19 = .ok (.ireturn, 1) := by decide +kernel
set_option maxRecDepth 20000 in
theorem ggL_cancel_X3_cancel : GoodIn wsL_cancel wsX3_cancel := goodIn_ca (goodIn_ca (goodIn_r _ [7, 8, 9, 10, 11, 12, 13, 6, 14, 15, 16, 17, 18, 19, 20, 21, 22, 23, 24, 25, 26, 27, 28, 29, 30, 31, 32, 33, 34, 35, 36, 37, 38, 39, 40, 41, 42, 43, 44, 45, 46, 47, 48, 49, 50, 51, 52, 53, 54, 55, 56, 57, 58, 59, 60, 61, 62, 63, 64, 65, 66, 67, 68, 69, 70, 71, 72, 73, 74, 75, 76, 77, 78, 79, 80, 81, 82, 83, 84, 85, 86, 87, 88, 89, 90, 91, 92, 93, 94, 95, 96, 97, 98, 99, 100, 101, 102, 103, 104, 105, 106, 107, 108, 109, 110, 111, 112, 113, 114, 115, 116, 117, 118, 119, 120] (by decide +kernel) (by decide +kernel)) (goodIn_sub (fun _ h => List.mem_cons_of_mem _ (List.mem_append_left _ (List.mem_append_right _ h))) (by decide +kernel))) (goodIn_sub (fun _ h => List.mem_cons_of_mem _ (List.mem_append_right _ h)) (by decide +kernel))
set_option maxRecDepth 20000 in
theorem gL_cancel_X3_cancel : GoodIn wsL_cancel (wsV RL 42 RX3 yX3_cancel wsX3_cancel) := goodIn_app (goodIn_of _ (by decide +kernel)) ggL_cancel_X3_cancel
theorem dL_cancel_0 : decode cL_cancel 0 = .ok (.aload_n 0, 1) := by decide +kernel
theorem dL_cancel_1 : decode cL_cancel 1 = .ok (.iload_n 1, 1) := by decide +kernel
theorem dL_cancel_2 : decode cL_cancel 2 = .ok (.invokevirtual 42, 3) := by decide +kernel
theorem dL_cancel_5 : decode cL_cancel 5 = .ok (.goto 9, 3) := by decide +kernel
theorem dL_cancel_8 : decode cL_cancel 8 = .ok (.astore_n 2, 1) := by decide +kernel
theorem dL_cancel_9 : decode cL_cancel 9 = .ok (.iconst 1, 1) := by decide +kernel
theorem dL_cancel_10 : decode cL_cancel 10 = .ok (.ireturn, 1) := by decide +kernel
theorem dL_cancel_11 : decode cL_cancel 11 = .ok (.astore_n 2, 1) := by decide +kernel
theorem dL_cancel_12 : decode cL_cancel 12 = .ok (.iconst 2, 1) := by decide +kernel
theorem dL_cancel_13 : decode cL_cancel 13 = .ok (.ireturn, 1) := by decide +kernel
theorem dL_cancel_14 : decode cL_cancel 14 = .ok (.iconst 0, 1) := by decide +kernel
theorem dL_cancel_15 : decode cL_cancel 15 = .ok (.ireturn, 1) := by decide +kernel
set_option maxRecDepth 20000 in
theorem ggL_finish_X3_finish : GoodIn wsL_finish wsX3_finish := goodIn_ca (goodIn_ca (goodIn_r _ [7, 8, 9, 10, 11, 12, 13, 14, 6, 15, 16, 17, 18, 19, 20, 21, 22, 23, 24, 25, 26, 27, 28, 29, 30, 31, 32, 33, 34, 35, 36, 37, 38, 39, 40, 41, 42, 43, 44, 45, 46, 47, 48, 49, 50, 51, 52, 53, 54, 55, 56, 57, 58, 59, 60, 61, 62, 63, 64, 65, 66, 67, 68, 69, 70, 71, 72, 73, 74, 75, 76, 77, 78, 79, 80, 81, 82, 83, 84, 85, 86, 87, 88, 89, 90, 91, 92, 93, 94, 95, 96, 97, 98, 99, 100, 101, 102, 103, 104, 105, 106, 107, 108, 109, 110, 111, 112, 113, 114, 115, 116, 117, 118, 119, 120, 121, 122, 123, 124, 125, 126, 127] (by decide +kernel) (by decide +kernel)) (goodIn_sub (fun _ h => List.mem_cons_of_mem _ (List.mem_append_left _ (List.mem_append_right _ h))) (by decide +kernel))) (goodIn_sub (fun _ h => List.mem_cons_of_mem _ (List.mem_append_right _ h)) (by decide +kernel))
set_option maxRecDepth 20000 in
theorem gL_finish_X3_finish : GoodIn wsL_finish (wsV RL 45 RX3 yX3_finish wsX3_finish) := goodIn_app (goodIn_of _ (by decide +kernel)) ggL_finish_X3_finish
theorem dL_finish_0 : decode cL_finish 0 = .ok (.aload_n 3, 1) := by decide +kernel
theorem dL_finish_1 : decode cL_finish 1 = .ok (.iconst 0, 1) := by decide +kernel
theorem dL_finish_2 : decode cL_finish 2 = .ok (.aload_n 0, 1) := by decide +kernel
theorem dL_finish_3 : decode cL_finish 3 = .ok (.iload_n 1, 1) := by decide +kernel
theorem dL_finish_4 : decode cL_finish 4 = .ok (.iload_n 2, 1) := by decide +kernel
theorem dL_finish_5 : decode cL_finish 5 = .ok (.invokevirtual 45, 3) := by decide +kernel
theorem dL_finish_8 : decode cL_finish 8 = .ok (.i2l, 1) := by decide +kernel
theorem dL_finish_9 : decode cL_finish 9 = .ok (.lastore, 1) := by decide +kernel
theorem dL_finish_10 : decode cL_finish 10 = .ok (.goto 11, 3) := by decide +kernel
theorem dL_finish_13 : decode cL_finish 13 = .ok (.astore 4, 2) := by decide +kernel
theorem dL_finish_15 : decode cL_finish 15 = .ok (.iconst 1, 1) := by decide +kernel
theorem dL_finish_16 : decode cL_finish 16 = .ok (.ireturn, 1) := by decide +kernel
theorem dL_finish_17 : decode cL_finish 17 = .ok (.astore 4, 2) := by decide +kernel
theorem dL_finish_19 : decode cL_finish 19 = .ok (.iconst 2, 1) := by decide +kernel
theorem dL_finish_20 : decode cL_finish 20 = .ok (.ireturn, 1) := by decide +kernel
theorem dL_finish_21 : decode cL_finish 21 = .ok (.iconst 0, 1) := by decide +kernel
theorem dL_finish_22 : decode cL_finish 22 = .ok (.ireturn, 1) := by decide +kernel
set_option maxRecDepth 20000 in
theorem ggL_retire_X3_retire : GoodIn wsL_retire wsX3_retire := goodIn_ca (goodIn_ca (goodIn_ca (goodIn_r _ [8, 9, 10, 11, 12, 13, 14, 15, 16, 7, 17, 18, 19, 20, 21, 22, 23, 24, 25, 26, 27, 28, 29, 30, 31, 32, 33, 34, 35, 36, 37, 38, 39, 40, 41, 42, 43, 44, 45, 46, 47, 48, 49, 50, 51, 52, 53, 54, 55, 56, 57, 58, 59, 60, 61, 62, 63, 64, 65, 66, 67, 68, 69, 70, 71, 72, 73, 74, 75, 76, 77, 78, 79, 80, 81, 82, 83, 84, 85, 86, 87, 88, 89, 90, 91, 92, 93, 94, 95, 96, 97, 98, 99, 100, 101, 102, 103, 104, 105, 106, 107, 108, 109, 110, 111, 112, 113, 114, 115, 116, 117, 118, 119, 120, 121, 122, 123, 124, 125, 126, 127, 128, 129, 130, 131] (by decide +kernel) (by decide +kernel)) (goodIn_sub (fun _ h => List.mem_cons_of_mem _ (List.mem_append_left _ (List.mem_append_left _ (List.mem_append_right _ h)))) (by decide +kernel))) (goodIn_sub (fun _ h => List.mem_cons_of_mem _ (List.mem_append_left _ (List.mem_append_right _ h))) (by decide +kernel))) (goodIn_sub (fun _ h => List.mem_cons_of_mem _ (List.mem_append_right _ h)) (by decide +kernel))
set_option maxRecDepth 20000 in
theorem gL_retire_X3_retire : GoodIn wsL_retire (wsV RL 49 RX3 yX3_retire wsX3_retire) := goodIn_app (goodIn_of _ (by decide +kernel)) ggL_retire_X3_retire
theorem dL_retire_0 : decode cL_retire 0 = .ok (.aload_n 0, 1) := by decide +kernel
theorem dL_retire_1 : decode cL_retire 1 = .ok (.iload_n 1, 1) := by decide +kernel
theorem dL_retire_2 : decode cL_retire 2 = .ok (.iload_n 2, 1) := by decide +kernel
theorem dL_retire_3 : decode cL_retire 3 = .ok (.invokevirtual 49, 3) := by decide +kernel
theorem dL_retire_6 : decode cL_retire 6 = .ok (.goto 12, 3) := by decide +kernel
theorem dL_retire_9 : decode cL_retire 9 = .ok (.astore_n 3, 1) := by decide +kernel
theorem dL_retire_10 : decode cL_retire 10 = .ok (.iconst 1, 1) := by decide +kernel
theorem dL_retire_11 : decode cL_retire 11 = .ok (.ireturn, 1) := by decide +kernel
theorem dL_retire_12 : decode cL_retire 12 = .ok (.astore_n 3, 1) := by decide +kernel
theorem dL_retire_13 : decode cL_retire 13 = .ok (.iconst 2, 1) := by decide +kernel
theorem dL_retire_14 : decode cL_retire 14 = .ok (.ireturn, 1) := by decide +kernel
theorem dL_retire_15 : decode cL_retire 15 = .ok (.astore_n 3, 1) := by decide +kernel
theorem dL_retire_16 : decode cL_retire 16 = .ok (.iconst 3, 1) := by decide +kernel
theorem dL_retire_17 : decode cL_retire 17 = .ok (.ireturn, 1) := by decide +kernel
theorem dL_retire_18 : decode cL_retire 18 = .ok (.iconst 0, 1) := by decide +kernel
theorem dL_retire_19 : decode cL_retire 19 = .ok (.ireturn, 1) := by decide +kernel
set_option maxRecDepth 20000 in
theorem ggL_keep_X3_keep : GoodIn wsL_keep wsX3_keep := goodIn_ca (goodIn_ca (goodIn_r _ [7, 8, 9, 10, 11, 12, 13, 6, 14, 15, 16, 17, 18, 19, 20, 21, 22, 23, 24, 25, 26, 27, 28, 29, 30, 31, 32, 33, 34, 35, 36, 37, 38, 39, 40, 41, 42, 43, 44, 45, 46, 47, 48, 49, 50, 51, 52, 53, 54, 55, 56, 57, 58, 59, 60, 61, 62, 63, 64, 65, 66, 67, 68, 69, 70, 71, 72, 73, 74, 75, 76, 77, 78, 79, 80, 81, 82, 83, 84, 85, 86, 87, 88, 89, 90, 91, 92, 93, 94, 95, 96, 97, 98, 99, 100, 101, 102, 103, 104, 105, 106, 107, 108, 109, 110, 111, 112, 113, 114, 115, 116, 117, 118, 119, 120] (by decide +kernel) (by decide +kernel)) (goodIn_sub (fun _ h => List.mem_cons_of_mem _ (List.mem_append_left _ (List.mem_append_right _ h))) (by decide +kernel))) (goodIn_sub (fun _ h => List.mem_cons_of_mem _ (List.mem_append_right _ h)) (by decide +kernel))
set_option maxRecDepth 20000 in
theorem gL_keep_X3_keep : GoodIn wsL_keep (wsV RL 52 RX3 yX3_keep wsX3_keep) := goodIn_app (goodIn_of _ (by decide +kernel)) ggL_keep_X3_keep
theorem dL_keep_0 : decode cL_keep 0 = .ok (.aload_n 0, 1) := by decide +kernel
theorem dL_keep_1 : decode cL_keep 1 = .ok (.iload_n 1, 1) := by decide +kernel
theorem dL_keep_2 : decode cL_keep 2 = .ok (.invokevirtual 52, 3) := by decide +kernel
theorem dL_keep_5 : decode cL_keep 5 = .ok (.goto 9, 3) := by decide +kernel
theorem dL_keep_8 : decode cL_keep 8 = .ok (.astore_n 2, 1) := by decide +kernel
theorem dL_keep_9 : decode cL_keep 9 = .ok (.iconst 1, 1) := by decide +kernel
theorem dL_keep_10 : decode cL_keep 10 = .ok (.ireturn, 1) := by decide +kernel
theorem dL_keep_11 : decode cL_keep 11 = .ok (.astore_n 2, 1) := by decide +kernel
theorem dL_keep_12 : decode cL_keep 12 = .ok (.iconst 2, 1) := by decide +kernel
theorem dL_keep_13 : decode cL_keep 13 = .ok (.ireturn, 1) := by decide +kernel
theorem dL_keep_14 : decode cL_keep 14 = .ok (.iconst 0, 1) := by decide +kernel
theorem dL_keep_15 : decode cL_keep 15 = .ok (.ireturn, 1) := by decide +kernel
set_option maxRecDepth 20000 in
theorem ggL_release_X3_release : GoodIn wsL_release wsX3_release := goodIn_ca (goodIn_ca (goodIn_r _ [7, 8, 9, 10, 11, 12, 13, 14, 6, 15, 16, 17, 18, 19, 20, 21, 22, 23, 24, 25, 26, 27, 28, 29, 30, 31, 32, 33, 34, 35, 36, 37, 38, 39, 40, 41, 42, 43, 44, 45, 46, 47, 48, 49, 50, 51, 52, 53, 54, 55, 56, 57, 58, 59, 60, 61, 62, 63, 64, 65, 66, 67, 68, 69, 70, 71, 72, 73, 74, 75, 76, 77, 78, 79, 80, 81, 82, 83, 84, 85, 86, 87, 88, 89, 90, 91, 92, 93, 94, 95, 96, 97, 98, 99, 100, 101, 102, 103, 104, 105, 106, 107, 108, 109, 110, 111, 112, 113, 114, 115, 116, 117, 118, 119, 120, 121] (by decide +kernel) (by decide +kernel)) (goodIn_sub (fun _ h => List.mem_cons_of_mem _ (List.mem_append_left _ (List.mem_append_right _ h))) (by decide +kernel))) (goodIn_sub (fun _ h => List.mem_cons_of_mem _ (List.mem_append_right _ h)) (by decide +kernel))
set_option maxRecDepth 20000 in
theorem gL_release_X3_release : GoodIn wsL_release (wsV RL 55 RX3 yX3_release wsX3_release) := goodIn_app (goodIn_of _ (by decide +kernel)) ggL_release_X3_release
theorem dL_release_0 : decode cL_release 0 = .ok (.aload_n 0, 1) := by decide +kernel
theorem dL_release_1 : decode cL_release 1 = .ok (.iload_n 1, 1) := by decide +kernel
theorem dL_release_2 : decode cL_release 2 = .ok (.invokevirtual 55, 3) := by decide +kernel
theorem dL_release_5 : decode cL_release 5 = .ok (.goto 9, 3) := by decide +kernel
theorem dL_release_8 : decode cL_release 8 = .ok (.astore_n 2, 1) := by decide +kernel
theorem dL_release_9 : decode cL_release 9 = .ok (.iconst 1, 1) := by decide +kernel
theorem dL_release_10 : decode cL_release 10 = .ok (.ireturn, 1) := by decide +kernel
theorem dL_release_11 : decode cL_release 11 = .ok (.astore_n 2, 1) := by decide +kernel
theorem dL_release_12 : decode cL_release 12 = .ok (.iconst 2, 1) := by decide +kernel
theorem dL_release_13 : decode cL_release 13 = .ok (.ireturn, 1) := by decide +kernel
theorem dL_release_14 : decode cL_release 14 = .ok (.iconst 0, 1) := by decide +kernel
theorem dL_release_15 : decode cL_release 15 = .ok (.ireturn, 1) := by decide +kernel
set_option maxRecDepth 20000 in
theorem ggL_advance_X3_advance : GoodIn wsL_advance wsX3_advance := goodIn_ca (goodIn_r _ [6, 7, 8, 9, 10, 5, 11, 12, 13, 14, 15, 16, 17, 18, 19, 20, 21, 22, 23, 24, 25, 26, 27, 28, 29, 30, 31, 32, 33, 34, 35, 36, 37, 38, 39, 40, 41, 42, 43, 44, 45, 46, 47, 48, 49, 50, 51, 52, 53, 54, 55, 56, 57, 58, 59, 60, 61, 62, 63, 64, 65, 66, 67, 68, 69, 70, 71, 72, 73, 74, 75, 76, 77, 78, 79, 80, 81, 82, 83, 84, 85, 86, 87, 88, 89, 90, 91, 92, 93, 94, 95, 96, 97, 98, 99, 100, 101, 102, 103, 104, 105, 106, 107, 108, 109, 110, 111, 112, 113, 114, 115, 116, 117, 118, 119, 120, 121, 122, 123, 124, 125, 126, 127, 128, 129, 130, 131, 132, 133, 134, 135, 136, 137, 138, 139, 140, 141, 142, 143, 144, 145, 146, 147, 148, 149, 150, 151, 152, 153, 154, 155, 156, 157, 158, 159] (by decide +kernel) (by decide +kernel)) (goodIn_sub (fun _ h => List.mem_cons_of_mem _ (List.mem_append_right _ h)) (by decide +kernel))
set_option maxRecDepth 20000 in
theorem gL_advance_X3_advance : GoodIn wsL_advance (wsV RL 58 RX3 yX3_advance wsX3_advance) := goodIn_app (goodIn_of _ (by decide +kernel)) ggL_advance_X3_advance
theorem dL_advance_0 : decode cL_advance 0 = .ok (.aload_n 2, 1) := by decide +kernel
theorem dL_advance_1 : decode cL_advance 1 = .ok (.iconst 0, 1) := by decide +kernel
theorem dL_advance_2 : decode cL_advance 2 = .ok (.aload_n 0, 1) := by decide +kernel
theorem dL_advance_3 : decode cL_advance 3 = .ok (.iload_n 1, 1) := by decide +kernel
theorem dL_advance_4 : decode cL_advance 4 = .ok (.invokevirtual 58, 3) := by decide +kernel
theorem dL_advance_7 : decode cL_advance 7 = .ok (.i2l, 1) := by decide +kernel
theorem dL_advance_8 : decode cL_advance 8 = .ok (.lastore, 1) := by decide +kernel
theorem dL_advance_9 : decode cL_advance 9 = .ok (.goto 6, 3) := by decide +kernel
theorem dL_advance_12 : decode cL_advance 12 = .ok (.astore_n 3, 1) := by decide +kernel
theorem dL_advance_13 : decode cL_advance 13 = .ok (.iconst 1, 1) := by decide +kernel
theorem dL_advance_14 : decode cL_advance 14 = .ok (.ireturn, 1) := by decide +kernel
theorem dL_advance_15 : decode cL_advance 15 = .ok (.iconst 0, 1) := by decide +kernel
theorem dL_advance_16 : decode cL_advance 16 = .ok (.ireturn, 1) := by decide +kernel
set_option maxRecDepth 20000 in
theorem ggL_stateOf_X3_stateOf : GoodIn wsL_stateOf wsX3_stateOf := goodIn_ca (goodIn_r _ [6, 7, 8, 9, 10, 5, 11, 12, 13, 14, 15, 16, 17, 18, 19, 20, 21, 22, 23, 24, 25, 26, 27, 28, 29, 30, 31, 32, 33] (by decide +kernel) (by decide +kernel)) (goodIn_sub (fun _ h => List.mem_cons_of_mem _ (List.mem_append_right _ h)) (by decide +kernel))
set_option maxRecDepth 20000 in
theorem gL_stateOf_X3_stateOf : GoodIn wsL_stateOf (wsV RL 61 RX3 yX3_stateOf wsX3_stateOf) := goodIn_app (goodIn_of _ (by decide +kernel)) ggL_stateOf_X3_stateOf
theorem dL_stateOf_0 : decode cL_stateOf 0 = .ok (.aload_n 2, 1) := by decide +kernel
theorem dL_stateOf_1 : decode cL_stateOf 1 = .ok (.iconst 0, 1) := by decide +kernel
theorem dL_stateOf_2 : decode cL_stateOf 2 = .ok (.aload_n 0, 1) := by decide +kernel
theorem dL_stateOf_3 : decode cL_stateOf 3 = .ok (.iload_n 1, 1) := by decide +kernel
theorem dL_stateOf_4 : decode cL_stateOf 4 = .ok (.invokevirtual 61, 3) := by decide +kernel
theorem dL_stateOf_7 : decode cL_stateOf 7 = .ok (.i2l, 1) := by decide +kernel
theorem dL_stateOf_8 : decode cL_stateOf 8 = .ok (.lastore, 1) := by decide +kernel
theorem dL_stateOf_9 : decode cL_stateOf 9 = .ok (.goto 6, 3) := by decide +kernel
theorem dL_stateOf_12 : decode cL_stateOf 12 = .ok (.astore_n 3, 1) := by decide +kernel
theorem dL_stateOf_13 : decode cL_stateOf 13 = .ok (.iconst 1, 1) := by decide +kernel
theorem dL_stateOf_14 : decode cL_stateOf 14 = .ok (.ireturn, 1) := by decide +kernel
theorem dL_stateOf_15 : decode cL_stateOf 15 = .ok (.iconst 0, 1) := by decide +kernel
theorem dL_stateOf_16 : decode cL_stateOf 16 = .ok (.ireturn, 1) := by decide +kernel
set_option maxRecDepth 20000 in
theorem ggL_reason_X3_reason : GoodIn wsL_reason wsX3_reason := goodIn_ca (goodIn_r _ [6, 7, 8, 9, 10, 5, 11, 12, 13, 14, 15, 16, 17, 18, 19, 20, 21, 22, 23, 24, 25, 26, 27, 28, 29, 30, 31, 32, 33, 34, 35, 36, 37, 38, 39, 40, 41, 42, 43, 44, 45, 46, 47, 48, 49, 50, 51, 52, 53, 54, 55, 56, 57, 58, 59, 60, 61, 62, 63, 64] (by decide +kernel) (by decide +kernel)) (goodIn_sub (fun _ h => List.mem_cons_of_mem _ (List.mem_append_right _ h)) (by decide +kernel))
set_option maxRecDepth 20000 in
theorem gL_reason_X3_reason : GoodIn wsL_reason (wsV RL 64 RX3 yX3_reason wsX3_reason) := goodIn_app (goodIn_of _ (by decide +kernel)) ggL_reason_X3_reason
theorem dL_reason_0 : decode cL_reason 0 = .ok (.aload_n 2, 1) := by decide +kernel
theorem dL_reason_1 : decode cL_reason 1 = .ok (.iconst 0, 1) := by decide +kernel
theorem dL_reason_2 : decode cL_reason 2 = .ok (.aload_n 0, 1) := by decide +kernel
theorem dL_reason_3 : decode cL_reason 3 = .ok (.iload_n 1, 1) := by decide +kernel
theorem dL_reason_4 : decode cL_reason 4 = .ok (.invokevirtual 64, 3) := by decide +kernel
theorem dL_reason_7 : decode cL_reason 7 = .ok (.i2l, 1) := by decide +kernel
theorem dL_reason_8 : decode cL_reason 8 = .ok (.lastore, 1) := by decide +kernel
theorem dL_reason_9 : decode cL_reason 9 = .ok (.goto 6, 3) := by decide +kernel
theorem dL_reason_12 : decode cL_reason 12 = .ok (.astore_n 3, 1) := by decide +kernel
theorem dL_reason_13 : decode cL_reason 13 = .ok (.iconst 1, 1) := by decide +kernel
theorem dL_reason_14 : decode cL_reason 14 = .ok (.ireturn, 1) := by decide +kernel
theorem dL_reason_15 : decode cL_reason 15 = .ok (.iconst 0, 1) := by decide +kernel
theorem dL_reason_16 : decode cL_reason 16 = .ok (.ireturn, 1) := by decide +kernel
set_option maxRecDepth 20000 in
theorem ggL_matchOf_X3_matchOf : GoodIn wsL_matchOf wsX3_matchOf := goodIn_ca (goodIn_r _ [6, 7, 8, 9, 10, 5, 11, 12, 13, 14, 15, 16, 17, 18, 19, 20, 21, 22, 23, 24, 25, 26, 27, 28, 29, 30, 31, 32, 33, 34, 35, 36, 37, 38, 39, 40, 41, 42, 43, 44, 45, 46, 47, 48, 49, 50, 51, 52, 53, 54, 55, 56, 57, 58, 59, 60, 61] (by decide +kernel) (by decide +kernel)) (goodIn_sub (fun _ h => List.mem_cons_of_mem _ (List.mem_append_right _ h)) (by decide +kernel))
set_option maxRecDepth 20000 in
theorem gL_matchOf_X3_matchOf : GoodIn wsL_matchOf (wsV RL 67 RX3 yX3_matchOf wsX3_matchOf) := goodIn_app (goodIn_of _ (by decide +kernel)) ggL_matchOf_X3_matchOf
theorem dL_matchOf_0 : decode cL_matchOf 0 = .ok (.aload_n 2, 1) := by decide +kernel
theorem dL_matchOf_1 : decode cL_matchOf 1 = .ok (.iconst 0, 1) := by decide +kernel
theorem dL_matchOf_2 : decode cL_matchOf 2 = .ok (.aload_n 0, 1) := by decide +kernel
theorem dL_matchOf_3 : decode cL_matchOf 3 = .ok (.iload_n 1, 1) := by decide +kernel
theorem dL_matchOf_4 : decode cL_matchOf 4 = .ok (.invokevirtual 67, 3) := by decide +kernel
theorem dL_matchOf_7 : decode cL_matchOf 7 = .ok (.i2l, 1) := by decide +kernel
theorem dL_matchOf_8 : decode cL_matchOf 8 = .ok (.lastore, 1) := by decide +kernel
theorem dL_matchOf_9 : decode cL_matchOf 9 = .ok (.goto 6, 3) := by decide +kernel
theorem dL_matchOf_12 : decode cL_matchOf 12 = .ok (.astore_n 3, 1) := by decide +kernel
theorem dL_matchOf_13 : decode cL_matchOf 13 = .ok (.iconst 1, 1) := by decide +kernel
theorem dL_matchOf_14 : decode cL_matchOf 14 = .ok (.ireturn, 1) := by decide +kernel
theorem dL_matchOf_15 : decode cL_matchOf 15 = .ok (.iconst 0, 1) := by decide +kernel
theorem dL_matchOf_16 : decode cL_matchOf 16 = .ok (.ireturn, 1) := by decide +kernel
set_option maxRecDepth 20000 in
theorem ggL_imageOf_X3_imageOf : GoodIn wsL_imageOf wsX3_imageOf := goodIn_ca (goodIn_r _ [6, 7, 8, 9, 10, 5, 11, 12, 13, 14, 15, 16, 17, 18, 19, 20, 21, 22, 23, 24, 25, 26, 27, 28, 29, 30, 31, 32, 33, 34, 35, 36, 37, 38, 39] (by decide +kernel) (by decide +kernel)) (goodIn_sub (fun _ h => List.mem_cons_of_mem _ (List.mem_append_right _ h)) (by decide +kernel))
set_option maxRecDepth 20000 in
theorem gL_imageOf_X3_imageOf : GoodIn wsL_imageOf (wsV RL 70 RX3 yX3_imageOf wsX3_imageOf) := goodIn_app (goodIn_of _ (by decide +kernel)) ggL_imageOf_X3_imageOf
theorem dL_imageOf_0 : decode cL_imageOf 0 = .ok (.aload_n 2, 1) := by decide +kernel
theorem dL_imageOf_1 : decode cL_imageOf 1 = .ok (.iconst 0, 1) := by decide +kernel
theorem dL_imageOf_2 : decode cL_imageOf 2 = .ok (.aload_n 0, 1) := by decide +kernel
theorem dL_imageOf_3 : decode cL_imageOf 3 = .ok (.iload_n 1, 1) := by decide +kernel
theorem dL_imageOf_4 : decode cL_imageOf 4 = .ok (.invokevirtual 70, 3) := by decide +kernel
theorem dL_imageOf_7 : decode cL_imageOf 7 = .ok (.i2l, 1) := by decide +kernel
theorem dL_imageOf_8 : decode cL_imageOf 8 = .ok (.lastore, 1) := by decide +kernel
theorem dL_imageOf_9 : decode cL_imageOf 9 = .ok (.goto 6, 3) := by decide +kernel
theorem dL_imageOf_12 : decode cL_imageOf 12 = .ok (.astore_n 3, 1) := by decide +kernel
theorem dL_imageOf_13 : decode cL_imageOf 13 = .ok (.iconst 1, 1) := by decide +kernel
theorem dL_imageOf_14 : decode cL_imageOf 14 = .ok (.ireturn, 1) := by decide +kernel
theorem dL_imageOf_15 : decode cL_imageOf 15 = .ok (.iconst 0, 1) := by decide +kernel
theorem dL_imageOf_16 : decode cL_imageOf 16 = .ok (.ireturn, 1) := by decide +kernel
set_option maxRecDepth 20000 in
theorem ggL_endOf_X3_endOf : GoodIn wsL_endOf wsX3_endOf := goodIn_ca (goodIn_r _ [6, 7, 8, 9, 10, 5, 11, 12, 13, 14, 15, 16, 17, 18, 19, 20, 21, 22, 23, 24, 25, 26, 27, 28, 29, 30, 31, 32, 33, 34, 35, 36, 37, 38, 39] (by decide +kernel) (by decide +kernel)) (goodIn_sub (fun _ h => List.mem_cons_of_mem _ (List.mem_append_right _ h)) (by decide +kernel))
set_option maxRecDepth 20000 in
theorem gL_endOf_X3_endOf : GoodIn wsL_endOf (wsV RL 73 RX3 yX3_endOf wsX3_endOf) := goodIn_app (goodIn_of _ (by decide +kernel)) ggL_endOf_X3_endOf
theorem dL_endOf_0 : decode cL_endOf 0 = .ok (.aload_n 2, 1) := by decide +kernel
theorem dL_endOf_1 : decode cL_endOf 1 = .ok (.iconst 0, 1) := by decide +kernel
theorem dL_endOf_2 : decode cL_endOf 2 = .ok (.aload_n 0, 1) := by decide +kernel
theorem dL_endOf_3 : decode cL_endOf 3 = .ok (.iload_n 1, 1) := by decide +kernel
theorem dL_endOf_4 : decode cL_endOf 4 = .ok (.invokevirtual 73, 3) := by decide +kernel
theorem dL_endOf_7 : decode cL_endOf 7 = .ok (.i2l, 1) := by decide +kernel
theorem dL_endOf_8 : decode cL_endOf 8 = .ok (.lastore, 1) := by decide +kernel
theorem dL_endOf_9 : decode cL_endOf 9 = .ok (.goto 6, 3) := by decide +kernel
theorem dL_endOf_12 : decode cL_endOf 12 = .ok (.astore_n 3, 1) := by decide +kernel
theorem dL_endOf_13 : decode cL_endOf 13 = .ok (.iconst 1, 1) := by decide +kernel
theorem dL_endOf_14 : decode cL_endOf 14 = .ok (.ireturn, 1) := by decide +kernel
theorem dL_endOf_15 : decode cL_endOf 15 = .ok (.iconst 0, 1) := by decide +kernel
theorem dL_endOf_16 : decode cL_endOf 16 = .ok (.ireturn, 1) := by decide +kernel
set_option maxRecDepth 20000 in
theorem ggL_failuresOf_X3_failuresOf : GoodIn wsL_failuresOf wsX3_failuresOf := goodIn_ca (goodIn_r _ [6, 7, 8, 9, 10, 5, 11, 12, 13, 14, 15, 16, 17, 18, 19, 20, 21, 22, 23, 24, 25, 26, 27, 28, 29, 30, 31, 32, 33] (by decide +kernel) (by decide +kernel)) (goodIn_sub (fun _ h => List.mem_cons_of_mem _ (List.mem_append_right _ h)) (by decide +kernel))
set_option maxRecDepth 20000 in
theorem gL_failuresOf_X3_failuresOf : GoodIn wsL_failuresOf (wsV RL 76 RX3 yX3_failuresOf wsX3_failuresOf) := goodIn_app (goodIn_of _ (by decide +kernel)) ggL_failuresOf_X3_failuresOf
theorem dL_failuresOf_0 : decode cL_failuresOf 0 = .ok (.aload_n 2, 1) := by decide +kernel
theorem dL_failuresOf_1 : decode cL_failuresOf 1 = .ok (.iconst 0, 1) := by decide +kernel
theorem dL_failuresOf_2 : decode cL_failuresOf 2 = .ok (.aload_n 0, 1) := by decide +kernel
theorem dL_failuresOf_3 : decode cL_failuresOf 3 = .ok (.iload_n 1, 1) := by decide +kernel
theorem dL_failuresOf_4 : decode cL_failuresOf 4 = .ok (.invokevirtual 76, 3) := by decide +kernel
theorem dL_failuresOf_7 : decode cL_failuresOf 7 = .ok (.i2l, 1) := by decide +kernel
theorem dL_failuresOf_8 : decode cL_failuresOf 8 = .ok (.lastore, 1) := by decide +kernel
theorem dL_failuresOf_9 : decode cL_failuresOf 9 = .ok (.goto 6, 3) := by decide +kernel
theorem dL_failuresOf_12 : decode cL_failuresOf 12 = .ok (.astore_n 3, 1) := by decide +kernel
theorem dL_failuresOf_13 : decode cL_failuresOf 13 = .ok (.iconst 1, 1) := by decide +kernel
theorem dL_failuresOf_14 : decode cL_failuresOf 14 = .ok (.ireturn, 1) := by decide +kernel
theorem dL_failuresOf_15 : decode cL_failuresOf 15 = .ok (.iconst 0, 1) := by decide +kernel
theorem dL_failuresOf_16 : decode cL_failuresOf 16 = .ok (.ireturn, 1) := by decide +kernel
set_option maxRecDepth 20000 in
theorem ggL_installing_X3_installing : GoodIn wsL_installing wsX3_installing := goodIn_ca (goodIn_r _ [6, 7, 8, 9, 10, 11, 5, 12, 13, 14, 15, 16, 17, 18, 19, 20, 21, 22, 23, 24, 25, 26, 27, 28, 29, 30, 31, 32, 33, 34, 35, 36, 37, 38, 39] (by decide +kernel) (by decide +kernel)) (goodIn_sub (fun _ h => List.mem_cons_of_mem _ (List.mem_append_right _ h)) (by decide +kernel))
set_option maxRecDepth 20000 in
theorem gL_installing_X3_installing : GoodIn wsL_installing (wsV RL 79 RX3 yX3_installing wsX3_installing) := goodIn_app (goodIn_of _ (by decide +kernel)) ggL_installing_X3_installing
theorem dL_installing_0 : decode cL_installing 0 = .ok (.aload_n 2, 1) := by decide +kernel
theorem dL_installing_1 : decode cL_installing 1 = .ok (.iconst 0, 1) := by decide +kernel
theorem dL_installing_2 : decode cL_installing 2 = .ok (.aload_n 0, 1) := by decide +kernel
theorem dL_installing_3 : decode cL_installing 3 = .ok (.iload_n 1, 1) := by decide +kernel
theorem dL_installing_4 : decode cL_installing 4 = .ok (.invokevirtual 79, 3) := by decide +kernel
theorem dL_installing_7 : decode cL_installing 7 = .ok (.i2l, 1) := by decide +kernel
theorem dL_installing_8 : decode cL_installing 8 = .ok (.lastore, 1) := by decide +kernel
theorem dL_installing_9 : decode cL_installing 9 = .ok (.goto 6, 3) := by decide +kernel
theorem dL_installing_12 : decode cL_installing 12 = .ok (.astore_n 3, 1) := by decide +kernel
theorem dL_installing_13 : decode cL_installing 13 = .ok (.iconst 1, 1) := by decide +kernel
theorem dL_installing_14 : decode cL_installing 14 = .ok (.ireturn, 1) := by decide +kernel
theorem dL_installing_15 : decode cL_installing 15 = .ok (.iconst 0, 1) := by decide +kernel
theorem dL_installing_16 : decode cL_installing 16 = .ok (.ireturn, 1) := by decide +kernel
set_option maxRecDepth 20000 in
theorem ggL_queueAt_X3_queueAt : GoodIn wsL_queueAt wsX3_queueAt := goodIn_ca (goodIn_r _ [6, 7, 8, 9, 10, 11, 12, 5, 13, 14, 15, 16, 17, 18, 19, 20, 21, 22, 23, 24, 25, 26, 27, 28, 29, 30, 31, 32, 33, 34, 35, 36, 37, 38, 39, 40, 41, 42, 43, 44, 45, 46, 47, 48, 49, 50, 51] (by decide +kernel) (by decide +kernel)) (goodIn_sub (fun _ h => List.mem_cons_of_mem _ (List.mem_append_right _ h)) (by decide +kernel))
set_option maxRecDepth 20000 in
theorem gL_queueAt_X3_queueAt : GoodIn wsL_queueAt (wsV RL 82 RX3 yX3_queueAt wsX3_queueAt) := goodIn_app (goodIn_of _ (by decide +kernel)) ggL_queueAt_X3_queueAt
theorem dL_queueAt_0 : decode cL_queueAt 0 = .ok (.aload_n 3, 1) := by decide +kernel
theorem dL_queueAt_1 : decode cL_queueAt 1 = .ok (.iconst 0, 1) := by decide +kernel
theorem dL_queueAt_2 : decode cL_queueAt 2 = .ok (.aload_n 0, 1) := by decide +kernel
theorem dL_queueAt_3 : decode cL_queueAt 3 = .ok (.iload_n 1, 1) := by decide +kernel
theorem dL_queueAt_4 : decode cL_queueAt 4 = .ok (.iload_n 2, 1) := by decide +kernel
theorem dL_queueAt_5 : decode cL_queueAt 5 = .ok (.invokevirtual 82, 3) := by decide +kernel
theorem dL_queueAt_8 : decode cL_queueAt 8 = .ok (.i2l, 1) := by decide +kernel
theorem dL_queueAt_9 : decode cL_queueAt 9 = .ok (.lastore, 1) := by decide +kernel
theorem dL_queueAt_10 : decode cL_queueAt 10 = .ok (.goto 7, 3) := by decide +kernel
theorem dL_queueAt_13 : decode cL_queueAt 13 = .ok (.astore 4, 2) := by decide +kernel
theorem dL_queueAt_15 : decode cL_queueAt 15 = .ok (.iconst 1, 1) := by decide +kernel
theorem dL_queueAt_16 : decode cL_queueAt 16 = .ok (.ireturn, 1) := by decide +kernel
theorem dL_queueAt_17 : decode cL_queueAt 17 = .ok (.iconst 0, 1) := by decide +kernel
theorem dL_queueAt_18 : decode cL_queueAt 18 = .ok (.ireturn, 1) := by decide +kernel
set_option maxRecDepth 20000 in
theorem ggL_machineAt_X3_machineAt : GoodIn wsL_machineAt wsX3_machineAt := goodIn_ca (goodIn_r _ [6, 7, 8, 9, 10, 11, 12, 13, 14, 15, 16, 17, 18, 19, 20, 21, 22, 23, 24, 25, 26, 27, 28, 29, 30, 31, 32, 33] (by decide +kernel) (by decide +kernel)) (goodIn_sub (fun _ h => List.mem_cons_of_mem _ (List.mem_append_right _ h)) (by decide +kernel))
set_option maxRecDepth 20000 in
theorem gL_machineAt_X3_machineAt : GoodIn wsL_machineAt (wsV RL 85 RX3 yX3_machineAt wsX3_machineAt) := goodIn_app (goodIn_of _ (by decide +kernel)) ggL_machineAt_X3_machineAt
theorem dL_machineAt_0 : decode cL_machineAt 0 = .ok (.aload_n 2, 1) := by decide +kernel
theorem dL_machineAt_1 : decode cL_machineAt 1 = .ok (.iconst 0, 1) := by decide +kernel
theorem dL_machineAt_2 : decode cL_machineAt 2 = .ok (.aload_n 0, 1) := by decide +kernel
theorem dL_machineAt_3 : decode cL_machineAt 3 = .ok (.iload_n 1, 1) := by decide +kernel
theorem dL_machineAt_4 : decode cL_machineAt 4 = .ok (.invokevirtual 85, 3) := by decide +kernel
theorem dL_machineAt_7 : decode cL_machineAt 7 = .ok (.i2l, 1) := by decide +kernel
theorem dL_machineAt_8 : decode cL_machineAt 8 = .ok (.lastore, 1) := by decide +kernel
theorem dL_machineAt_9 : decode cL_machineAt 9 = .ok (.goto 6, 3) := by decide +kernel
theorem dL_machineAt_12 : decode cL_machineAt 12 = .ok (.astore_n 3, 1) := by decide +kernel
theorem dL_machineAt_13 : decode cL_machineAt 13 = .ok (.iconst 1, 1) := by decide +kernel
theorem dL_machineAt_14 : decode cL_machineAt 14 = .ok (.ireturn, 1) := by decide +kernel
theorem dL_machineAt_15 : decode cL_machineAt 15 = .ok (.iconst 0, 1) := by decide +kernel
theorem dL_machineAt_16 : decode cL_machineAt 16 = .ok (.ireturn, 1) := by decide +kernel
set_option maxRecDepth 20000 in
theorem ggL_stateBefore_X3_stateBefore : GoodIn wsL_stateBefore wsX3_stateBefore := goodIn_ca (goodIn_ca (goodIn_r _ [7, 8, 9, 10, 11, 12, 13, 14, 15, 6, 16, 17, 18, 19, 20, 21, 22, 23, 24, 25, 26, 27, 28, 29, 30, 31, 32, 33, 34, 35, 36, 37, 38, 39, 40, 41, 42, 43, 44, 45, 46, 47, 48, 49, 50, 51, 52, 53, 54, 55, 56, 57] (by decide +kernel) (by decide +kernel)) (goodIn_sub (fun _ h => List.mem_cons_of_mem _ (List.mem_append_left _ (List.mem_append_right _ h))) (by decide +kernel))) (goodIn_sub (fun _ h => List.mem_cons_of_mem _ (List.mem_append_right _ h)) (by decide +kernel))
set_option maxRecDepth 20000 in
theorem gL_stateBefore_X3_stateBefore : GoodIn wsL_stateBefore (wsV RL 88 RX3 yX3_stateBefore wsX3_stateBefore) := goodIn_app (goodIn_of _ (by decide +kernel)) ggL_stateBefore_X3_stateBefore
theorem dL_stateBefore_0 : decode cL_stateBefore 0 = .ok (.aload_n 3, 1) := by decide +kernel
theorem dL_stateBefore_1 : decode cL_stateBefore 1 = .ok (.iconst 0, 1) := by decide +kernel
theorem dL_stateBefore_2 : decode cL_stateBefore 2 = .ok (.aload_n 0, 1) := by decide +kernel
theorem dL_stateBefore_3 : decode cL_stateBefore 3 = .ok (.iload_n 1, 1) := by decide +kernel
theorem dL_stateBefore_4 : decode cL_stateBefore 4 = .ok (.iload_n 2, 1) := by decide +kernel
theorem dL_stateBefore_5 : decode cL_stateBefore 5 = .ok (.invokevirtual 88, 3) := by decide +kernel
theorem dL_stateBefore_8 : decode cL_stateBefore 8 = .ok (.i2l, 1) := by decide +kernel
theorem dL_stateBefore_9 : decode cL_stateBefore 9 = .ok (.lastore, 1) := by decide +kernel
theorem dL_stateBefore_10 : decode cL_stateBefore 10 = .ok (.goto 11, 3) := by decide +kernel
theorem dL_stateBefore_13 : decode cL_stateBefore 13 = .ok (.astore 4, 2) := by decide +kernel
theorem dL_stateBefore_15 : decode cL_stateBefore 15 = .ok (.iconst 1, 1) := by decide +kernel
theorem dL_stateBefore_16 : decode cL_stateBefore 16 = .ok (.ireturn, 1) := by decide +kernel
theorem dL_stateBefore_17 : decode cL_stateBefore 17 = .ok (.astore 4, 2) := by decide +kernel
theorem dL_stateBefore_19 : decode cL_stateBefore 19 = .ok (.iconst 2, 1) := by decide +kernel
theorem dL_stateBefore_20 : decode cL_stateBefore 20 = .ok (.ireturn, 1) := by decide +kernel
theorem dL_stateBefore_21 : decode cL_stateBefore 21 = .ok (.iconst 0, 1) := by decide +kernel
theorem dL_stateBefore_22 : decode cL_stateBefore 22 = .ok (.ireturn, 1) := by decide +kernel
set_option maxRecDepth 20000 in
theorem ggL_law_X3_init : GoodIn wsL_law wsX3_init := goodIn_r _ [9, 10, 11, 12, 13, 14, 15, 16, 17, 18, 19, 20, 21, 22, 23, 24, 25, 26, 27, 28, 29, 30, 31, 32, 33, 34, 35, 36, 37, 38, 39, 40, 41, 42, 43, 44, 45, 46, 47, 48, 49, 50, 51, 52, 53, 54, 55, 56, 57, 58, 59, 60, 61, 62, 63, 630, 631, 632, 633, 634, 635, 636, 637, 638, 665, 666, 667, 668, 669, 670, 671, 672, 673, 674, 675, 676, 677, 678, 679, 680, 681, 682, 683, 684, 685] (by decide +kernel) (by decide +kernel)
set_option maxRecDepth 20000 in
theorem gL_law_X3_init : GoodIn wsL_law (wsX3_init) := ggL_law_X3_init
set_option maxRecDepth 20000 in
theorem ggL_law_X4_init : GoodIn wsL_law wsX4_init := goodIn_r _ [66, 67, 11, 12, 68, 69, 17, 70, 71, 72, 73, 74, 75, 76, 77, 78, 79, 80, 81, 82, 83, 84, 85, 86, 87, 88, 89, 639, 640, 641, 642, 643, 644, 645, 646, 647, 648, 649, 650, 651, 652, 653, 654, 655, 656, 657, 658, 659, 660, 661, 662, 663, 664] (by decide +kernel) (by decide +kernel)
set_option maxRecDepth 20000 in
theorem gL_law_X4_init : GoodIn wsL_law (wsX4_init) := ggL_law_X4_init
set_option maxRecDepth 20000 in
theorem ggL_law_L_setImage : GoodIn wsL_law wsL_setImage := goodIn_ca (goodIn_ca (goodIn_r _ [93, 94, 95, 96, 97, 98, 2, 99, 100, 101, 102, 103, 104, 105, 106, 107, 108, 109, 110, 111, 112, 16, 113, 114, 115, 116, 117, 118, 119, 120, 121, 18, 122, 123, 124, 125, 126, 127, 128, 129, 14, 130, 131, 132, 133, 134, 135, 136, 137, 138, 29, 139, 42, 43, 140, 141, 142, 143, 144, 145, 146, 147, 148, 149, 150, 25, 151, 152, 153, 154, 155, 156, 157, 158, 31, 159, 56, 160, 161, 58, 59, 162, 163, 60, 61, 164, 165, 166, 167, 22, 168, 169, 170, 171, 21, 172, 35, 36, 37, 678, 679, 680, 681, 682, 683, 684, 685, 630, 631, 632, 633, 634, 635, 636, 637, 638, 668, 669, 670, 671, 672, 673, 674, 675, 676, 677, 665, 666, 667] (by decide +kernel) (by decide +kernel)) (goodIn_sub (fun _ h => List.mem_append_left _ (List.mem_append_left _ (List.mem_append_right _ h))) (by decide +kernel))) (goodIn_sub (fun _ h => List.mem_append_left _ (List.mem_append_right _ h)) (by decide +kernel))
set_option maxRecDepth 20000 in
theorem gL_law_L_setImage : GoodIn wsL_law (va_wsS RL 95 yL_setImage wsL_setImage) := goodIn_app (goodIn_of _ (by decide +kernel)) ggL_law_L_setImage
set_option maxRecDepth 20000 in
theorem ggL_law_X4_setImage : GoodIn wsL_law wsX4_setImage := goodIn_r _ [176, 86, 80, 81, 82, 83, 84, 85, 177, 178, 5, 179, 180, 181, 182, 183, 184, 185, 186, 187, 188, 87, 76, 77, 189, 190, 191, 192, 193, 70, 71, 75, 194, 195, 196, 197, 198, 199, 200, 201, 202, 203, 204, 205, 72, 73, 74, 206, 207, 208, 209, 88, 210, 89, 639, 640, 641, 642, 643, 644, 645, 646, 647, 648, 649, 650, 651, 652, 653, 654, 655, 656, 657, 658, 659, 660, 661, 662, 663, 664] (by decide +kernel) (by decide +kernel)
set_option maxRecDepth 20000 in
theorem gL_law_X4_setImage : GoodIn wsL_law (wsV RL 100 RX4 yX4_setImage wsX4_setImage) := goodIn_app (goodIn_of _ (by decide +kernel)) ggL_law_X4_setImage
set_option maxRecDepth 20000 in
theorem ggL_law_X4_thrown : GoodIn wsL_law wsX4_thrown := goodIn_r _ [214, 184, 639, 640, 641, 642, 643, 644, 645, 646, 647, 648, 649, 650, 651, 652, 653, 654, 655, 656, 657, 658, 659, 660, 661, 662, 663, 664] (by decide +kernel) (by decide +kernel)
set_option maxRecDepth 20000 in
theorem gL_law_X4_thrown : GoodIn wsL_law (wsV RL 101 RX4 yX4_thrown wsX4_thrown) := goodIn_app (goodIn_of _ (by decide +kernel)) ggL_law_X4_thrown
set_option maxRecDepth 20000 in
theorem ggL_law_L_setTime : GoodIn wsL_law wsL_setTime := goodIn_ca (goodIn_ca (goodIn_r _ [217, 94, 95, 218, 219, 220, 2, 221, 101, 222, 223, 224, 225, 111, 112, 100, 107, 108, 109, 110, 16, 113, 114, 115, 116, 117, 118, 119, 120, 121, 18, 122, 123, 124, 125, 126, 127, 128, 129, 14, 130, 131, 132, 133, 134, 135, 136, 137, 138, 29, 139, 42, 43, 140, 141, 142, 143, 144, 145, 146, 147, 148, 149, 150, 25, 151, 152, 153, 154, 155, 102, 156, 157, 158, 31, 159, 56, 160, 161, 58, 59, 162, 163, 60, 61, 164, 165, 166, 167, 22, 168, 169, 170, 171, 21, 172, 35, 36, 37, 678, 679, 680, 681, 682, 683, 684, 685, 630, 631, 632, 633, 634, 635, 636, 637, 638, 668, 669, 670, 671, 672, 673, 674, 675, 676, 677, 665, 666, 667] (by decide +kernel) (by decide +kernel)) (goodIn_sub (fun _ h => List.mem_append_left _ (List.mem_append_left _ (List.mem_append_right _ h))) (by decide +kernel))) (goodIn_sub (fun _ h => List.mem_append_left _ (List.mem_append_right _ h)) (by decide +kernel))
set_option maxRecDepth 20000 in
theorem gL_law_L_setTime : GoodIn wsL_law (va_wsS RL 105 yL_setTime wsL_setTime) := goodIn_app (goodIn_of _ (by decide +kernel)) ggL_law_L_setTime
set_option maxRecDepth 20000 in
theorem ggL_law_X4_setTime : GoodIn wsL_law wsX4_setTime := goodIn_r _ [229, 86, 230, 231, 232, 5, 233, 80, 177, 178, 179, 180, 181, 182, 183, 184, 185, 186, 187, 188, 87, 76, 77, 189, 190, 191, 192, 193, 70, 71, 75, 194, 195, 196, 197, 198, 199, 200, 201, 81, 202, 203, 204, 205, 72, 82, 83, 73, 74, 84, 85, 206, 207, 208, 209, 88, 210, 89, 639, 640, 641, 642, 643, 644, 645, 646, 647, 648, 649, 650, 651, 652, 653, 654, 655, 656, 657, 658, 659, 660, 661, 662, 663, 664] (by decide +kernel) (by decide +kernel)
set_option maxRecDepth 20000 in
theorem gL_law_X4_setTime : GoodIn wsL_law (wsV RL 108 RX4 yX4_setTime wsX4_setTime) := goodIn_app (goodIn_of _ (by decide +kernel)) ggL_law_X4_setTime
set_option maxRecDepth 20000 in
theorem ggL_law_L_dropImage : GoodIn wsL_law wsL_dropImage := goodIn_ca (goodIn_r _ [236, 94, 237, 238, 239, 2, 240, 100, 222, 223, 224, 225, 111, 112, 107, 108, 109, 110, 16, 118, 119, 120, 121, 18, 122, 123, 124, 125, 126, 127, 128, 129, 14, 130, 131, 132, 133, 134, 135, 136, 137, 138, 29, 139, 42, 43, 140, 141, 142, 143, 144, 145, 146, 147, 148, 149, 150, 25, 101, 151, 152, 153, 154, 155, 102, 156, 157, 158, 31, 159, 56, 160, 161, 58, 59, 162, 163, 60, 61, 164, 165, 166, 167, 22, 168, 169, 170, 171, 21, 172, 35, 36, 37, 678, 679, 680, 681, 682, 683, 684, 685, 630, 631, 632, 633, 634, 635, 636, 637, 638, 668, 669, 670, 671, 672, 673, 674, 675, 676, 677, 665, 666, 667] (by decide +kernel) (by decide +kernel)) (goodIn_sub (fun _ h => List.mem_append_left _ (List.mem_append_left _ (List.mem_append_right _ h))) (by decide +kernel))
set_option maxRecDepth 20000 in
theorem gL_law_L_dropImage : GoodIn wsL_law (va_wsS RL 109 yL_dropImage wsL_dropImage) := goodIn_app (goodIn_of _ (by decide +kernel)) ggL_law_L_dropImage
set_option maxRecDepth 20000 in
theorem ggL_law_X4_dropImage : GoodIn wsL_law wsX4_dropImage := goodIn_r _ [244, 80, 230, 231, 232, 5, 233, 177, 178, 179, 180, 181, 182, 183, 184, 185, 186, 187, 188, 87, 76, 77, 189, 86, 190, 191, 192, 193, 70, 71, 75, 194, 195, 196, 197, 198, 199, 200, 201, 81, 202, 203, 204, 205, 72, 82, 83, 73, 74, 84, 85, 206, 207, 208, 209, 88, 210, 89, 639, 640, 641, 642, 643, 644, 645, 646, 647, 648, 649, 650, 651, 652, 653, 654, 655, 656, 657, 658, 659, 660, 661, 662, 663, 664] (by decide +kernel) (by decide +kernel)
set_option maxRecDepth 20000 in
theorem gL_law_X4_dropImage : GoodIn wsL_law (wsV RL 112 RX4 yX4_dropImage wsX4_dropImage) := goodIn_app (goodIn_of _ (by decide +kernel)) ggL_law_X4_dropImage
set_option maxRecDepth 20000 in
theorem ggL_law_L_setBatch : GoodIn wsL_law wsL_setBatch := goodIn_ca (goodIn_ca (goodIn_r _ [247, 94, 95, 248, 249, 250, 2, 251, 111, 112, 18, 252, 253, 254, 255, 113, 114, 115, 116, 117, 118, 119, 120, 121, 122, 123, 124, 125, 126, 127, 128, 129, 14, 130, 131, 132, 133, 134, 135, 136, 137, 138, 29, 139, 42, 43, 140, 141, 142, 143, 144, 145, 146, 147, 148, 149, 150, 25, 101, 151, 152, 153, 154, 155, 16, 102, 156, 157, 158, 31, 159, 56, 160, 161, 58, 59, 162, 163, 60, 61, 164, 165, 166, 167, 22, 168, 169, 170, 171, 21, 172, 35, 36, 37, 630, 631, 632, 633, 634, 635, 636, 637, 638, 668, 669, 670, 671, 672, 673, 674, 675, 676, 677, 678, 679, 680, 681, 682, 683, 684, 685, 665, 666, 667] (by decide +kernel) (by decide +kernel)) (goodIn_sub (fun _ h => List.mem_append_left _ (List.mem_append_left _ (List.mem_append_right _ h))) (by decide +kernel))) (goodIn_sub (fun _ h => List.mem_append_left _ (List.mem_append_right _ h)) (by decide +kernel))
set_option maxRecDepth 20000 in
theorem gL_law_L_setBatch : GoodIn wsL_law (va_wsS RL 113 yL_setBatch wsL_setBatch) := goodIn_app (goodIn_of _ (by decide +kernel)) ggL_law_L_setBatch
set_option maxRecDepth 20000 in
theorem ggL_law_X4_setBatch : GoodIn wsL_law wsX4_setBatch := goodIn_r _ [259, 87, 260, 261, 5, 262, 177, 178, 179, 180, 181, 182, 183, 184, 185, 186, 187, 188, 76, 77, 189, 86, 190, 191, 192, 193, 70, 71, 75, 194, 195, 196, 197, 198, 199, 200, 201, 81, 202, 203, 204, 205, 80, 72, 82, 83, 73, 74, 84, 85, 206, 207, 208, 209, 88, 210, 89, 639, 640, 641, 642, 643, 644, 645, 646, 647, 648, 649, 650, 651, 652, 653, 654, 655, 656, 657, 658, 659, 660, 661, 662, 663, 664] (by decide +kernel) (by decide +kernel)
set_option maxRecDepth 20000 in
theorem gL_law_X4_setBatch : GoodIn wsL_law (wsV RL 115 RX4 yX4_setBatch wsX4_setBatch) := goodIn_app (goodIn_of _ (by decide +kernel)) ggL_law_X4_setBatch
set_option maxRecDepth 20000 in
theorem ggL_law_L_setRetries : GoodIn wsL_law wsL_setRetries := goodIn_ca (goodIn_r _ [265, 95, 266, 267, 268, 2, 269, 23, 24, 113, 114, 115, 116, 117, 118, 119, 120, 121, 18, 122, 123, 124, 125, 126, 127, 128, 129, 14, 130, 131, 132, 133, 134, 135, 136, 137, 138, 29, 139, 42, 43, 140, 141, 142, 143, 144, 145, 146, 147, 148, 149, 150, 25, 101, 151, 152, 153, 154, 155, 16, 102, 156, 157, 158, 31, 159, 56, 160, 161, 58, 59, 162, 163, 60, 61, 164, 165, 166, 167, 22, 168, 169, 170, 171, 21, 172, 35, 36, 37, 630, 631, 632, 633, 634, 635, 636, 637, 638, 668, 669, 670, 671, 672, 673, 674, 675, 676, 677, 678, 679, 680, 681, 682, 683, 684, 685, 665, 666, 667] (by decide +kernel) (by decide +kernel)) (goodIn_sub (fun _ h => List.mem_append_left _ (List.mem_append_right _ h)) (by decide +kernel))
set_option maxRecDepth 20000 in
theorem gL_law_L_setRetries : GoodIn wsL_law (va_wsS RL 116 yL_setRetries wsL_setRetries) := goodIn_app (goodIn_of _ (by decide +kernel)) ggL_law_L_setRetries
set_option maxRecDepth 20000 in
theorem ggL_law_X4_setRetries : GoodIn wsL_law wsX4_setRetries := goodIn_r _ [273, 68, 69, 177, 178, 5, 179, 180, 181, 182, 183, 184, 185, 186, 187, 188, 87, 76, 77, 189, 86, 190, 191, 192, 193, 70, 71, 75, 194, 195, 196, 197, 198, 199, 200, 201, 81, 202, 203, 204, 205, 80, 72, 82, 83, 73, 74, 84, 85, 206, 207, 208, 209, 88, 210, 89, 639, 640, 641, 642, 643, 644, 645, 646, 647, 648, 649, 650, 651, 652, 653, 654, 655, 656, 657, 658, 659, 660, 661, 662, 663, 664] (by decide +kernel) (by decide +kernel)
set_option maxRecDepth 20000 in
theorem gL_law_X4_setRetries : GoodIn wsL_law (wsV RL 119 RX4 yX4_setRetries wsX4_setRetries) := goodIn_app (goodIn_of _ (by decide +kernel)) ggL_law_X4_setRetries
set_option maxRecDepth 20000 in
theorem ggL_law_L_report : GoodIn wsL_law wsL_report := goodIn_ca (goodIn_ca (goodIn_r _ [276, 94, 95, 277, 278, 279, 2, 280, 111, 112, 131, 281, 282, 283, 130, 284, 285, 286, 287, 14, 252, 253, 254, 255, 18, 113, 114, 115, 116, 117, 288, 289, 290, 291, 144, 164, 165, 166, 167, 22, 168, 169, 170, 171, 21, 172, 35, 36, 37, 292, 293, 294, 295, 296, 24, 25, 23, 151, 297, 298, 299, 300, 27, 118, 119, 120, 121, 122, 123, 124, 125, 126, 127, 128, 129, 132, 133, 134, 135, 136, 137, 138, 29, 139, 42, 43, 140, 141, 142, 143, 145, 146, 147, 148, 149, 150, 101, 152, 153, 154, 155, 16, 102, 156, 157, 158, 31, 159, 56, 160, 161, 58, 59, 162, 163, 60, 61, 668, 669, 670, 671, 672, 673, 674, 675, 676, 677, 630, 631, 632, 633, 634, 635, 636, 637, 638, 665, 666, 667, 678, 679, 680, 681, 682, 683, 684, 685] (by decide +kernel) (by decide +kernel)) (goodIn_sub (fun _ h => List.mem_append_left _ (List.mem_append_left _ (List.mem_append_right _ h))) (by decide +kernel))) (goodIn_sub (fun _ h => List.mem_append_left _ (List.mem_append_right _ h)) (by decide +kernel))
set_option maxRecDepth 20000 in
theorem gL_law_L_report : GoodIn wsL_law (va_wsS RL 120 yL_report wsL_report) := goodIn_app (goodIn_of _ (by decide +kernel)) ggL_law_L_report
set_option maxRecDepth 20000 in
theorem ggL_law_X4_report : GoodIn wsL_law wsX4_report := goodIn_r _ [304, 71, 72, 73, 74, 70, 305, 306, 5, 307, 177, 178, 179, 260, 261, 262, 180, 181, 182, 183, 184, 206, 207, 208, 209, 88, 210, 89, 308, 309, 310, 311, 75, 312, 313, 314, 315, 316, 78, 69, 68, 77, 189, 317, 318, 319, 320, 185, 186, 187, 188, 87, 76, 86, 190, 191, 192, 193, 194, 195, 196, 197, 198, 199, 200, 201, 81, 202, 203, 204, 205, 80, 82, 83, 84, 85, 639, 640, 641, 642, 643, 644, 645, 646, 647, 648, 649, 650, 651, 652, 653, 654, 655, 656, 657, 658, 659, 660, 661, 662, 663, 664] (by decide +kernel) (by decide +kernel)
set_option maxRecDepth 20000 in
theorem gL_law_X4_report : GoodIn wsL_law (wsV RL 123 RX4 yX4_report wsX4_report) := goodIn_app (goodIn_of _ (by decide +kernel)) ggL_law_X4_report
set_option maxRecDepth 20000 in
theorem ggL_law_L_order : GoodIn wsL_law wsL_order := goodIn_ca (goodIn_ca (goodIn_r _ [323, 94, 324, 325, 326, 327, 2, 328, 329, 330, 130, 284, 285, 286, 287, 111, 112, 14, 152, 153, 154, 155, 16, 102, 156, 157, 158, 31, 159, 56, 160, 161, 58, 59, 162, 163, 60, 61, 331, 332, 333, 334, 144, 297, 298, 299, 300, 27, 164, 165, 166, 167, 22, 168, 169, 170, 171, 21, 172, 35, 36, 37, 118, 119, 120, 121, 18, 122, 123, 124, 125, 126, 127, 128, 129, 131, 132, 133, 134, 135, 136, 137, 138, 29, 139, 42, 43, 140, 141, 142, 143, 145, 146, 147, 148, 149, 150, 25, 101, 151, 668, 669, 670, 671, 672, 673, 674, 675, 676, 677, 630, 631, 632, 633, 634, 635, 636, 637, 638, 678, 679, 680, 681, 682, 683, 684, 685, 665, 666, 667] (by decide +kernel) (by decide +kernel)) (goodIn_sub (fun _ h => List.mem_append_right _ h) (by decide +kernel))) (goodIn_sub (fun _ h => List.mem_append_left _ (List.mem_append_left _ (List.mem_append_right _ h))) (by decide +kernel))
set_option maxRecDepth 20000 in
theorem gL_law_L_order : GoodIn wsL_law (va_wsS RL 124 yL_order wsL_order) := goodIn_app (goodIn_of _ (by decide +kernel)) ggL_law_L_order
set_option maxRecDepth 20000 in
theorem ggL_law_X4_order : GoodIn wsL_law wsX4_order := goodIn_r _ [338, 70, 305, 306, 5, 307, 177, 178, 179, 198, 199, 200, 201, 81, 202, 203, 204, 205, 80, 72, 82, 83, 73, 74, 84, 85, 180, 181, 182, 183, 184, 339, 340, 341, 342, 206, 207, 208, 209, 88, 210, 89, 308, 309, 310, 311, 75, 312, 317, 318, 319, 320, 185, 186, 187, 188, 87, 76, 77, 189, 86, 190, 191, 192, 193, 71, 194, 195, 196, 197, 639, 640, 641, 642, 643, 644, 645, 646, 647, 648, 649, 650, 651, 652, 653, 654, 655, 656, 657, 658, 659, 660, 661, 662, 663, 664] (by decide +kernel) (by decide +kernel)
set_option maxRecDepth 20000 in
theorem gL_law_X4_order : GoodIn wsL_law (wsV RL 127 RX4 yX4_order wsX4_order) := goodIn_app (goodIn_of _ (by decide +kernel)) ggL_law_X4_order
set_option maxRecDepth 20000 in
theorem ggL_law_L_cancel : GoodIn wsL_law wsL_cancel := goodIn_ca (goodIn_ca (goodIn_r _ [345, 94, 324, 346, 347, 348, 2, 349, 329, 330, 130, 284, 285, 286, 287, 111, 112, 14, 164, 165, 166, 167, 22, 168, 169, 170, 171, 21, 172, 35, 36, 37, 118, 119, 120, 121, 18, 122, 123, 124, 125, 126, 127, 128, 129, 131, 132, 133, 134, 135, 136, 137, 138, 29, 139, 42, 43, 140, 141, 142, 143, 144, 145, 146, 147, 148, 149, 150, 25, 101, 151, 152, 153, 154, 155, 16, 102, 156, 157, 158, 31, 159, 56, 160, 161, 58, 59, 162, 163, 60, 61, 668, 669, 670, 671, 672, 673, 674, 675, 676, 677, 630, 631, 632, 633, 634, 635, 636, 637, 638, 665, 666, 667, 678, 679, 680, 681, 682, 683, 684, 685] (by decide +kernel) (by decide +kernel)) (goodIn_sub (fun _ h => List.mem_append_right _ h) (by decide +kernel))) (goodIn_sub (fun _ h => List.mem_append_left _ (List.mem_append_left _ (List.mem_append_right _ h))) (by decide +kernel))
set_option maxRecDepth 20000 in
theorem gL_law_L_cancel : GoodIn wsL_law (va_wsS RL 128 yL_cancel wsL_cancel) := goodIn_app (goodIn_of _ (by decide +kernel)) ggL_law_L_cancel
set_option maxRecDepth 20000 in
theorem ggL_law_X4_cancel : GoodIn wsL_law wsX4_cancel := goodIn_r _ [353, 70, 305, 306, 5, 307, 177, 178, 179, 180, 181, 182, 183, 184, 206, 207, 208, 209, 88, 210, 89, 185, 186, 187, 188, 87, 76, 77, 189, 86, 190, 191, 192, 193, 71, 75, 194, 195, 196, 197, 198, 199, 200, 201, 81, 202, 203, 204, 205, 80, 72, 82, 83, 73, 74, 84, 85, 639, 640, 641, 642, 643, 644, 645, 646, 647, 648, 649, 650, 651, 652, 653, 654, 655, 656, 657, 658, 659, 660, 661, 662, 663, 664] (by decide +kernel) (by decide +kernel)
set_option maxRecDepth 20000 in
theorem gL_law_X4_cancel : GoodIn wsL_law (wsV RL 130 RX4 yX4_cancel wsX4_cancel) := goodIn_app (goodIn_of _ (by decide +kernel)) ggL_law_X4_cancel
set_option maxRecDepth 20000 in
theorem ggL_law_L_finish : GoodIn wsL_law wsL_finish := goodIn_ca (goodIn_ca (goodIn_r _ [356, 94, 324, 357, 358, 359, 2, 360, 329, 330, 130, 296, 284, 285, 286, 287, 111, 112, 14, 164, 165, 166, 167, 22, 168, 169, 170, 171, 21, 172, 35, 36, 37, 292, 293, 294, 295, 24, 25, 23, 151, 118, 119, 120, 121, 18, 122, 123, 124, 125, 126, 127, 128, 129, 131, 132, 133, 134, 135, 136, 137, 138, 29, 139, 42, 43, 140, 141, 142, 143, 144, 145, 146, 147, 148, 149, 150, 101, 152, 153, 154, 155, 16, 102, 156, 157, 158, 31, 159, 56, 160, 161, 58, 59, 162, 163, 60, 61, 668, 669, 670, 671, 672, 673, 674, 675, 676, 677, 630, 631, 632, 633, 634, 635, 636, 637, 638, 665, 666, 667, 678, 679, 680, 681, 682, 683, 684, 685] (by decide +kernel) (by decide +kernel)) (goodIn_sub (fun _ h => List.mem_append_right _ h) (by decide +kernel))) (goodIn_sub (fun _ h => List.mem_append_left _ (List.mem_append_left _ (List.mem_append_right _ h))) (by decide +kernel))
set_option maxRecDepth 20000 in
theorem gL_law_L_finish : GoodIn wsL_law (va_wsS RL 131 yL_finish wsL_finish) := goodIn_app (goodIn_of _ (by decide +kernel)) ggL_law_L_finish
set_option maxRecDepth 20000 in
theorem ggL_law_X4_finish : GoodIn wsL_law wsX4_finish := goodIn_r _ [364, 70, 78, 305, 306, 5, 307, 177, 178, 179, 180, 181, 182, 183, 184, 206, 207, 208, 209, 88, 210, 89, 313, 314, 315, 316, 69, 68, 77, 189, 317, 318, 319, 320, 185, 186, 187, 188, 87, 76, 86, 190, 191, 192, 193, 71, 75, 194, 195, 196, 197, 198, 199, 200, 201, 81, 202, 203, 204, 205, 80, 72, 82, 83, 73, 74, 84, 85, 639, 640, 641, 642, 643, 644, 645, 646, 647, 648, 649, 650, 651, 652, 653, 654, 655, 656, 657, 658, 659, 660, 661, 662, 663, 664] (by decide +kernel) (by decide +kernel)
set_option maxRecDepth 20000 in
theorem gL_law_X4_finish : GoodIn wsL_law (wsV RL 134 RX4 yX4_finish wsX4_finish) := goodIn_app (goodIn_of _ (by decide +kernel)) ggL_law_X4_finish
set_option maxRecDepth 20000 in
theorem ggL_law_L_retire : GoodIn wsL_law wsL_retire := goodIn_ca (goodIn_ca (goodIn_ca (goodIn_r _ [367, 94, 95, 324, 368, 369, 370, 2, 371, 329, 330, 130, 25, 151, 284, 285, 286, 287, 111, 112, 14, 113, 114, 115, 116, 117, 372, 373, 374, 375, 26, 164, 165, 166, 167, 22, 168, 169, 170, 171, 21, 172, 35, 36, 37, 118, 119, 120, 121, 18, 122, 123, 124, 125, 126, 127, 128, 129, 131, 132, 133, 134, 135, 136, 137, 138, 29, 139, 42, 43, 140, 141, 142, 143, 144, 145, 146, 147, 148, 149, 150, 101, 152, 153, 154, 155, 16, 102, 156, 157, 158, 31, 159, 56, 160, 161, 58, 59, 162, 163, 60, 61, 668, 669, 670, 671, 672, 673, 674, 675, 676, 677, 630, 631, 632, 633, 634, 635, 636, 637, 638, 665, 666, 667, 678, 679, 680, 681, 682, 683, 684, 685] (by decide +kernel) (by decide +kernel)) (goodIn_sub (fun _ h => List.mem_append_right _ h) (by decide +kernel))) (goodIn_sub (fun _ h => List.mem_append_left _ (List.mem_append_left _ (List.mem_append_right _ h))) (by decide +kernel))) (goodIn_sub (fun _ h => List.mem_append_left _ (List.mem_append_right _ h)) (by decide +kernel))
set_option maxRecDepth 20000 in
theorem gL_law_L_retire : GoodIn wsL_law (va_wsS RL 135 yL_retire wsL_retire) := goodIn_app (goodIn_of _ (by decide +kernel)) ggL_law_L_retire
set_option maxRecDepth 20000 in
theorem ggL_law_X4_retire : GoodIn wsL_law wsX4_retire := goodIn_r _ [379, 70, 77, 189, 305, 306, 5, 307, 177, 178, 179, 180, 181, 182, 183, 184, 380, 381, 382, 383, 384, 206, 207, 208, 209, 88, 210, 89, 185, 186, 187, 188, 87, 76, 86, 190, 191, 192, 193, 71, 75, 194, 195, 196, 197, 198, 199, 200, 201, 81, 202, 203, 204, 205, 80, 72, 82, 83, 73, 74, 84, 85, 639, 640, 641, 642, 643, 644, 645, 646, 647, 648, 649, 650, 651, 652, 653, 654, 655, 656, 657, 658, 659, 660, 661, 662, 663, 664] (by decide +kernel) (by decide +kernel)
set_option maxRecDepth 20000 in
theorem gL_law_X4_retire : GoodIn wsL_law (wsV RL 137 RX4 yX4_retire wsX4_retire) := goodIn_app (goodIn_of _ (by decide +kernel)) ggL_law_X4_retire
set_option maxRecDepth 20000 in
theorem ggL_law_L_keep : GoodIn wsL_law wsL_keep := goodIn_ca (goodIn_ca (goodIn_r _ [387, 94, 324, 388, 389, 390, 2, 391, 329, 330, 130, 284, 285, 286, 287, 111, 112, 14, 164, 165, 166, 167, 22, 168, 169, 170, 171, 21, 172, 35, 36, 37, 118, 119, 120, 121, 18, 122, 123, 124, 125, 126, 127, 128, 129, 131, 132, 133, 134, 135, 136, 137, 138, 29, 139, 42, 43, 140, 141, 142, 143, 144, 145, 146, 147, 148, 149, 150, 25, 101, 151, 152, 153, 154, 155, 16, 102, 156, 157, 158, 31, 159, 56, 160, 161, 58, 59, 162, 163, 60, 61, 668, 669, 670, 671, 672, 673, 674, 675, 676, 677, 630, 631, 632, 633, 634, 635, 636, 637, 638, 665, 666, 667, 678, 679, 680, 681, 682, 683, 684, 685] (by decide +kernel) (by decide +kernel)) (goodIn_sub (fun _ h => List.mem_append_right _ h) (by decide +kernel))) (goodIn_sub (fun _ h => List.mem_append_left _ (List.mem_append_left _ (List.mem_append_right _ h))) (by decide +kernel))
set_option maxRecDepth 20000 in
theorem gL_law_L_keep : GoodIn wsL_law (va_wsS RL 138 yL_keep wsL_keep) := goodIn_app (goodIn_of _ (by decide +kernel)) ggL_law_L_keep
set_option maxRecDepth 20000 in
theorem ggL_law_X4_keep : GoodIn wsL_law wsX4_keep := goodIn_r _ [395, 70, 305, 306, 5, 307, 177, 178, 179, 180, 181, 182, 183, 184, 206, 207, 208, 209, 88, 210, 89, 185, 186, 187, 188, 87, 76, 77, 189, 86, 190, 191, 192, 193, 71, 75, 194, 195, 196, 197, 198, 199, 200, 201, 81, 202, 203, 204, 205, 80, 72, 82, 83, 73, 74, 84, 85, 639, 640, 641, 642, 643, 644, 645, 646, 647, 648, 649, 650, 651, 652, 653, 654, 655, 656, 657, 658, 659, 660, 661, 662, 663, 664] (by decide +kernel) (by decide +kernel)
set_option maxRecDepth 20000 in
theorem gL_law_X4_keep : GoodIn wsL_law (wsV RL 140 RX4 yX4_keep wsX4_keep) := goodIn_app (goodIn_of _ (by decide +kernel)) ggL_law_X4_keep
set_option maxRecDepth 20000 in
theorem ggL_law_L_release : GoodIn wsL_law wsL_release := goodIn_ca (goodIn_ca (goodIn_r _ [398, 94, 324, 399, 400, 401, 2, 402, 329, 330, 130, 296, 284, 285, 286, 287, 111, 112, 14, 164, 165, 166, 167, 22, 168, 169, 170, 171, 21, 172, 35, 36, 37, 118, 119, 120, 121, 18, 122, 123, 124, 125, 126, 127, 128, 129, 131, 132, 133, 134, 135, 136, 137, 138, 29, 139, 42, 43, 140, 141, 142, 143, 144, 145, 146, 147, 148, 149, 150, 25, 101, 151, 152, 153, 154, 155, 16, 102, 156, 157, 158, 31, 159, 56, 160, 161, 58, 59, 162, 163, 60, 61, 668, 669, 670, 671, 672, 673, 674, 675, 676, 677, 630, 631, 632, 633, 634, 635, 636, 637, 638, 665, 666, 667, 678, 679, 680, 681, 682, 683, 684, 685] (by decide +kernel) (by decide +kernel)) (goodIn_sub (fun _ h => List.mem_append_right _ h) (by decide +kernel))) (goodIn_sub (fun _ h => List.mem_append_left _ (List.mem_append_left _ (List.mem_append_right _ h))) (by decide +kernel))
set_option maxRecDepth 20000 in
theorem gL_law_L_release : GoodIn wsL_law (va_wsS RL 141 yL_release wsL_release) := goodIn_app (goodIn_of _ (by decide +kernel)) ggL_law_L_release
set_option maxRecDepth 20000 in
theorem ggL_law_X4_release : GoodIn wsL_law wsX4_release := goodIn_r _ [406, 70, 78, 305, 306, 5, 307, 177, 178, 179, 180, 181, 182, 183, 184, 206, 207, 208, 209, 88, 210, 89, 185, 186, 187, 188, 87, 76, 77, 189, 86, 190, 191, 192, 193, 71, 75, 194, 195, 196, 197, 198, 199, 200, 201, 81, 202, 203, 204, 205, 80, 72, 82, 83, 73, 74, 84, 85, 639, 640, 641, 642, 643, 644, 645, 646, 647, 648, 649, 650, 651, 652, 653, 654, 655, 656, 657, 658, 659, 660, 661, 662, 663, 664] (by decide +kernel) (by decide +kernel)
set_option maxRecDepth 20000 in
theorem gL_law_X4_release : GoodIn wsL_law (wsV RL 143 RX4 yX4_release wsX4_release) := goodIn_app (goodIn_of _ (by decide +kernel)) ggL_law_X4_release
set_option maxRecDepth 20000 in
theorem ggL_law_L_advance : GoodIn wsL_law wsL_advance := goodIn_ca (goodIn_r _ [409, 95, 410, 411, 412, 2, 413, 22, 414, 113, 114, 115, 116, 117, 415, 416, 417, 418, 25, 419, 420, 421, 422, 14, 423, 424, 425, 29, 426, 42, 49, 292, 293, 294, 295, 296, 24, 23, 151, 164, 165, 166, 167, 168, 130, 169, 170, 171, 21, 172, 35, 36, 37, 427, 428, 429, 430, 372, 373, 374, 375, 26, 431, 432, 433, 434, 331, 332, 333, 334, 144, 297, 298, 299, 300, 27, 118, 119, 120, 121, 18, 122, 123, 124, 125, 126, 127, 128, 129, 131, 132, 133, 134, 135, 136, 137, 138, 139, 43, 140, 141, 142, 143, 145, 146, 147, 148, 149, 150, 101, 152, 153, 154, 155, 16, 102, 156, 157, 158, 31, 159, 56, 160, 161, 58, 59, 162, 163, 60, 61, 630, 631, 632, 633, 634, 635, 636, 637, 638, 665, 666, 667, 668, 669, 670, 671, 672, 673, 674, 675, 676, 677, 678, 679, 680, 681, 682, 683, 684, 685] (by decide +kernel) (by decide +kernel)) (goodIn_sub (fun _ h => List.mem_append_left _ (List.mem_append_right _ h)) (by decide +kernel))
set_option maxRecDepth 20000 in
theorem gL_law_L_advance : GoodIn wsL_law (va_wsS RL 144 yL_advance wsL_advance) := goodIn_app (goodIn_of _ (by decide +kernel)) ggL_law_L_advance
set_option maxRecDepth 20000 in
theorem ggL_law_X4_advance : GoodIn wsL_law wsX4_advance := goodIn_r _ [438, 210, 177, 178, 5, 179, 180, 181, 182, 183, 184, 439, 440, 441, 442, 189, 443, 444, 445, 446, 70, 77, 313, 314, 315, 316, 78, 69, 68, 206, 207, 208, 209, 88, 89, 380, 381, 382, 383, 384, 339, 340, 341, 342, 308, 309, 310, 311, 75, 312, 185, 186, 187, 188, 87, 76, 86, 190, 191, 192, 193, 71, 194, 195, 196, 197, 198, 199, 200, 201, 81, 202, 203, 204, 205, 80, 72, 82, 83, 73, 74, 84, 85, 639, 640, 641, 642, 643, 644, 645, 646, 647, 648, 649, 650, 651, 652, 653, 654, 655, 656, 657, 658, 659, 660, 661, 662, 663, 664] (by decide +kernel) (by decide +kernel)
set_option maxRecDepth 20000 in
theorem gL_law_X4_advance : GoodIn wsL_law (wsV RL 146 RX4 yX4_advance wsX4_advance) := goodIn_app (goodIn_of _ (by decide +kernel)) ggL_law_X4_advance
set_option maxRecDepth 20000 in
theorem ggL_law_X3_now : GoodIn wsL_law wsX3_now := goodIn_r _ [450, 25, 630, 631, 632, 633, 634, 635, 636, 637, 638] (by decide +kernel) (by decide +kernel)
set_option maxRecDepth 20000 in
theorem gL_law_X3_now : GoodIn wsL_law (wsV RL 147 RX3 yX3_now wsX3_now) := goodIn_app (goodIn_of _ (by decide +kernel)) ggL_law_X3_now
set_option maxRecDepth 20000 in
theorem ggL_law_X4_now : GoodIn wsL_law wsX4_now := goodIn_r _ [454, 189, 455, 456, 457, 5, 458, 184, 639, 640, 641, 642, 643, 644, 645, 646, 647, 648, 649, 650, 651, 652, 653, 654, 655, 656, 657, 658, 659, 660, 661, 662, 663, 664] (by decide +kernel) (by decide +kernel)
set_option maxRecDepth 20000 in
theorem gL_law_X4_now : GoodIn wsL_law (wsV RL 150 RX4 yX4_now wsX4_now) := goodIn_app (goodIn_of _ (by decide +kernel)) ggL_law_X4_now
set_option maxRecDepth 20000 in
theorem ggL_law_L_stateOf : GoodIn wsL_law wsL_stateOf := goodIn_ca (goodIn_r _ [461, 94, 462, 463, 464, 2, 465, 130, 284, 285, 286, 287, 111, 112, 14, 668, 669, 670, 671, 672, 673, 674, 675, 676, 677, 630, 631, 632, 633, 634, 635, 636, 637, 638] (by decide +kernel) (by decide +kernel)) (goodIn_sub (fun _ h => List.mem_append_left _ (List.mem_append_left _ (List.mem_append_right _ h))) (by decide +kernel))
set_option maxRecDepth 20000 in
theorem gL_law_L_stateOf : GoodIn wsL_law (va_wsS RL 151 yL_stateOf wsL_stateOf) := goodIn_app (goodIn_of _ (by decide +kernel)) ggL_law_L_stateOf
set_option maxRecDepth 20000 in
theorem ggL_law_X4_stateOf : GoodIn wsL_law wsX4_stateOf := goodIn_r _ [469, 70, 305, 306, 5, 307, 177, 178, 179, 180, 181, 182, 183, 184, 639, 640, 641, 642, 643, 644, 645, 646, 647, 648, 649, 650, 651, 652, 653, 654, 655, 656, 657, 658, 659, 660, 661, 662, 663, 664] (by decide +kernel) (by decide +kernel)
set_option maxRecDepth 20000 in
theorem gL_law_X4_stateOf : GoodIn wsL_law (wsV RL 153 RX4 yX4_stateOf wsX4_stateOf) := goodIn_app (goodIn_of _ (by decide +kernel)) ggL_law_X4_stateOf
set_option maxRecDepth 20000 in
theorem ggL_law_L_reason : GoodIn wsL_law wsL_reason := goodIn_ca (goodIn_r _ [472, 94, 473, 474, 475, 2, 476, 130, 284, 285, 286, 287, 111, 112, 14, 152, 153, 154, 155, 16, 102, 156, 157, 158, 31, 159, 56, 160, 161, 58, 59, 162, 163, 60, 61, 477, 478, 479, 668, 669, 670, 671, 672, 673, 674, 675, 676, 677, 630, 631, 632, 633, 634, 635, 636, 637, 638, 678, 679, 680, 681, 682, 683, 684, 685] (by decide +kernel) (by decide +kernel)) (goodIn_sub (fun _ h => List.mem_append_left _ (List.mem_append_left _ (List.mem_append_right _ h))) (by decide +kernel))
set_option maxRecDepth 20000 in
theorem gL_law_L_reason : GoodIn wsL_law (va_wsS RL 154 yL_reason wsL_reason) := goodIn_app (goodIn_of _ (by decide +kernel)) ggL_law_L_reason
set_option maxRecDepth 20000 in
theorem ggL_law_X4_reason : GoodIn wsL_law wsX4_reason := goodIn_r _ [483, 305, 306, 5, 307, 177, 178, 179, 180, 181, 182, 183, 184, 484, 485, 486, 487, 70, 198, 199, 200, 201, 81, 202, 203, 204, 205, 80, 72, 82, 83, 73, 74, 84, 85, 639, 640, 641, 642, 643, 644, 645, 646, 647, 648, 649, 650, 651, 652, 653, 654, 655, 656, 657, 658, 659, 660, 661, 662, 663, 664] (by decide +kernel) (by decide +kernel)
set_option maxRecDepth 20000 in
theorem gL_law_X4_reason : GoodIn wsL_law (wsV RL 156 RX4 yX4_reason wsX4_reason) := goodIn_app (goodIn_of _ (by decide +kernel)) ggL_law_X4_reason
set_option maxRecDepth 20000 in
theorem ggL_law_L_matchOf : GoodIn wsL_law wsL_matchOf := goodIn_ca (goodIn_r _ [490, 94, 491, 492, 493, 2, 494, 149, 284, 285, 286, 287, 111, 112, 14, 152, 153, 154, 155, 16, 102, 156, 157, 158, 31, 159, 56, 160, 161, 58, 59, 162, 163, 60, 61, 678, 679, 680, 681, 682, 683, 684, 685, 630, 631, 632, 633, 634, 635, 636, 637, 638, 668, 669, 670, 671, 672, 673, 674, 675, 676, 677] (by decide +kernel) (by decide +kernel)) (goodIn_sub (fun _ h => List.mem_append_left _ (List.mem_append_left _ (List.mem_append_right _ h))) (by decide +kernel))
set_option maxRecDepth 20000 in
theorem gL_law_L_matchOf : GoodIn wsL_law (va_wsS RL 157 yL_matchOf wsL_matchOf) := goodIn_app (goodIn_of _ (by decide +kernel)) ggL_law_L_matchOf
set_option maxRecDepth 20000 in
theorem ggL_law_X4_matchOf : GoodIn wsL_law wsX4_matchOf := goodIn_r _ [498, 305, 306, 5, 307, 177, 178, 179, 180, 181, 182, 183, 184, 198, 199, 200, 201, 81, 202, 203, 204, 205, 80, 70, 72, 82, 83, 73, 74, 84, 85, 639, 640, 641, 642, 643, 644, 645, 646, 647, 648, 649, 650, 651, 652, 653, 654, 655, 656, 657, 658, 659, 660, 661, 662, 663, 664] (by decide +kernel) (by decide +kernel)
set_option maxRecDepth 20000 in
theorem gL_law_X4_matchOf : GoodIn wsL_law (wsV RL 159 RX4 yX4_matchOf wsX4_matchOf) := goodIn_app (goodIn_of _ (by decide +kernel)) ggL_law_X4_matchOf
set_option maxRecDepth 20000 in
theorem ggL_law_L_imageOf : GoodIn wsL_law wsL_imageOf := goodIn_ca (goodIn_r _ [501, 94, 502, 503, 504, 2, 505, 150, 284, 285, 286, 287, 111, 112, 14, 506, 507, 508, 29, 509, 42, 668, 669, 670, 671, 672, 673, 674, 675, 676, 677, 630, 631, 632, 633, 634, 635, 636, 637, 638] (by decide +kernel) (by decide +kernel)) (goodIn_sub (fun _ h => List.mem_append_left _ (List.mem_append_left _ (List.mem_append_right _ h))) (by decide +kernel))
set_option maxRecDepth 20000 in
theorem gL_law_L_imageOf : GoodIn wsL_law (va_wsS RL 160 yL_imageOf wsL_imageOf) := goodIn_app (goodIn_of _ (by decide +kernel)) ggL_law_L_imageOf
set_option maxRecDepth 20000 in
theorem ggL_law_X4_imageOf : GoodIn wsL_law wsX4_imageOf := goodIn_r _ [513, 70, 76, 305, 306, 5, 307, 177, 178, 179, 180, 181, 182, 183, 184, 639, 640, 641, 642, 643, 644, 645, 646, 647, 648, 649, 650, 651, 652, 653, 654, 655, 656, 657, 658, 659, 660, 661, 662, 663, 664] (by decide +kernel) (by decide +kernel)
set_option maxRecDepth 20000 in
theorem gL_law_X4_imageOf : GoodIn wsL_law (wsV RL 162 RX4 yX4_imageOf wsX4_imageOf) := goodIn_app (goodIn_of _ (by decide +kernel)) ggL_law_X4_imageOf
set_option maxRecDepth 20000 in
theorem ggL_law_L_endOf : GoodIn wsL_law wsL_endOf := goodIn_ca (goodIn_r _ [516, 94, 517, 518, 519, 2, 520, 151, 284, 285, 286, 287, 111, 112, 14, 521, 522, 523, 29, 524, 42, 668, 669, 670, 671, 672, 673, 674, 675, 676, 677, 630, 631, 632, 633, 634, 635, 636, 637, 638] (by decide +kernel) (by decide +kernel)) (goodIn_sub (fun _ h => List.mem_append_left _ (List.mem_append_left _ (List.mem_append_right _ h))) (by decide +kernel))
set_option maxRecDepth 20000 in
theorem gL_law_L_endOf : GoodIn wsL_law (va_wsS RL 163 yL_endOf wsL_endOf) := goodIn_app (goodIn_of _ (by decide +kernel)) ggL_law_L_endOf
set_option maxRecDepth 20000 in
theorem ggL_law_X4_endOf : GoodIn wsL_law wsX4_endOf := goodIn_r _ [528, 77, 305, 306, 5, 307, 177, 178, 179, 180, 181, 182, 183, 184, 529, 530, 531, 532, 70, 639, 640, 641, 642, 643, 644, 645, 646, 647, 648, 649, 650, 651, 652, 653, 654, 655, 656, 657, 658, 659, 660, 661, 662, 663, 664] (by decide +kernel) (by decide +kernel)
set_option maxRecDepth 20000 in
theorem gL_law_X4_endOf : GoodIn wsL_law (wsV RL 165 RX4 yX4_endOf wsX4_endOf) := goodIn_app (goodIn_of _ (by decide +kernel)) ggL_law_X4_endOf
set_option maxRecDepth 20000 in
theorem ggL_law_L_failuresOf : GoodIn wsL_law wsL_failuresOf := goodIn_ca (goodIn_r _ [535, 94, 536, 537, 538, 2, 539, 296, 284, 285, 286, 287, 111, 112, 14, 668, 669, 670, 671, 672, 673, 674, 675, 676, 677, 630, 631, 632, 633, 634, 635, 636, 637, 638] (by decide +kernel) (by decide +kernel)) (goodIn_sub (fun _ h => List.mem_append_left _ (List.mem_append_left _ (List.mem_append_right _ h))) (by decide +kernel))
set_option maxRecDepth 20000 in
theorem gL_law_L_failuresOf : GoodIn wsL_law (va_wsS RL 166 yL_failuresOf wsL_failuresOf) := goodIn_app (goodIn_of _ (by decide +kernel)) ggL_law_L_failuresOf
set_option maxRecDepth 20000 in
theorem ggL_law_X4_failuresOf : GoodIn wsL_law wsX4_failuresOf := goodIn_r _ [543, 78, 305, 306, 5, 307, 177, 178, 179, 180, 181, 182, 183, 184, 639, 640, 641, 642, 643, 644, 645, 646, 647, 648, 649, 650, 651, 652, 653, 654, 655, 656, 657, 658, 659, 660, 661, 662, 663, 664] (by decide +kernel) (by decide +kernel)
set_option maxRecDepth 20000 in
theorem gL_law_X4_failuresOf : GoodIn wsL_law (wsV RL 168 RX4 yX4_failuresOf wsX4_failuresOf) := goodIn_app (goodIn_of _ (by decide +kernel)) ggL_law_X4_failuresOf
set_option maxRecDepth 20000 in
theorem ggL_law_L_installing : GoodIn wsL_law wsL_installing := goodIn_ca (goodIn_r _ [546, 94, 547, 548, 549, 2, 550, 111, 112, 252, 253, 254, 255, 18, 126, 127, 128, 129, 14, 130, 131, 630, 631, 632, 633, 634, 635, 636, 637, 638, 668, 669, 670, 671, 672, 673, 674, 675, 676, 677] (by decide +kernel) (by decide +kernel)) (goodIn_sub (fun _ h => List.mem_append_left _ (List.mem_append_left _ (List.mem_append_right _ h))) (by decide +kernel))
set_option maxRecDepth 20000 in
theorem gL_law_L_installing : GoodIn wsL_law (va_wsS RL 169 yL_installing wsL_installing) := goodIn_app (goodIn_of _ (by decide +kernel)) ggL_law_L_installing
set_option maxRecDepth 20000 in
theorem ggL_law_X4_installing : GoodIn wsL_law wsX4_installing := goodIn_r _ [554, 260, 261, 5, 262, 177, 178, 179, 180, 181, 182, 183, 184, 194, 195, 196, 197, 70, 71, 639, 640, 641, 642, 643, 644, 645, 646, 647, 648, 649, 650, 651, 652, 653, 654, 655, 656, 657, 658, 659, 660, 661, 662, 663, 664] (by decide +kernel) (by decide +kernel)
set_option maxRecDepth 20000 in
theorem gL_law_X4_installing : GoodIn wsL_law (wsV RL 171 RX4 yX4_installing wsX4_installing) := goodIn_app (goodIn_of _ (by decide +kernel)) ggL_law_X4_installing
set_option maxRecDepth 20000 in
theorem ggL_law_L_queueAt : GoodIn wsL_law wsL_queueAt := goodIn_ca (goodIn_r _ [557, 94, 558, 559, 560, 2, 561, 111, 112, 168, 252, 253, 254, 255, 18, 132, 133, 134, 135, 14, 136, 137, 138, 29, 139, 42, 43, 140, 141, 142, 143, 131, 144, 668, 669, 670, 671, 672, 673, 674, 675, 676, 677, 630, 631, 632, 633, 634, 635, 636, 637, 638] (by decide +kernel) (by decide +kernel)) (goodIn_sub (fun _ h => List.mem_append_left _ (List.mem_append_left _ (List.mem_append_right _ h))) (by decide +kernel))
set_option maxRecDepth 20000 in
theorem gL_law_L_queueAt : GoodIn wsL_law (va_wsS RL 172 yL_queueAt wsL_queueAt) := goodIn_app (goodIn_of _ (by decide +kernel)) ggL_law_L_queueAt
set_option maxRecDepth 20000 in
theorem ggL_law_X4_queueAt : GoodIn wsL_law wsX4_queueAt := goodIn_r _ [565, 260, 261, 5, 262, 177, 178, 179, 180, 181, 182, 183, 184, 190, 191, 192, 193, 70, 71, 75, 639, 640, 641, 642, 643, 644, 645, 646, 647, 648, 649, 650, 651, 652, 653, 654, 655, 656, 657, 658, 659, 660, 661, 662, 663, 664] (by decide +kernel) (by decide +kernel)
set_option maxRecDepth 20000 in
theorem gL_law_X4_queueAt : GoodIn wsL_law (wsV RL 174 RX4 yX4_queueAt wsX4_queueAt) := goodIn_app (goodIn_of _ (by decide +kernel)) ggL_law_X4_queueAt
set_option maxRecDepth 20000 in
theorem ggL_law_X3_nextChange : GoodIn wsL_law wsX3_nextChange := goodIn_r _ [569, 14, 151, 25, 521, 522, 523, 29, 524, 42, 630, 631, 632, 633, 634, 635, 636, 637, 638, 668, 669, 670, 671, 672, 673, 674, 675, 676, 677] (by decide +kernel) (by decide +kernel)
set_option maxRecDepth 20000 in
theorem gL_law_X3_nextChange : GoodIn wsL_law (wsV RL 175 RX3 yX3_nextChange wsX3_nextChange) := goodIn_app (goodIn_of _ (by decide +kernel)) ggL_law_X3_nextChange
set_option maxRecDepth 20000 in
theorem ggL_law_X4_nextChange : GoodIn wsL_law wsX4_nextChange := goodIn_r _ [573, 184, 77, 189, 529, 530, 531, 5, 532, 70, 639, 640, 641, 642, 643, 644, 645, 646, 647, 648, 649, 650, 651, 652, 653, 654, 655, 656, 657, 658, 659, 660, 661, 662, 663, 664] (by decide +kernel) (by decide +kernel)
set_option maxRecDepth 20000 in
theorem gL_law_X4_nextChange : GoodIn wsL_law (wsV RL 178 RX4 yX4_nextChange wsX4_nextChange) := goodIn_app (goodIn_of _ (by decide +kernel)) ggL_law_X4_nextChange
set_option maxRecDepth 20000 in
theorem ggL_law_X3_wipes : GoodIn wsL_law wsX3_wipes := goodIn_r _ [577, 26, 630, 631, 632, 633, 634, 635, 636, 637, 638] (by decide +kernel) (by decide +kernel)
set_option maxRecDepth 20000 in
theorem gL_law_X3_wipes : GoodIn wsL_law (wsV RL 179 RX3 yX3_wipes wsX3_wipes) := goodIn_app (goodIn_of _ (by decide +kernel)) ggL_law_X3_wipes
set_option maxRecDepth 20000 in
theorem ggL_law_X4_wipes : GoodIn wsL_law wsX4_wipes := goodIn_r _ [581, 384, 455, 456, 457, 5, 458, 184, 639, 640, 641, 642, 643, 644, 645, 646, 647, 648, 649, 650, 651, 652, 653, 654, 655, 656, 657, 658, 659, 660, 661, 662, 663, 664] (by decide +kernel) (by decide +kernel)
set_option maxRecDepth 20000 in
theorem gL_law_X4_wipes : GoodIn wsL_law (wsV RL 182 RX4 yX4_wipes wsX4_wipes) := goodIn_app (goodIn_of _ (by decide +kernel)) ggL_law_X4_wipes
set_option maxRecDepth 20000 in
theorem ggL_law_X3_entries : GoodIn wsL_law wsX3_entries := goodIn_r _ [585, 22, 586, 587, 588, 21, 589, 37, 35, 590, 591, 592, 593, 630, 631, 632, 633, 634, 635, 636, 637, 638, 665, 666, 667] (by decide +kernel) (by decide +kernel)
set_option maxRecDepth 20000 in
theorem gL_law_X3_entries : GoodIn wsL_law (wsV RL 183 RX3 yX3_entries wsX3_entries) := goodIn_app (goodIn_of _ (by decide +kernel)) ggL_law_X3_entries
set_option maxRecDepth 20000 in
theorem ggL_law_X4_entries : GoodIn wsL_law wsX4_entries := goodIn_r _ [597, 598, 599, 600, 5, 601, 210, 455, 456, 457, 458, 184, 639, 640, 641, 642, 643, 644, 645, 646, 647, 648, 649, 650, 651, 652, 653, 654, 655, 656, 657, 658, 659, 660, 661, 662, 663, 664] (by decide +kernel) (by decide +kernel)
set_option maxRecDepth 20000 in
theorem gL_law_X4_entries : GoodIn wsL_law (wsV RL 186 RX4 yX4_entries wsX4_entries) := goodIn_app (goodIn_of _ (by decide +kernel)) ggL_law_X4_entries
set_option maxRecDepth 20000 in
theorem ggL_law_L_machineAt : GoodIn wsL_law wsL_machineAt := goodIn_ca (goodIn_r _ [604, 94, 605, 606, 607, 2, 608, 111, 112, 22, 609, 586, 587, 588, 21, 589, 37, 35, 590, 591, 592, 593, 630, 631, 632, 633, 634, 635, 636, 637, 638, 665, 666, 667] (by decide +kernel) (by decide +kernel)) (goodIn_sub (fun _ h => List.mem_append_left _ (List.mem_append_left _ (List.mem_append_right _ h))) (by decide +kernel))
set_option maxRecDepth 20000 in
theorem gL_law_L_machineAt : GoodIn wsL_law (va_wsS RL 187 yL_machineAt wsL_machineAt) := goodIn_app (goodIn_of _ (by decide +kernel)) ggL_law_L_machineAt
set_option maxRecDepth 20000 in
theorem ggL_law_X4_machineAt : GoodIn wsL_law wsX4_machineAt := goodIn_r _ [613, 88, 598, 599, 600, 5, 601, 210, 177, 178, 179, 180, 181, 182, 183, 184, 614, 615, 616, 617, 639, 640, 641, 642, 643, 644, 645, 646, 647, 648, 649, 650, 651, 652, 653, 654, 655, 656, 657, 658, 659, 660, 661, 662, 663, 664] (by decide +kernel) (by decide +kernel)
set_option maxRecDepth 20000 in
theorem gL_law_X4_machineAt : GoodIn wsL_law (wsV RL 189 RX4 yX4_machineAt wsX4_machineAt) := goodIn_app (goodIn_of _ (by decide +kernel)) ggL_law_X4_machineAt
set_option maxRecDepth 20000 in
theorem ggL_law_L_stateBefore : GoodIn wsL_law wsL_stateBefore := goodIn_ca (goodIn_ca (goodIn_r _ [620, 94, 95, 621, 622, 623, 2, 624, 22, 130, 609, 168, 625, 284, 285, 286, 287, 111, 112, 14, 586, 587, 588, 21, 589, 37, 35, 590, 591, 592, 593, 113, 114, 115, 116, 117, 630, 631, 632, 633, 634, 635, 636, 637, 638, 668, 669, 670, 671, 672, 673, 674, 675, 676, 677, 665, 666, 667] (by decide +kernel) (by decide +kernel)) (goodIn_sub (fun _ h => List.mem_append_left _ (List.mem_append_left _ (List.mem_append_right _ h))) (by decide +kernel))) (goodIn_sub (fun _ h => List.mem_append_left _ (List.mem_append_right _ h)) (by decide +kernel))
set_option maxRecDepth 20000 in
theorem gL_law_L_stateBefore : GoodIn wsL_law (va_wsS RL 190 yL_stateBefore wsL_stateBefore) := goodIn_app (goodIn_of _ (by decide +kernel)) ggL_law_L_stateBefore
set_option maxRecDepth 20000 in
theorem ggL_law_X4_stateBefore : GoodIn wsL_law wsX4_stateBefore := goodIn_r _ [629, 70, 88, 89, 305, 306, 5, 307, 177, 178, 179, 598, 599, 600, 601, 210, 180, 181, 182, 183, 184, 614, 615, 616, 617, 639, 640, 641, 642, 643, 644, 645, 646, 647, 648, 649, 650, 651, 652, 653, 654, 655, 656, 657, 658, 659, 660, 661, 662, 663, 664] (by decide +kernel) (by decide +kernel)
set_option maxRecDepth 20000 in
theorem gL_law_X4_stateBefore : GoodIn wsL_law (wsV RL 192 RX4 yX4_stateBefore wsX4_stateBefore) := goodIn_app (goodIn_of _ (by decide +kernel)) ggL_law_X4_stateBefore
