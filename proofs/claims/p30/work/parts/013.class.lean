theorem dX0_init_0 : decode cX0_init 0 = .ok (.aload_n 0, 1) := by decide +kernel
theorem dX0_init_1 : decode cX0_init 1 = .ok (.invokespecial 3, 3) := by decide +kernel
theorem dX0_init_4 : decode cX0_init 4 = .ok (.aload_n 0, 1) := by decide +kernel
theorem dX0_init_5 : decode cX0_init 5 = .ok (.iconst 0, 1) := by decide +kernel
theorem dX0_init_6 : decode cX0_init 6 = .ok (.putfield 9, 3) := by decide +kernel
theorem dX0_init_9 : decode cX0_init 9 = .ok (.aload_n 0, 1) := by decide +kernel
theorem dX0_init_10 : decode cX0_init 10 = .ok (.iconst 0, 1) := by decide +kernel
theorem dX0_init_11 : decode cX0_init 11 = .ok (.putfield 15, 3) := by decide +kernel
theorem dX0_init_14 : decode cX0_init 14 = .ok (.aload_n 0, 1) := by decide +kernel
theorem dX0_init_15 : decode cX0_init 15 = .ok (.iconst 0, 1) := by decide +kernel
theorem dX0_init_16 : decode cX0_init 16 = .ok (.putfield 19, 3) := by decide +kernel
theorem dX0_init_19 : decode cX0_init 19 = .ok (.aload_n 0, 1) := by decide +kernel
theorem dX0_init_20 : decode cX0_init 20 = .ok (.iconst 0, 1) := by decide +kernel
theorem dX0_init_21 : decode cX0_init 21 = .ok (.putfield 22, 3) := by decide +kernel
theorem dX0_init_24 : decode cX0_init 24 = .ok (.aload_n 0, 1) := by decide +kernel
theorem dX0_init_25 : decode cX0_init 25 = .ok (.iconst 0, 1) := by decide +kernel
theorem dX0_init_26 : decode cX0_init 26 = .ok (.putfield 25, 3) := by decide +kernel
theorem dX0_init_29 : decode cX0_init 29 = .ok (.aload_n 0, 1) := by decide +kernel
theorem dX0_init_30 : decode cX0_init 30 = .ok (.iconst 0, 1) := by decide +kernel
theorem dX0_init_31 : decode cX0_init 31 = .ok (.putfield 28, 3) := by decide +kernel
theorem dX0_init_34 : decode cX0_init 34 = .ok (.aload_n 0, 1) := by decide +kernel
theorem dX0_init_35 : decode cX0_init 35 = .ok (.iconst 2, 1) := by decide +kernel
theorem dX0_init_36 : decode cX0_init 36 = .ok (.putfield 31, 3) := by decide +kernel
theorem dX0_init_39 : decode cX0_init 39 = .ok (.aload_n 0, 1) := by decide +kernel
theorem dX0_init_40 : decode cX0_init 40 = .ok (.iload_n 1, 1) := by decide +kernel
theorem dX0_init_41 : decode cX0_init 41 = .ok (.putfield 34, 3) := by decide +kernel
theorem dX0_init_44 : decode cX0_init 44 = .ok (.return_, 1) := by decide +kernel
theorem dX0_matches_0 : decode cX0_matches 0 = .ok (.aload_n 0, 1) := by decide +kernel
theorem dX0_matches_1 : decode cX0_matches 1 = .ok (.getfield 9, 3) := by decide +kernel
theorem dX0_matches_4 : decode cX0_matches 4 = .ok (.ifCond .eq 68, 3) := by decide +kernel
theorem dX0_matches_7 : decode cX0_matches 7 = .ok (.aload_n 1, 1) := by decide +kernel
theorem dX0_matches_8 : decode cX0_matches 8 = .ok (.getfield 37, 3) := by decide +kernel
theorem dX0_matches_11 : decode cX0_matches 11 = .ok (.ifCond .eq 61, 3) := by decide +kernel
theorem dX0_matches_14 : decode cX0_matches 14 = .ok (.aload_n 1, 1) := by decide +kernel
theorem dX0_matches_15 : decode cX0_matches 15 = .ok (.getfield 42, 3) := by decide +kernel
theorem dX0_matches_18 : decode cX0_matches 18 = .ok (.aload_n 0, 1) := by decide +kernel
theorem dX0_matches_19 : decode cX0_matches 19 = .ok (.getfield 19, 3) := by decide +kernel
theorem dX0_matches_22 : decode cX0_matches 22 = .ok (.if_icmp .lt 50, 3) := by decide +kernel
theorem dX0_matches_25 : decode cX0_matches 25 = .ok (.aload_n 0, 1) := by decide +kernel
theorem dX0_matches_26 : decode cX0_matches 26 = .ok (.getfield 22, 3) := by decide +kernel
theorem dX0_matches_29 : decode cX0_matches 29 = .ok (.aload_n 1, 1) := by decide +kernel
theorem dX0_matches_30 : decode cX0_matches 30 = .ok (.getfield 43, 3) := by decide +kernel
theorem dX0_matches_33 : decode cX0_matches 33 = .ok (.ishr, 1) := by decide +kernel
theorem dX0_matches_34 : decode cX0_matches 34 = .ok (.iconst 1, 1) := by decide +kernel
theorem dX0_matches_35 : decode cX0_matches 35 = .ok (.iand, 1) := by decide +kernel
theorem dX0_matches_36 : decode cX0_matches 36 = .ok (.iconst 1, 1) := by decide +kernel
theorem dX0_matches_37 : decode cX0_matches 37 = .ok (.if_icmp .ne 35, 3) := by decide +kernel
theorem dX0_matches_40 : decode cX0_matches 40 = .ok (.aload_n 1, 1) := by decide +kernel
theorem dX0_matches_41 : decode cX0_matches 41 = .ok (.getfield 46, 3) := by decide +kernel
theorem dX0_matches_44 : decode cX0_matches 44 = .ok (.aload_n 0, 1) := by decide +kernel
theorem dX0_matches_45 : decode cX0_matches 45 = .ok (.getfield 25, 3) := by decide +kernel
theorem dX0_matches_48 : decode cX0_matches 48 = .ok (.iand, 1) := by decide +kernel
theorem dX0_matches_49 : decode cX0_matches 49 = .ok (.aload_n 0, 1) := by decide +kernel
theorem dX0_matches_50 : decode cX0_matches 50 = .ok (.getfield 25, 3) := by decide +kernel
theorem dX0_matches_53 : decode cX0_matches 53 = .ok (.if_icmp .ne 19, 3) := by decide +kernel
theorem dX0_matches_56 : decode cX0_matches 56 = .ok (.aload_n 1, 1) := by decide +kernel
theorem dX0_matches_57 : decode cX0_matches 57 = .ok (.getfield 46, 3) := by decide +kernel
theorem dX0_matches_60 : decode cX0_matches 60 = .ok (.aload_n 0, 1) := by decide +kernel
theorem dX0_matches_61 : decode cX0_matches 61 = .ok (.getfield 28, 3) := by decide +kernel
theorem dX0_matches_64 : decode cX0_matches 64 = .ok (.iand, 1) := by decide +kernel
theorem dX0_matches_65 : decode cX0_matches 65 = .ok (.ifCond .ne 7, 3) := by decide +kernel
theorem dX0_matches_68 : decode cX0_matches 68 = .ok (.iconst 1, 1) := by decide +kernel
theorem dX0_matches_69 : decode cX0_matches 69 = .ok (.goto 4, 3) := by decide +kernel
theorem dX0_matches_72 : decode cX0_matches 72 = .ok (.iconst 0, 1) := by decide +kernel
theorem dX0_matches_73 : decode cX0_matches 73 = .ok (.ireturn, 1) := by decide +kernel
theorem dX1_init_0 : decode cX1_init 0 = .ok (.aload_n 0, 1) := by decide +kernel
theorem dX1_init_1 : decode cX1_init 1 = .ok (.invokespecial 1, 3) := by decide +kernel
theorem dX1_init_4 : decode cX1_init 4 = .ok (.aload_n 0, 1) := by decide +kernel
theorem dX1_init_5 : decode cX1_init 5 = .ok (.bipush 40, 2) := by decide +kernel
theorem dX1_init_7 : decode cX1_init 7 = .ok (.newarray .int, 2) := by decide +kernel
theorem dX1_init_9 : decode cX1_init 9 = .ok (.putfield 7, 3) := by decide +kernel
theorem dX1_init_12 : decode cX1_init 12 = .ok (.aload_n 0, 1) := by decide +kernel
theorem dX1_init_13 : decode cX1_init 13 = .ok (.bipush 40, 2) := by decide +kernel
theorem dX1_init_15 : decode cX1_init 15 = .ok (.newarray .int, 2) := by decide +kernel
theorem dX1_init_17 : decode cX1_init 17 = .ok (.putfield 13, 3) := by decide +kernel
theorem dX1_init_20 : decode cX1_init 20 = .ok (.aload_n 0, 1) := by decide +kernel
theorem dX1_init_21 : decode cX1_init 21 = .ok (.iconst 0, 1) := by decide +kernel
theorem dX1_init_22 : decode cX1_init 22 = .ok (.putfield 16, 3) := by decide +kernel
theorem dX1_init_25 : decode cX1_init 25 = .ok (.return_, 1) := by decide +kernel
theorem dX1_kept_0 : decode cX1_kept 0 = .ok (.aload_n 0, 1) := by decide +kernel
theorem dX1_kept_1 : decode cX1_kept 1 = .ok (.getfield 16, 3) := by decide +kernel
theorem dX1_kept_4 : decode cX1_kept 4 = .ok (.aload_n 0, 1) := by decide +kernel
theorem dX1_kept_5 : decode cX1_kept 5 = .ok (.getfield 7, 3) := by decide +kernel
theorem dX1_kept_8 : decode cX1_kept 8 = .ok (.arraylength, 1) := by decide +kernel
theorem dX1_kept_9 : decode cX1_kept 9 = .ok (.invokestatic 20, 3) := by decide +kernel
theorem dX1_kept_12 : decode cX1_kept 12 = .ok (.ireturn, 1) := by decide +kernel
theorem dX1_add_0 : decode cX1_add 0 = .ok (.aload_n 0, 1) := by decide +kernel
theorem dX1_add_1 : decode cX1_add 1 = .ok (.getfield 7, 3) := by decide +kernel
theorem dX1_add_4 : decode cX1_add 4 = .ok (.arraylength, 1) := by decide +kernel
theorem dX1_add_5 : decode cX1_add 5 = .ok (.iconst 1, 1) := by decide +kernel
theorem dX1_add_6 : decode cX1_add 6 = .ok (.isub, 1) := by decide +kernel
theorem dX1_add_7 : decode cX1_add 7 = .ok (.istore_n 3, 1) := by decide +kernel
theorem dX1_add_8 : decode cX1_add 8 = .ok (.iload_n 3, 1) := by decide +kernel
theorem dX1_add_9 : decode cX1_add 9 = .ok (.ifCond .le 37, 3) := by decide +kernel
theorem dX1_add_12 : decode cX1_add 12 = .ok (.aload_n 0, 1) := by decide +kernel
theorem dX1_add_13 : decode cX1_add 13 = .ok (.getfield 7, 3) := by decide +kernel
theorem dX1_add_16 : decode cX1_add 16 = .ok (.iload_n 3, 1) := by decide +kernel
theorem dX1_add_17 : decode cX1_add 17 = .ok (.aload_n 0, 1) := by decide +kernel
theorem dX1_add_18 : decode cX1_add 18 = .ok (.getfield 7, 3) := by decide +kernel
theorem dX1_add_21 : decode cX1_add 21 = .ok (.iload_n 3, 1) := by decide +kernel
theorem dX1_add_22 : decode cX1_add 22 = .ok (.iconst 1, 1) := by decide +kernel
theorem dX1_add_23 : decode cX1_add 23 = .ok (.isub, 1) := by decide +kernel
theorem dX1_add_24 : decode cX1_add 24 = .ok (.iaload, 1) := by decide +kernel
theorem dX1_add_25 : decode cX1_add 25 = .ok (.iastore, 1) := by decide +kernel
theorem dX1_add_26 : decode cX1_add 26 = .ok (.aload_n 0, 1) := by decide +kernel
theorem dX1_add_27 : decode cX1_add 27 = .ok (.getfield 13, 3) := by decide +kernel
theorem dX1_add_30 : decode cX1_add 30 = .ok (.iload_n 3, 1) := by decide +kernel
theorem dX1_add_31 : decode cX1_add 31 = .ok (.aload_n 0, 1) := by decide +kernel
theorem dX1_add_32 : decode cX1_add 32 = .ok (.getfield 13, 3) := by decide +kernel
theorem dX1_add_35 : decode cX1_add 35 = .ok (.iload_n 3, 1) := by decide +kernel
theorem dX1_add_36 : decode cX1_add 36 = .ok (.iconst 1, 1) := by decide +kernel
theorem dX1_add_37 : decode cX1_add 37 = .ok (.isub, 1) := by decide +kernel
theorem dX1_add_38 : decode cX1_add 38 = .ok (.iaload, 1) := by decide +kernel
theorem dX1_add_39 : decode cX1_add 39 = .ok (.iastore, 1) := by decide +kernel
theorem dX1_add_40 : decode cX1_add 40 = .ok (.iinc 3 (-1), 3) := by decide +kernel
theorem dX1_add_43 : decode cX1_add 43 = .ok (.goto (-35), 3) := by decide +kernel
theorem dX1_add_46 : decode cX1_add 46 = .ok (.aload_n 0, 1) := by decide +kernel
theorem dX1_add_47 : decode cX1_add 47 = .ok (.getfield 7, 3) := by decide +kernel
theorem dX1_add_50 : decode cX1_add 50 = .ok (.iconst 0, 1) := by decide +kernel
theorem dX1_add_51 : decode cX1_add 51 = .ok (.iload_n 1, 1) := by decide +kernel
theorem dX1_add_52 : decode cX1_add 52 = .ok (.iastore, 1) := by decide +kernel
theorem dX1_add_53 : decode cX1_add 53 = .ok (.aload_n 0, 1) := by decide +kernel
theorem dX1_add_54 : decode cX1_add 54 = .ok (.getfield 13, 3) := by decide +kernel
theorem dX1_add_57 : decode cX1_add 57 = .ok (.iconst 0, 1) := by decide +kernel
theorem dX1_add_58 : decode cX1_add 58 = .ok (.iload_n 2, 1) := by decide +kernel
theorem dX1_add_59 : decode cX1_add 59 = .ok (.iastore, 1) := by decide +kernel
theorem dX1_add_60 : decode cX1_add 60 = .ok (.aload_n 0, 1) := by decide +kernel
theorem dX1_add_61 : decode cX1_add 61 = .ok (.dup, 1) := by decide +kernel
theorem dX1_add_62 : decode cX1_add 62 = .ok (.getfield 16, 3) := by decide +kernel
theorem dX1_add_65 : decode cX1_add 65 = .ok (.iconst 1, 1) := by decide +kernel
theorem dX1_add_66 : decode cX1_add 66 = .ok (.iadd, 1) := by decide +kernel
theorem dX1_add_67 : decode cX1_add 67 = .ok (.putfield 16, 3) := by decide +kernel
theorem dX1_add_70 : decode cX1_add 70 = .ok (.return_, 1) := by decide +kernel
theorem dX2_init_0 : decode cX2_init 0 = .ok (.aload_n 0, 1) := by decide +kernel
theorem dX2_init_1 : decode cX2_init 1 = .ok (.invokespecial 3, 3) := by decide +kernel
theorem dX2_init_4 : decode cX2_init 4 = .ok (.aload_n 0, 1) := by decide +kernel
theorem dX2_init_5 : decode cX2_init 5 = .ok (.iconst 0, 1) := by decide +kernel
theorem dX2_init_6 : decode cX2_init 6 = .ok (.putfield 9, 3) := by decide +kernel
theorem dX2_init_9 : decode cX2_init 9 = .ok (.aload_n 0, 1) := by decide +kernel
theorem dX2_init_10 : decode cX2_init 10 = .ok (.iconst 0, 1) := by decide +kernel
theorem dX2_init_11 : decode cX2_init 11 = .ok (.putfield 15, 3) := by decide +kernel
theorem dX2_init_14 : decode cX2_init 14 = .ok (.aload_n 0, 1) := by decide +kernel
theorem dX2_init_15 : decode cX2_init 15 = .ok (.iconst 0, 1) := by decide +kernel
theorem dX2_init_16 : decode cX2_init 16 = .ok (.putfield 18, 3) := by decide +kernel
theorem dX2_init_19 : decode cX2_init 19 = .ok (.aload_n 0, 1) := by decide +kernel
theorem dX2_init_20 : decode cX2_init 20 = .ok (.iconst 0, 1) := by decide +kernel
theorem dX2_init_21 : decode cX2_init 21 = .ok (.putfield 21, 3) := by decide +kernel
theorem dX2_init_24 : decode cX2_init 24 = .ok (.aload_n 0, 1) := by decide +kernel
theorem dX2_init_25 : decode cX2_init 25 = .ok (.iconst 0, 1) := by decide +kernel
theorem dX2_init_26 : decode cX2_init 26 = .ok (.putfield 24, 3) := by decide +kernel
theorem dX2_init_29 : decode cX2_init 29 = .ok (.aload_n 0, 1) := by decide +kernel
theorem dX2_init_30 : decode cX2_init 30 = .ok (.iconst 0, 1) := by decide +kernel
theorem dX2_init_31 : decode cX2_init 31 = .ok (.putfield 27, 3) := by decide +kernel
theorem dX2_init_34 : decode cX2_init 34 = .ok (.aload_n 0, 1) := by decide +kernel
theorem dX2_init_35 : decode cX2_init 35 = .ok (.iconst (-1), 1) := by decide +kernel
theorem dX2_init_36 : decode cX2_init 36 = .ok (.putfield 30, 3) := by decide +kernel
theorem dX2_init_39 : decode cX2_init 39 = .ok (.aload_n 0, 1) := by decide +kernel
theorem dX2_init_40 : decode cX2_init 40 = .ok (.iconst (-1), 1) := by decide +kernel
theorem dX2_init_41 : decode cX2_init 41 = .ok (.putfield 33, 3) := by decide +kernel
theorem dX2_init_44 : decode cX2_init 44 = .ok (.aload_n 0, 1) := by decide +kernel
theorem dX2_init_45 : decode cX2_init 45 = .ok (.iconst 0, 1) := by decide +kernel
theorem dX2_init_46 : decode cX2_init 46 = .ok (.putfield 36, 3) := by decide +kernel
theorem dX2_init_49 : decode cX2_init 49 = .ok (.aload_n 0, 1) := by decide +kernel
theorem dX2_init_50 : decode cX2_init 50 = .ok (.iload_n 1, 1) := by decide +kernel
theorem dX2_init_51 : decode cX2_init 51 = .ok (.putfield 39, 3) := by decide +kernel
theorem dX2_init_54 : decode cX2_init 54 = .ok (.return_, 1) := by decide +kernel
theorem dX2_bearsImage_0 : decode cX2_bearsImage 0 = .ok (.aload_n 0, 1) := by decide +kernel
theorem dX2_bearsImage_1 : decode cX2_bearsImage 1 = .ok (.getfield 9, 3) := by decide +kernel
theorem dX2_bearsImage_4 : decode cX2_bearsImage 4 = .ok (.iconst 3, 1) := by decide +kernel
theorem dX2_bearsImage_5 : decode cX2_bearsImage 5 = .ok (.if_icmp .eq 20, 3) := by decide +kernel
theorem dX2_bearsImage_8 : decode cX2_bearsImage 8 = .ok (.aload_n 0, 1) := by decide +kernel
theorem dX2_bearsImage_9 : decode cX2_bearsImage 9 = .ok (.getfield 9, 3) := by decide +kernel
theorem dX2_bearsImage_12 : decode cX2_bearsImage 12 = .ok (.iconst 5, 1) := by decide +kernel
theorem dX2_bearsImage_13 : decode cX2_bearsImage 13 = .ok (.if_icmp .eq 12, 3) := by decide +kernel
theorem dX2_bearsImage_16 : decode cX2_bearsImage 16 = .ok (.aload_n 0, 1) := by decide +kernel
theorem dX2_bearsImage_17 : decode cX2_bearsImage 17 = .ok (.getfield 9, 3) := by decide +kernel
theorem dX2_bearsImage_20 : decode cX2_bearsImage 20 = .ok (.bipush 6, 2) := by decide +kernel
theorem dX2_bearsImage_22 : decode cX2_bearsImage 22 = .ok (.if_icmp .ne 7, 3) := by decide +kernel
theorem dX2_bearsImage_25 : decode cX2_bearsImage 25 = .ok (.iconst 1, 1) := by decide +kernel
theorem dX2_bearsImage_26 : decode cX2_bearsImage 26 = .ok (.goto 4, 3) := by decide +kernel
theorem dX2_bearsImage_29 : decode cX2_bearsImage 29 = .ok (.iconst 0, 1) := by decide +kernel
theorem dX2_bearsImage_30 : decode cX2_bearsImage 30 = .ok (.ireturn, 1) := by decide +kernel
theorem dX2_endsByItself_0 : decode cX2_endsByItself 0 = .ok (.aload_n 0, 1) := by decide +kernel
theorem dX2_endsByItself_1 : decode cX2_endsByItself 1 = .ok (.getfield 9, 3) := by decide +kernel
theorem dX2_endsByItself_4 : decode cX2_endsByItself 4 = .ok (.iconst 3, 1) := by decide +kernel
theorem dX2_endsByItself_5 : decode cX2_endsByItself 5 = .ok (.if_icmp .eq 20, 3) := by decide +kernel
theorem dX2_endsByItself_8 : decode cX2_endsByItself 8 = .ok (.aload_n 0, 1) := by decide +kernel
theorem dX2_endsByItself_9 : decode cX2_endsByItself 9 = .ok (.getfield 9, 3) := by decide +kernel
theorem dX2_endsByItself_12 : decode cX2_endsByItself 12 = .ok (.iconst 4, 1) := by decide +kernel
theorem dX2_endsByItself_13 : decode cX2_endsByItself 13 = .ok (.if_icmp .eq 12, 3) := by decide +kernel
theorem dX2_endsByItself_16 : decode cX2_endsByItself 16 = .ok (.aload_n 0, 1) := by decide +kernel
theorem dX2_endsByItself_17 : decode cX2_endsByItself 17 = .ok (.getfield 9, 3) := by decide +kernel
theorem dX2_endsByItself_20 : decode cX2_endsByItself 20 = .ok (.bipush 6, 2) := by decide +kernel
theorem dX2_endsByItself_22 : decode cX2_endsByItself 22 = .ok (.if_icmp .ne 7, 3) := by decide +kernel
theorem dX2_endsByItself_25 : decode cX2_endsByItself 25 = .ok (.iconst 1, 1) := by decide +kernel
theorem dX2_endsByItself_26 : decode cX2_endsByItself 26 = .ok (.goto 4, 3) := by decide +kernel
theorem dX2_endsByItself_29 : decode cX2_endsByItself 29 = .ok (.iconst 0, 1) := by decide +kernel
theorem dX2_endsByItself_30 : decode cX2_endsByItself 30 = .ok (.ireturn, 1) := by decide +kernel
theorem dX2_isOver_0 : decode cX2_isOver 0 = .ok (.aload_n 0, 1) := by decide +kernel
theorem dX2_isOver_1 : decode cX2_isOver 1 = .ok (.getfield 9, 3) := by decide +kernel
theorem dX2_isOver_4 : decode cX2_isOver 4 = .ok (.iload_n 1, 1) := by decide +kernel
theorem dX2_isOver_5 : decode cX2_isOver 5 = .ok (.if_icmp .ne 15, 3) := by decide +kernel
theorem dX2_isOver_8 : decode cX2_isOver 8 = .ok (.aload_n 0, 1) := by decide +kernel
theorem dX2_isOver_9 : decode cX2_isOver 9 = .ok (.getfield 33, 3) := by decide +kernel
theorem dX2_isOver_12 : decode cX2_isOver 12 = .ok (.iload_n 2, 1) := by decide +kernel
theorem dX2_isOver_13 : decode cX2_isOver 13 = .ok (.if_icmp .gt 7, 3) := by decide +kernel
theorem dX2_isOver_16 : decode cX2_isOver 16 = .ok (.iconst 1, 1) := by decide +kernel
theorem dX2_isOver_17 : decode cX2_isOver 17 = .ok (.goto 4, 3) := by decide +kernel
theorem dX2_isOver_20 : decode cX2_isOver 20 = .ok (.iconst 0, 1) := by decide +kernel
theorem dX2_isOver_21 : decode cX2_isOver 21 = .ok (.ireturn, 1) := by decide +kernel
theorem dX2_isQueuedAt_0 : decode cX2_isQueuedAt 0 = .ok (.aload_n 0, 1) := by decide +kernel
theorem dX2_isQueuedAt_1 : decode cX2_isQueuedAt 1 = .ok (.getfield 9, 3) := by decide +kernel
theorem dX2_isQueuedAt_4 : decode cX2_isQueuedAt 4 = .ok (.iconst 2, 1) := by decide +kernel
theorem dX2_isQueuedAt_5 : decode cX2_isQueuedAt 5 = .ok (.if_icmp .ne 15, 3) := by decide +kernel
theorem dX2_isQueuedAt_8 : decode cX2_isQueuedAt 8 = .ok (.aload_n 0, 1) := by decide +kernel
theorem dX2_isQueuedAt_9 : decode cX2_isQueuedAt 9 = .ok (.getfield 15, 3) := by decide +kernel
theorem dX2_isQueuedAt_12 : decode cX2_isQueuedAt 12 = .ok (.iload_n 1, 1) := by decide +kernel
theorem dX2_isQueuedAt_13 : decode cX2_isQueuedAt 13 = .ok (.if_icmp .ne 7, 3) := by decide +kernel
theorem dX2_isQueuedAt_16 : decode cX2_isQueuedAt 16 = .ok (.iconst 1, 1) := by decide +kernel
theorem dX2_isQueuedAt_17 : decode cX2_isQueuedAt 17 = .ok (.goto 4, 3) := by decide +kernel
theorem dX2_isQueuedAt_20 : decode cX2_isQueuedAt 20 = .ok (.iconst 0, 1) := by decide +kernel
theorem dX2_isQueuedAt_21 : decode cX2_isQueuedAt 21 = .ok (.ireturn, 1) := by decide +kernel
set_option maxRecDepth 20000 in
theorem ggX3_init_X1_init : GoodIn wsX3_init wsX1_init := goodIn_r _ [24, 25, 2, 3, 8, 26, 27, 28, 64, 65, 66] (by decide +kernel) (by decide +kernel)
set_option maxRecDepth 20000 in
theorem gX3_init_X1_init_n27 : GoodIn wsX3_init (wsX1_init) := ggX3_init_X1_init
set_option maxRecDepth 20000 in
theorem ggX3_init_X2_init : GoodIn wsX3_init wsX2_init := goodIn_r _ [31, 32, 2, 3, 33, 34, 35, 36, 37, 38, 39, 40, 41, 42, 67, 68, 69, 70, 71, 72, 73, 74, 75, 76] (by decide +kernel) (by decide +kernel)
set_option maxRecDepth 20000 in
theorem gX3_init_X2_init : GoodIn wsX3_init (wsX2_init) := ggX3_init_X2_init
set_option maxRecDepth 20000 in
theorem ggX3_init_X0_init : GoodIn wsX3_init wsX0_init := goodIn_r _ [45, 46, 2, 3, 47, 48, 49, 50, 51, 52, 53, 54, 77, 78, 79, 80, 81, 82, 83, 84] (by decide +kernel) (by decide +kernel)
set_option maxRecDepth 20000 in
theorem gX3_init_X0_init : GoodIn wsX3_init (wsX0_init) := ggX3_init_X0_init
theorem dX3_init_0 : decode cX3_init 0 = .ok (.aload_n 0, 1) := by decide +kernel
theorem dX3_init_1 : decode cX3_init 1 = .ok (.invokespecial 1, 3) := by decide +kernel
theorem dX3_init_4 : decode cX3_init 4 = .ok (.aload_n 0, 1) := by decide +kernel
theorem dX3_init_5 : decode cX3_init 5 = .ok (.bipush 16, 2) := by decide +kernel
theorem dX3_init_7 : decode cX3_init 7 = .ok (.anewarray 9, 3) := by decide +kernel
theorem dX3_init_10 : decode cX3_init 10 = .ok (.putfield 11, 3) := by decide +kernel
theorem dX3_init_13 : decode cX3_init 13 = .ok (.aload_n 0, 1) := by decide +kernel
theorem dX3_init_14 : decode cX3_init 14 = .ok (.bipush 8, 2) := by decide +kernel
theorem dX3_init_16 : decode cX3_init 16 = .ok (.anewarray 15, 3) := by decide +kernel
theorem dX3_init_19 : decode cX3_init 19 = .ok (.putfield 17, 3) := by decide +kernel
theorem dX3_init_22 : decode cX3_init 22 = .ok (.aload_n 0, 1) := by decide +kernel
theorem dX3_init_23 : decode cX3_init 23 = .ok (.iconst 4, 1) := by decide +kernel
theorem dX3_init_24 : decode cX3_init 24 = .ok (.newarray .int, 2) := by decide +kernel
theorem dX3_init_26 : decode cX3_init 26 = .ok (.putfield 21, 3) := by decide +kernel
theorem dX3_init_29 : decode cX3_init 29 = .ok (.aload_n 0, 1) := by decide +kernel
theorem dX3_init_30 : decode cX3_init 30 = .ok (.new 25, 3) := by decide +kernel
theorem dX3_init_33 : decode cX3_init 33 = .ok (.dup, 1) := by decide +kernel
theorem dX3_init_34 : decode cX3_init 34 = .ok (.invokespecial 27, 3) := by decide +kernel
theorem dX3_init_37 : decode cX3_init 37 = .ok (.putfield 28, 3) := by decide +kernel
theorem dX3_init_40 : decode cX3_init 40 = .ok (.aload_n 0, 1) := by decide +kernel
theorem dX3_init_41 : decode cX3_init 41 = .ok (.iconst 1, 1) := by decide +kernel
theorem dX3_init_42 : decode cX3_init 42 = .ok (.putfield 32, 3) := by decide +kernel
theorem dX3_init_45 : decode cX3_init 45 = .ok (.aload_n 0, 1) := by decide +kernel
theorem dX3_init_46 : decode cX3_init 46 = .ok (.iconst 3, 1) := by decide +kernel
theorem dX3_init_47 : decode cX3_init 47 = .ok (.putfield 36, 3) := by decide +kernel
theorem dX3_init_50 : decode cX3_init 50 = .ok (.aload_n 0, 1) := by decide +kernel
theorem dX3_init_51 : decode cX3_init 51 = .ok (.iconst 0, 1) := by decide +kernel
theorem dX3_init_52 : decode cX3_init 52 = .ok (.putfield 39, 3) := by decide +kernel
theorem dX3_init_55 : decode cX3_init 55 = .ok (.aload_n 0, 1) := by decide +kernel
theorem dX3_init_56 : decode cX3_init 56 = .ok (.iconst 0, 1) := by decide +kernel
theorem dX3_init_57 : decode cX3_init 57 = .ok (.putfield 42, 3) := by decide +kernel
theorem dX3_init_60 : decode cX3_init 60 = .ok (.aload_n 0, 1) := by decide +kernel
theorem dX3_init_61 : decode cX3_init 61 = .ok (.iconst 0, 1) := by decide +kernel
theorem dX3_init_62 : decode cX3_init 62 = .ok (.putfield 45, 3) := by decide +kernel
theorem dX3_init_65 : decode cX3_init 65 = .ok (.iconst 0, 1) := by decide +kernel
theorem dX3_init_66 : decode cX3_init 66 = .ok (.istore_n 1, 1) := by decide +kernel
theorem dX3_init_67 : decode cX3_init 67 = .ok (.iload_n 1, 1) := by decide +kernel
theorem dX3_init_68 : decode cX3_init 68 = .ok (.aload_n 0, 1) := by decide +kernel
theorem dX3_init_69 : decode cX3_init 69 = .ok (.getfield 11, 3) := by decide +kernel
theorem dX3_init_72 : decode cX3_init 72 = .ok (.arraylength, 1) := by decide +kernel
theorem dX3_init_73 : decode cX3_init 73 = .ok (.if_icmp .ge 23, 3) := by decide +kernel
theorem dX3_init_76 : decode cX3_init 76 = .ok (.aload_n 0, 1) := by decide +kernel
theorem dX3_init_77 : decode cX3_init 77 = .ok (.getfield 11, 3) := by decide +kernel
theorem dX3_init_80 : decode cX3_init 80 = .ok (.iload_n 1, 1) := by decide +kernel
theorem dX3_init_81 : decode cX3_init 81 = .ok (.new 9, 3) := by decide +kernel
theorem dX3_init_84 : decode cX3_init 84 = .ok (.dup, 1) := by decide +kernel
theorem dX3_init_85 : decode cX3_init 85 = .ok (.iload_n 1, 1) := by decide +kernel
theorem dX3_init_86 : decode cX3_init 86 = .ok (.invokespecial 48, 3) := by decide +kernel
theorem dX3_init_89 : decode cX3_init 89 = .ok (.aastore, 1) := by decide +kernel
theorem dX3_init_90 : decode cX3_init 90 = .ok (.iinc 1 1, 3) := by decide +kernel
theorem dX3_init_93 : decode cX3_init 93 = .ok (.goto (-26), 3) := by decide +kernel
theorem dX3_init_96 : decode cX3_init 96 = .ok (.iconst 0, 1) := by decide +kernel
theorem dX3_init_97 : decode cX3_init 97 = .ok (.istore_n 1, 1) := by decide +kernel
theorem dX3_init_98 : decode cX3_init 98 = .ok (.iload_n 1, 1) := by decide +kernel
theorem dX3_init_99 : decode cX3_init 99 = .ok (.aload_n 0, 1) := by decide +kernel
theorem dX3_init_100 : decode cX3_init 100 = .ok (.getfield 17, 3) := by decide +kernel
theorem dX3_init_103 : decode cX3_init 103 = .ok (.arraylength, 1) := by decide +kernel
theorem dX3_init_104 : decode cX3_init 104 = .ok (.if_icmp .ge 23, 3) := by decide +kernel
theorem dX3_init_107 : decode cX3_init 107 = .ok (.aload_n 0, 1) := by decide +kernel
theorem dX3_init_108 : decode cX3_init 108 = .ok (.getfield 17, 3) := by decide +kernel
theorem dX3_init_111 : decode cX3_init 111 = .ok (.iload_n 1, 1) := by decide +kernel
theorem dX3_init_112 : decode cX3_init 112 = .ok (.new 15, 3) := by decide +kernel
theorem dX3_init_115 : decode cX3_init 115 = .ok (.dup, 1) := by decide +kernel
theorem dX3_init_116 : decode cX3_init 116 = .ok (.iload_n 1, 1) := by decide +kernel
theorem dX3_init_117 : decode cX3_init 117 = .ok (.invokespecial 51, 3) := by decide +kernel
theorem dX3_init_120 : decode cX3_init 120 = .ok (.aastore, 1) := by decide +kernel
theorem dX3_init_121 : decode cX3_init 121 = .ok (.iinc 1 1, 3) := by decide +kernel
theorem dX3_init_124 : decode cX3_init 124 = .ok (.goto (-26), 3) := by decide +kernel
theorem dX3_init_127 : decode cX3_init 127 = .ok (.iconst 0, 1) := by decide +kernel
theorem dX3_init_128 : decode cX3_init 128 = .ok (.istore_n 1, 1) := by decide +kernel
theorem dX3_init_129 : decode cX3_init 129 = .ok (.iload_n 1, 1) := by decide +kernel
theorem dX3_init_130 : decode cX3_init 130 = .ok (.aload_n 0, 1) := by decide +kernel
theorem dX3_init_131 : decode cX3_init 131 = .ok (.getfield 21, 3) := by decide +kernel
theorem dX3_init_134 : decode cX3_init 134 = .ok (.arraylength, 1) := by decide +kernel
theorem dX3_init_135 : decode cX3_init 135 = .ok (.if_icmp .ge 16, 3) := by decide +kernel
theorem dX3_init_138 : decode cX3_init 138 = .ok (.aload_n 0, 1) := by decide +kernel
theorem dX3_init_139 : decode cX3_init 139 = .ok (.getfield 21, 3) := by decide +kernel
theorem dX3_init_142 : decode cX3_init 142 = .ok (.iload_n 1, 1) := by decide +kernel
theorem dX3_init_143 : decode cX3_init 143 = .ok (.iconst 2, 1) := by decide +kernel
theorem dX3_init_144 : decode cX3_init 144 = .ok (.iastore, 1) := by decide +kernel
theorem dX3_init_145 : decode cX3_init 145 = .ok (.iinc 1 1, 3) := by decide +kernel
theorem dX3_init_148 : decode cX3_init 148 = .ok (.goto (-19), 3) := by decide +kernel
theorem dX3_init_151 : decode cX3_init 151 = .ok (.return_, 1) := by decide +kernel
set_option maxRecDepth 20000 in
theorem ggX3_setImage_X3_imageRow : GoodIn wsX3_setImage wsX3_imageRow := goodIn_ca (goodIn_r _ [12, 13, 14, 15, 101, 102, 103, 104, 105, 106, 107, 108, 109] (by decide +kernel) (by decide +kernel)) (goodIn_sub (fun _ h => List.mem_cons_of_mem _ (List.mem_append_left _ (List.mem_append_right _ h))) (by decide +kernel))
set_option maxRecDepth 20000 in
theorem gX3_setImage_X3_imageRow : GoodIn wsX3_setImage (wsV RX3 52 RX3 yX3_imageRow wsX3_imageRow) := goodIn_app (goodIn_of _ (by decide +kernel)) ggX3_setImage_X3_imageRow
set_option maxRecDepth 20000 in
theorem ggX3_setImage_X3_refuseOutside : GoodIn wsX3_setImage wsX3_refuseOutside := goodIn_ca (goodIn_r _ [18, 19, 20] (by decide +kernel) (by decide +kernel)) (goodIn_sub (fun _ h => List.mem_cons_of_mem _ (List.mem_append_right _ h)) (by decide +kernel))
set_option maxRecDepth 20000 in
theorem gX3_setImage_X3_refuseOutside : GoodIn wsX3_setImage (va_wsS RX3 56 yX3_refuseOutside wsX3_refuseOutside) := goodIn_app (goodIn_of _ (by decide +kernel)) ggX3_setImage_X3_refuseOutside
set_option maxRecDepth 20000 in
theorem ggX3_setImage_X3_beginInstallations : GoodIn wsX3_setImage wsX3_beginInstallations := goodIn_r _ [24, 25, 26, 27, 28, 11, 29, 30, 31, 32, 33, 34, 35, 36, 37, 38, 39, 40, 41, 42, 43, 44, 45, 46, 47, 48, 49, 50, 51, 52, 53, 54, 55, 56, 57, 58, 59, 2, 60, 61, 62, 63, 64, 15, 3, 65, 66, 67, 68, 69, 70, 71, 72, 73, 74, 75, 76, 77, 78, 79, 80, 81, 82, 83, 84, 85, 86, 87, 88, 89, 90, 91, 92, 101, 102, 103, 104, 105, 106, 107, 108, 109, 110, 111, 112, 113, 114, 115, 116, 117, 118, 119, 93, 94, 95, 96, 97, 98, 99, 100, 120, 121, 122] (by decide +kernel) (by decide +kernel)
set_option maxRecDepth 20000 in
theorem gX3_setImage_X3_beginInstallations : GoodIn wsX3_setImage (wsV RX3 82 RX3 yX3_beginInstallations wsX3_beginInstallations) := goodIn_app (goodIn_of _ (by decide +kernel)) ggX3_setImage_X3_beginInstallations
theorem dX3_setImage_0 : decode cX3_setImage 0 = .ok (.aload_n 0, 1) := by decide +kernel
theorem dX3_setImage_1 : decode cX3_setImage 1 = .ok (.iload_n 1, 1) := by decide +kernel
theorem dX3_setImage_2 : decode cX3_setImage 2 = .ok (.invokevirtual 52, 3) := by decide +kernel
theorem dX3_setImage_5 : decode cX3_setImage 5 = .ok (.astore 7, 2) := by decide +kernel
theorem dX3_setImage_7 : decode cX3_setImage 7 = .ok (.iload_n 2, 1) := by decide +kernel
theorem dX3_setImage_8 : decode cX3_setImage 8 = .ok (.iconst 0, 1) := by decide +kernel
theorem dX3_setImage_9 : decode cX3_setImage 9 = .ok (.bipush 9, 2) := by decide +kernel
theorem dX3_setImage_11 : decode cX3_setImage 11 = .ok (.invokestatic 56, 3) := by decide +kernel
theorem dX3_setImage_14 : decode cX3_setImage 14 = .ok (.iload_n 3, 1) := by decide +kernel
theorem dX3_setImage_15 : decode cX3_setImage 15 = .ok (.iconst 0, 1) := by decide +kernel
theorem dX3_setImage_16 : decode cX3_setImage 16 = .ok (.bipush 99, 2) := by decide +kernel
theorem dX3_setImage_18 : decode cX3_setImage 18 = .ok (.invokestatic 56, 3) := by decide +kernel
theorem dX3_setImage_21 : decode cX3_setImage 21 = .ok (.iload 4, 2) := by decide +kernel
theorem dX3_setImage_23 : decode cX3_setImage 23 = .ok (.iconst 0, 1) := by decide +kernel
theorem dX3_setImage_24 : decode cX3_setImage 24 = .ok (.bipush 15, 2) := by decide +kernel
theorem dX3_setImage_26 : decode cX3_setImage 26 = .ok (.invokestatic 56, 3) := by decide +kernel
theorem dX3_setImage_29 : decode cX3_setImage 29 = .ok (.iload 5, 2) := by decide +kernel
theorem dX3_setImage_31 : decode cX3_setImage 31 = .ok (.iconst 0, 1) := by decide +kernel
theorem dX3_setImage_32 : decode cX3_setImage 32 = .ok (.bipush 15, 2) := by decide +kernel
theorem dX3_setImage_34 : decode cX3_setImage 34 = .ok (.invokestatic 56, 3) := by decide +kernel
theorem dX3_setImage_37 : decode cX3_setImage 37 = .ok (.iload 6, 2) := by decide +kernel
theorem dX3_setImage_39 : decode cX3_setImage 39 = .ok (.iconst 0, 1) := by decide +kernel
theorem dX3_setImage_40 : decode cX3_setImage 40 = .ok (.bipush 15, 2) := by decide +kernel
theorem dX3_setImage_42 : decode cX3_setImage 42 = .ok (.invokestatic 56, 3) := by decide +kernel
theorem dX3_setImage_45 : decode cX3_setImage 45 = .ok (.aload 7, 2) := by decide +kernel
theorem dX3_setImage_47 : decode cX3_setImage 47 = .ok (.getfield 60, 3) := by decide +kernel
theorem dX3_setImage_50 : decode cX3_setImage 50 = .ok (.ifCond .ne 9, 3) := by decide +kernel
theorem dX3_setImage_53 : decode cX3_setImage 53 = .ok (.aload 7, 2) := by decide +kernel
theorem dX3_setImage_55 : decode cX3_setImage 55 = .ok (.iconst 2, 1) := by decide +kernel
theorem dX3_setImage_56 : decode cX3_setImage 56 = .ok (.putfield 64, 3) := by decide +kernel
theorem dX3_setImage_59 : decode cX3_setImage 59 = .ok (.aload 7, 2) := by decide +kernel
theorem dX3_setImage_61 : decode cX3_setImage 61 = .ok (.iconst 1, 1) := by decide +kernel
theorem dX3_setImage_62 : decode cX3_setImage 62 = .ok (.putfield 60, 3) := by decide +kernel
theorem dX3_setImage_65 : decode cX3_setImage 65 = .ok (.aload 7, 2) := by decide +kernel
theorem dX3_setImage_67 : decode cX3_setImage 67 = .ok (.iload_n 2, 1) := by decide +kernel
theorem dX3_setImage_68 : decode cX3_setImage 68 = .ok (.putfield 67, 3) := by decide +kernel
theorem dX3_setImage_71 : decode cX3_setImage 71 = .ok (.aload 7, 2) := by decide +kernel
theorem dX3_setImage_73 : decode cX3_setImage 73 = .ok (.iload_n 3, 1) := by decide +kernel
theorem dX3_setImage_74 : decode cX3_setImage 74 = .ok (.putfield 70, 3) := by decide +kernel
theorem dX3_setImage_77 : decode cX3_setImage 77 = .ok (.aload 7, 2) := by decide +kernel
theorem dX3_setImage_79 : decode cX3_setImage 79 = .ok (.iload 4, 2) := by decide +kernel
theorem dX3_setImage_81 : decode cX3_setImage 81 = .ok (.putfield 73, 3) := by decide +kernel
theorem dX3_setImage_84 : decode cX3_setImage 84 = .ok (.aload 7, 2) := by decide +kernel
theorem dX3_setImage_86 : decode cX3_setImage 86 = .ok (.iload 5, 2) := by decide +kernel
theorem dX3_setImage_88 : decode cX3_setImage 88 = .ok (.putfield 76, 3) := by decide +kernel
theorem dX3_setImage_91 : decode cX3_setImage 91 = .ok (.aload 7, 2) := by decide +kernel
theorem dX3_setImage_93 : decode cX3_setImage 93 = .ok (.iload 6, 2) := by decide +kernel
theorem dX3_setImage_95 : decode cX3_setImage 95 = .ok (.putfield 79, 3) := by decide +kernel
theorem dX3_setImage_98 : decode cX3_setImage 98 = .ok (.aload_n 0, 1) := by decide +kernel
theorem dX3_setImage_99 : decode cX3_setImage 99 = .ok (.invokevirtual 82, 3) := by decide +kernel
theorem dX3_setImage_102 : decode cX3_setImage 102 = .ok (.return_, 1) := by decide +kernel
set_option maxRecDepth 20000 in
theorem ggX3_setTime_X3_setImageRow : GoodIn wsX3_setTime wsX3_setImageRow := goodIn_ca (goodIn_r _ [6, 7, 8, 9, 10, 11, 12, 5, 13, 14, 93, 94, 95, 96, 97, 98, 99, 100, 101, 102, 103, 104, 105, 106, 107, 108, 109] (by decide +kernel) (by decide +kernel)) (goodIn_sub (fun _ h => List.mem_cons_of_mem _ (List.mem_append_left _ (List.mem_append_right _ h))) (by decide +kernel))
set_option maxRecDepth 20000 in
theorem gX3_setTime_X3_setImageRow : GoodIn wsX3_setTime (wsV RX3 85 RX3 yX3_setImageRow wsX3_setImageRow) := goodIn_app (goodIn_of _ (by decide +kernel)) ggX3_setTime_X3_setImageRow
set_option maxRecDepth 20000 in
theorem ggX3_setTime_X3_refuseOutside : GoodIn wsX3_setTime wsX3_refuseOutside := goodIn_ca (goodIn_r _ [17, 18, 19] (by decide +kernel) (by decide +kernel)) (goodIn_sub (fun _ h => List.mem_cons_of_mem _ (List.mem_append_right _ h)) (by decide +kernel))
set_option maxRecDepth 20000 in
theorem gX3_setTime_X3_refuseOutside : GoodIn wsX3_setTime (va_wsS RX3 56 yX3_refuseOutside wsX3_refuseOutside) := goodIn_app (goodIn_of _ (by decide +kernel)) ggX3_setTime_X3_refuseOutside
set_option maxRecDepth 20000 in
theorem ggX3_setTime_X3_beginInstallations : GoodIn wsX3_setTime wsX3_beginInstallations := goodIn_r _ [23, 24, 25, 26, 27, 5, 28, 29, 30, 31, 32, 33, 34, 35, 36, 37, 38, 39, 40, 41, 42, 43, 44, 45, 46, 47, 48, 49, 50, 51, 52, 53, 54, 55, 56, 57, 58, 1, 59, 60, 61, 62, 63, 14, 64, 65, 66, 67, 68, 69, 70, 71, 72, 73, 74, 75, 76, 77, 78, 79, 80, 81, 82, 83, 84, 85, 86, 87, 88, 89, 90, 91, 92, 101, 102, 103, 104, 105, 106, 107, 108, 109, 110, 111, 112, 113, 114, 115, 116, 117, 118, 119, 93, 94, 95, 96, 97, 98, 99, 100, 120, 121, 122] (by decide +kernel) (by decide +kernel)
set_option maxRecDepth 20000 in
theorem gX3_setTime_X3_beginInstallations : GoodIn wsX3_setTime (wsV RX3 82 RX3 yX3_beginInstallations wsX3_beginInstallations) := goodIn_app (goodIn_of _ (by decide +kernel)) ggX3_setTime_X3_beginInstallations
theorem dX3_setTime_0 : decode cX3_setTime 0 = .ok (.aload_n 0, 1) := by decide +kernel
theorem dX3_setTime_1 : decode cX3_setTime 1 = .ok (.iload_n 1, 1) := by decide +kernel
theorem dX3_setTime_2 : decode cX3_setTime 2 = .ok (.invokevirtual 85, 3) := by decide +kernel
theorem dX3_setTime_5 : decode cX3_setTime 5 = .ok (.astore_n 3, 1) := by decide +kernel
theorem dX3_setTime_6 : decode cX3_setTime 6 = .ok (.iload_n 2, 1) := by decide +kernel
theorem dX3_setTime_7 : decode cX3_setTime 7 = .ok (.iconst 1, 1) := by decide +kernel
theorem dX3_setTime_8 : decode cX3_setTime 8 = .ok (.bipush 24, 2) := by decide +kernel
theorem dX3_setTime_10 : decode cX3_setTime 10 = .ok (.invokestatic 56, 3) := by decide +kernel
theorem dX3_setTime_13 : decode cX3_setTime 13 = .ok (.aload_n 3, 1) := by decide +kernel
theorem dX3_setTime_14 : decode cX3_setTime 14 = .ok (.getfield 64, 3) := by decide +kernel
theorem dX3_setTime_17 : decode cX3_setTime 17 = .ok (.istore 4, 2) := by decide +kernel
theorem dX3_setTime_19 : decode cX3_setTime 19 = .ok (.aload_n 3, 1) := by decide +kernel
theorem dX3_setTime_20 : decode cX3_setTime 20 = .ok (.iload_n 2, 1) := by decide +kernel
theorem dX3_setTime_21 : decode cX3_setTime 21 = .ok (.putfield 64, 3) := by decide +kernel
theorem dX3_setTime_24 : decode cX3_setTime 24 = .ok (.aload_n 0, 1) := by decide +kernel
theorem dX3_setTime_25 : decode cX3_setTime 25 = .ok (.invokevirtual 82, 3) := by decide +kernel
theorem dX3_setTime_28 : decode cX3_setTime 28 = .ok (.iload 4, 2) := by decide +kernel
theorem dX3_setTime_30 : decode cX3_setTime 30 = .ok (.ireturn, 1) := by decide +kernel
set_option maxRecDepth 20000 in
theorem ggX3_dropImage_X3_setImageRow : GoodIn wsX3_dropImage wsX3_setImageRow := goodIn_ca (goodIn_r _ [6, 7, 8, 1, 9, 10, 11, 5, 12, 13, 88, 89, 90, 91, 92, 93, 94, 95, 96, 97, 98, 99, 100, 101, 102, 103, 104] (by decide +kernel) (by decide +kernel)) (goodIn_sub (fun _ h => List.mem_cons_of_mem _ (List.mem_append_right _ h)) (by decide +kernel))
set_option maxRecDepth 20000 in
theorem gX3_dropImage_X3_setImageRow : GoodIn wsX3_dropImage (wsV RX3 85 RX3 yX3_setImageRow wsX3_setImageRow) := goodIn_app (goodIn_of _ (by decide +kernel)) ggX3_dropImage_X3_setImageRow
set_option maxRecDepth 20000 in
theorem ggX3_dropImage_X3_beginInstallations : GoodIn wsX3_dropImage wsX3_beginInstallations := goodIn_r _ [17, 18, 19, 20, 21, 5, 22, 23, 24, 25, 26, 27, 28, 29, 30, 31, 32, 33, 34, 35, 36, 37, 38, 39, 40, 41, 42, 43, 44, 45, 46, 47, 48, 49, 50, 51, 52, 53, 54, 55, 56, 57, 58, 13, 59, 60, 61, 62, 63, 64, 65, 66, 67, 68, 69, 70, 71, 72, 73, 74, 75, 76, 77, 78, 79, 80, 81, 82, 83, 84, 85, 86, 87, 96, 97, 98, 99, 100, 101, 102, 103, 104, 105, 106, 107, 108, 109, 110, 111, 112, 113, 114, 88, 89, 90, 91, 92, 93, 94, 95, 115, 116, 117] (by decide +kernel) (by decide +kernel)
set_option maxRecDepth 20000 in
theorem gX3_dropImage_X3_beginInstallations : GoodIn wsX3_dropImage (wsV RX3 82 RX3 yX3_beginInstallations wsX3_beginInstallations) := goodIn_app (goodIn_of _ (by decide +kernel)) ggX3_dropImage_X3_beginInstallations
theorem dX3_dropImage_0 : decode cX3_dropImage 0 = .ok (.aload_n 0, 1) := by decide +kernel
theorem dX3_dropImage_1 : decode cX3_dropImage 1 = .ok (.iload_n 1, 1) := by decide +kernel
theorem dX3_dropImage_2 : decode cX3_dropImage 2 = .ok (.invokevirtual 85, 3) := by decide +kernel
theorem dX3_dropImage_5 : decode cX3_dropImage 5 = .ok (.astore_n 2, 1) := by decide +kernel
theorem dX3_dropImage_6 : decode cX3_dropImage 6 = .ok (.aload_n 2, 1) := by decide +kernel
theorem dX3_dropImage_7 : decode cX3_dropImage 7 = .ok (.iconst 0, 1) := by decide +kernel
theorem dX3_dropImage_8 : decode cX3_dropImage 8 = .ok (.putfield 60, 3) := by decide +kernel
theorem dX3_dropImage_11 : decode cX3_dropImage 11 = .ok (.aload_n 0, 1) := by decide +kernel
theorem dX3_dropImage_12 : decode cX3_dropImage 12 = .ok (.invokevirtual 82, 3) := by decide +kernel
theorem dX3_dropImage_15 : decode cX3_dropImage 15 = .ok (.return_, 1) := by decide +kernel
set_option maxRecDepth 20000 in
theorem ggX3_setBatch_X3_isNoRack : GoodIn wsX3_setBatch wsX3_isNoRack := goodIn_r _ [8, 3, 88, 89, 90, 91, 92, 93, 94, 95, 96] (by decide +kernel) (by decide +kernel)
set_option maxRecDepth 20000 in
theorem gX3_setBatch_X3_isNoRack : GoodIn wsX3_setBatch (wsV RX3 88 RX3 yX3_isNoRack wsX3_isNoRack) := goodIn_app (goodIn_of _ (by decide +kernel)) ggX3_setBatch_X3_isNoRack
set_option maxRecDepth 20000 in
theorem ggX3_setBatch_X3_refuseOutside : GoodIn wsX3_setBatch wsX3_refuseOutside := goodIn_ca (goodIn_r _ [11, 12, 13] (by decide +kernel) (by decide +kernel)) (goodIn_sub (fun _ h => List.mem_cons_of_mem _ (List.mem_append_right _ h)) (by decide +kernel))
set_option maxRecDepth 20000 in
theorem gX3_setBatch_X3_refuseOutside : GoodIn wsX3_setBatch (va_wsS RX3 56 yX3_refuseOutside wsX3_refuseOutside) := goodIn_app (goodIn_of _ (by decide +kernel)) ggX3_setBatch_X3_refuseOutside
set_option maxRecDepth 20000 in
theorem ggX3_setBatch_X3_beginInstallations : GoodIn wsX3_setBatch wsX3_beginInstallations := goodIn_r _ [17, 3, 18, 19, 20, 7, 21, 22, 23, 24, 25, 26, 27, 28, 29, 30, 31, 32, 33, 34, 35, 36, 37, 38, 39, 40, 41, 42, 43, 44, 45, 46, 47, 48, 49, 50, 51, 52, 53, 54, 55, 56, 57, 58, 59, 60, 61, 62, 63, 64, 65, 66, 67, 68, 69, 70, 71, 72, 73, 74, 75, 76, 77, 78, 79, 80, 81, 82, 83, 84, 85, 86, 87, 88, 89, 90, 91, 92, 93, 94, 95, 96, 97, 98, 99, 100, 101, 102, 103, 104, 105, 106, 107, 108, 109, 110, 111, 112, 113, 114, 115, 116, 117] (by decide +kernel) (by decide +kernel)
set_option maxRecDepth 20000 in
theorem gX3_setBatch_X3_beginInstallations : GoodIn wsX3_setBatch (wsV RX3 82 RX3 yX3_beginInstallations wsX3_beginInstallations) := goodIn_app (goodIn_of _ (by decide +kernel)) ggX3_setBatch_X3_beginInstallations
theorem dX3_setBatch_0 : decode cX3_setBatch 0 = .ok (.aload_n 0, 1) := by decide +kernel
theorem dX3_setBatch_1 : decode cX3_setBatch 1 = .ok (.iload_n 1, 1) := by decide +kernel
theorem dX3_setBatch_2 : decode cX3_setBatch 2 = .ok (.invokevirtual 88, 3) := by decide +kernel
theorem dX3_setBatch_5 : decode cX3_setBatch 5 = .ok (.ifCond .eq 13, 3) := by decide +kernel
theorem dX3_setBatch_8 : decode cX3_setBatch 8 = .ok (.new 92, 3) := by decide +kernel
theorem dX3_setBatch_11 : decode cX3_setBatch 11 = .ok (.dup, 1) := by decide +kernel
theorem dX3_setBatch_12 : decode cX3_setBatch 12 = .ok (.ldc 94, 2) := by decide +kernel
theorem dX3_setBatch_14 : decode cX3_setBatch 14 = .ok (.invokespecial 96, 3) := by decide +kernel
theorem dX3_setBatch_17 : decode cX3_setBatch 17 = .ok (.athrow, 1) := by decide +kernel
theorem dX3_setBatch_18 : decode cX3_setBatch 18 = .ok (.iload_n 2, 1) := by decide +kernel
theorem dX3_setBatch_19 : decode cX3_setBatch 19 = .ok (.iconst 0, 1) := by decide +kernel
theorem dX3_setBatch_20 : decode cX3_setBatch 20 = .ok (.iconst 4, 1) := by decide +kernel
theorem dX3_setBatch_21 : decode cX3_setBatch 21 = .ok (.invokestatic 56, 3) := by decide +kernel
theorem dX3_setBatch_24 : decode cX3_setBatch 24 = .ok (.aload_n 0, 1) := by decide +kernel
theorem dX3_setBatch_25 : decode cX3_setBatch 25 = .ok (.getfield 21, 3) := by decide +kernel
theorem dX3_setBatch_28 : decode cX3_setBatch 28 = .ok (.iload_n 1, 1) := by decide +kernel
theorem dX3_setBatch_29 : decode cX3_setBatch 29 = .ok (.iaload, 1) := by decide +kernel
theorem dX3_setBatch_30 : decode cX3_setBatch 30 = .ok (.istore_n 3, 1) := by decide +kernel
theorem dX3_setBatch_31 : decode cX3_setBatch 31 = .ok (.aload_n 0, 1) := by decide +kernel
theorem dX3_setBatch_32 : decode cX3_setBatch 32 = .ok (.getfield 21, 3) := by decide +kernel
theorem dX3_setBatch_35 : decode cX3_setBatch 35 = .ok (.iload_n 1, 1) := by decide +kernel
theorem dX3_setBatch_36 : decode cX3_setBatch 36 = .ok (.iload_n 2, 1) := by decide +kernel
theorem dX3_setBatch_37 : decode cX3_setBatch 37 = .ok (.iastore, 1) := by decide +kernel
theorem dX3_setBatch_38 : decode cX3_setBatch 38 = .ok (.aload_n 0, 1) := by decide +kernel
theorem dX3_setBatch_39 : decode cX3_setBatch 39 = .ok (.invokevirtual 82, 3) := by decide +kernel
theorem dX3_setBatch_42 : decode cX3_setBatch 42 = .ok (.iload_n 3, 1) := by decide +kernel
theorem dX3_setBatch_43 : decode cX3_setBatch 43 = .ok (.ireturn, 1) := by decide +kernel
set_option maxRecDepth 20000 in
theorem ggX3_setRetries_X3_refuseOutside : GoodIn wsX3_setRetries wsX3_refuseOutside := goodIn_ca (goodIn_r _ [6, 7, 8] (by decide +kernel) (by decide +kernel)) (goodIn_sub (fun _ h => List.mem_cons_of_mem _ (List.mem_append_right _ h)) (by decide +kernel))
set_option maxRecDepth 20000 in
theorem gX3_setRetries_X3_refuseOutside : GoodIn wsX3_setRetries (va_wsS RX3 56 yX3_refuseOutside wsX3_refuseOutside) := goodIn_app (goodIn_of _ (by decide +kernel)) ggX3_setRetries_X3_refuseOutside
set_option maxRecDepth 20000 in
theorem ggX3_setRetries_X3_beginInstallations : GoodIn wsX3_setRetries wsX3_beginInstallations := goodIn_r _ [12, 13, 14, 15, 16, 5, 17, 18, 19, 20, 21, 22, 23, 24, 25, 26, 27, 28, 29, 30, 31, 32, 33, 34, 35, 36, 37, 38, 39, 40, 41, 42, 43, 44, 45, 46, 47, 48, 49, 50, 51, 52, 53, 54, 55, 56, 57, 58, 59, 60, 61, 62, 63, 64, 65, 66, 67, 68, 69, 70, 71, 72, 73, 74, 75, 76, 77, 78, 79, 80, 81, 82, 83, 84, 85, 86, 87, 88, 89, 90, 91, 92, 93, 94, 95, 96, 97, 98, 99, 100, 101, 102, 103, 104, 105, 106, 107, 108, 109, 110, 111, 112, 113] (by decide +kernel) (by decide +kernel)
set_option maxRecDepth 20000 in
theorem gX3_setRetries_X3_beginInstallations : GoodIn wsX3_setRetries (wsV RX3 82 RX3 yX3_beginInstallations wsX3_beginInstallations) := goodIn_app (goodIn_of _ (by decide +kernel)) ggX3_setRetries_X3_beginInstallations
theorem dX3_setRetries_0 : decode cX3_setRetries 0 = .ok (.iload_n 1, 1) := by decide +kernel
theorem dX3_setRetries_1 : decode cX3_setRetries 1 = .ok (.iconst 1, 1) := by decide +kernel
theorem dX3_setRetries_2 : decode cX3_setRetries 2 = .ok (.bipush 24, 2) := by decide +kernel
theorem dX3_setRetries_4 : decode cX3_setRetries 4 = .ok (.invokestatic 56, 3) := by decide +kernel
theorem dX3_setRetries_7 : decode cX3_setRetries 7 = .ok (.iload_n 2, 1) := by decide +kernel
theorem dX3_setRetries_8 : decode cX3_setRetries 8 = .ok (.iconst 1, 1) := by decide +kernel
theorem dX3_setRetries_9 : decode cX3_setRetries 9 = .ok (.bipush 9, 2) := by decide +kernel
theorem dX3_setRetries_11 : decode cX3_setRetries 11 = .ok (.invokestatic 56, 3) := by decide +kernel
theorem dX3_setRetries_14 : decode cX3_setRetries 14 = .ok (.aload_n 0, 1) := by decide +kernel
theorem dX3_setRetries_15 : decode cX3_setRetries 15 = .ok (.iload_n 1, 1) := by decide +kernel
theorem dX3_setRetries_16 : decode cX3_setRetries 16 = .ok (.putfield 32, 3) := by decide +kernel
theorem dX3_setRetries_19 : decode cX3_setRetries 19 = .ok (.aload_n 0, 1) := by decide +kernel
theorem dX3_setRetries_20 : decode cX3_setRetries 20 = .ok (.iload_n 2, 1) := by decide +kernel
theorem dX3_setRetries_21 : decode cX3_setRetries 21 = .ok (.putfield 36, 3) := by decide +kernel
theorem dX3_setRetries_24 : decode cX3_setRetries 24 = .ok (.aload_n 0, 1) := by decide +kernel
theorem dX3_setRetries_25 : decode cX3_setRetries 25 = .ok (.invokevirtual 82, 3) := by decide +kernel
theorem dX3_setRetries_28 : decode cX3_setRetries 28 = .ok (.return_, 1) := by decide +kernel
set_option maxRecDepth 20000 in
theorem ggX3_report_X3_machineRow : GoodIn wsX3_report wsX3_machineRow := goodIn_ca (goodIn_r _ [12, 1, 2, 13, 121, 122, 123, 124, 125, 126, 127, 128, 129] (by decide +kernel) (by decide +kernel)) (goodIn_sub (fun _ h => List.mem_cons_of_mem _ (List.mem_append_left _ (List.mem_append_right _ h))) (by decide +kernel))
set_option maxRecDepth 20000 in
theorem gX3_report_X3_machineRow : GoodIn wsX3_report (wsV RX3 99 RX3 yX3_machineRow wsX3_machineRow) := goodIn_app (goodIn_of _ (by decide +kernel)) ggX3_report_X3_machineRow
set_option maxRecDepth 20000 in
theorem ggX3_report_X3_isNoRack : GoodIn wsX3_report wsX3_isNoRack := goodIn_r _ [17, 18, 121, 122, 123, 124, 125, 126, 127, 128, 129] (by decide +kernel) (by decide +kernel)
set_option maxRecDepth 20000 in
theorem gX3_report_X3_isNoRack : GoodIn wsX3_report (wsV RX3 88 RX3 yX3_isNoRack wsX3_isNoRack) := goodIn_app (goodIn_of _ (by decide +kernel)) ggX3_report_X3_isNoRack
set_option maxRecDepth 20000 in
theorem ggX3_report_X3_refuseOutside : GoodIn wsX3_report wsX3_refuseOutside := goodIn_ca (goodIn_r _ [21, 22, 23] (by decide +kernel) (by decide +kernel)) (goodIn_sub (fun _ h => List.mem_cons_of_mem _ (List.mem_append_right _ h)) (by decide +kernel))
set_option maxRecDepth 20000 in
theorem gX3_report_X3_refuseOutside : GoodIn wsX3_report (va_wsS RX3 56 yX3_refuseOutside wsX3_refuseOutside) := goodIn_app (goodIn_of _ (by decide +kernel)) ggX3_report_X3_refuseOutside
set_option maxRecDepth 20000 in
theorem ggX3_report_X3_answerReport : GoodIn wsX3_report wsX3_answerReport := goodIn_r _ [27, 7, 28, 29, 30, 31, 11, 32, 33, 34, 35, 36, 37, 38, 39, 40, 41, 42, 43, 44, 45, 46, 47, 48, 49, 50, 51, 52, 53, 54, 55, 56, 111, 112, 113, 114, 115, 116, 117, 118, 119, 120, 121, 122, 123, 124, 125, 126, 127, 128, 129, 130, 131, 132] (by decide +kernel) (by decide +kernel)
set_option maxRecDepth 20000 in
theorem gX3_report_X3_answerReport : GoodIn wsX3_report (wsV RX3 113 RX3 yX3_answerReport wsX3_answerReport) := goodIn_app (goodIn_of _ (by decide +kernel)) ggX3_report_X3_answerReport
set_option maxRecDepth 20000 in
theorem ggX3_report_X3_beginInstallations : GoodIn wsX3_report wsX3_beginInstallations := goodIn_r _ [60, 18, 61, 62, 63, 11, 64, 65, 66, 67, 68, 13, 7, 3, 69, 70, 71, 72, 73, 74, 75, 76, 77, 78, 79, 80, 81, 82, 83, 28, 84, 85, 86, 87, 88, 89, 49, 90, 51, 91, 92, 93, 94, 95, 96, 97, 98, 99, 100, 101, 102, 103, 104, 105, 106, 107, 108, 109, 110, 29, 30, 31, 32, 33, 34, 35, 36, 37, 38, 39, 40, 41, 42, 121, 122, 123, 124, 125, 126, 127, 128, 129, 111, 112, 113, 114, 115, 116, 117, 118, 119, 120, 133, 134, 135, 136, 137, 138, 139, 140, 130, 131, 132] (by decide +kernel) (by decide +kernel)
set_option maxRecDepth 20000 in
theorem gX3_report_X3_beginInstallations : GoodIn wsX3_report (wsV RX3 82 RX3 yX3_beginInstallations wsX3_beginInstallations) := goodIn_app (goodIn_of _ (by decide +kernel)) ggX3_report_X3_beginInstallations
theorem dX3_report_0 : decode cX3_report 0 = .ok (.aload_n 0, 1) := by decide +kernel
theorem dX3_report_1 : decode cX3_report 1 = .ok (.iload_n 1, 1) := by decide +kernel
theorem dX3_report_2 : decode cX3_report 2 = .ok (.invokevirtual 99, 3) := by decide +kernel
theorem dX3_report_5 : decode cX3_report 5 = .ok (.astore 6, 2) := by decide +kernel
theorem dX3_report_7 : decode cX3_report 7 = .ok (.aload_n 0, 1) := by decide +kernel
theorem dX3_report_8 : decode cX3_report 8 = .ok (.iload_n 2, 1) := by decide +kernel
theorem dX3_report_9 : decode cX3_report 9 = .ok (.invokevirtual 88, 3) := by decide +kernel
theorem dX3_report_12 : decode cX3_report 12 = .ok (.ifCond .eq 13, 3) := by decide +kernel
theorem dX3_report_15 : decode cX3_report 15 = .ok (.new 92, 3) := by decide +kernel
theorem dX3_report_18 : decode cX3_report 18 = .ok (.dup, 1) := by decide +kernel
theorem dX3_report_19 : decode cX3_report 19 = .ok (.ldc 94, 2) := by decide +kernel
theorem dX3_report_21 : decode cX3_report 21 = .ok (.invokespecial 96, 3) := by decide +kernel
theorem dX3_report_24 : decode cX3_report 24 = .ok (.athrow, 1) := by decide +kernel
theorem dX3_report_25 : decode cX3_report 25 = .ok (.iload_n 3, 1) := by decide +kernel
theorem dX3_report_26 : decode cX3_report 26 = .ok (.iconst 0, 1) := by decide +kernel
theorem dX3_report_27 : decode cX3_report 27 = .ok (.bipush 99, 2) := by decide +kernel
theorem dX3_report_29 : decode cX3_report 29 = .ok (.invokestatic 56, 3) := by decide +kernel
theorem dX3_report_32 : decode cX3_report 32 = .ok (.iload 4, 2) := by decide +kernel
theorem dX3_report_34 : decode cX3_report 34 = .ok (.iconst 0, 1) := by decide +kernel
theorem dX3_report_35 : decode cX3_report 35 = .ok (.iconst 3, 1) := by decide +kernel
theorem dX3_report_36 : decode cX3_report 36 = .ok (.invokestatic 56, 3) := by decide +kernel
theorem dX3_report_39 : decode cX3_report 39 = .ok (.iload 5, 2) := by decide +kernel
theorem dX3_report_41 : decode cX3_report 41 = .ok (.iconst 0, 1) := by decide +kernel
theorem dX3_report_42 : decode cX3_report 42 = .ok (.bipush 15, 2) := by decide +kernel
theorem dX3_report_44 : decode cX3_report 44 = .ok (.invokestatic 56, 3) := by decide +kernel
theorem dX3_report_47 : decode cX3_report 47 = .ok (.aload 6, 2) := by decide +kernel
theorem dX3_report_49 : decode cX3_report 49 = .ok (.getfield 103, 3) := by decide +kernel
theorem dX3_report_52 : decode cX3_report 52 = .ok (.iload_n 2, 1) := by decide +kernel
theorem dX3_report_53 : decode cX3_report 53 = .ok (.if_icmp .eq 7, 3) := by decide +kernel
theorem dX3_report_56 : decode cX3_report 56 = .ok (.iconst 1, 1) := by decide +kernel
theorem dX3_report_57 : decode cX3_report 57 = .ok (.goto 4, 3) := by decide +kernel
theorem dX3_report_60 : decode cX3_report 60 = .ok (.iconst 0, 1) := by decide +kernel
theorem dX3_report_61 : decode cX3_report 61 = .ok (.istore 7, 2) := by decide +kernel
theorem dX3_report_63 : decode cX3_report 63 = .ok (.aload 6, 2) := by decide +kernel
theorem dX3_report_65 : decode cX3_report 65 = .ok (.iload_n 2, 1) := by decide +kernel
theorem dX3_report_66 : decode cX3_report 66 = .ok (.putfield 103, 3) := by decide +kernel
theorem dX3_report_69 : decode cX3_report 69 = .ok (.aload 6, 2) := by decide +kernel
theorem dX3_report_71 : decode cX3_report 71 = .ok (.iload_n 3, 1) := by decide +kernel
theorem dX3_report_72 : decode cX3_report 72 = .ok (.putfield 106, 3) := by decide +kernel
theorem dX3_report_75 : decode cX3_report 75 = .ok (.aload 6, 2) := by decide +kernel
theorem dX3_report_77 : decode cX3_report 77 = .ok (.iload 4, 2) := by decide +kernel
theorem dX3_report_79 : decode cX3_report 79 = .ok (.putfield 107, 3) := by decide +kernel
theorem dX3_report_82 : decode cX3_report 82 = .ok (.aload 6, 2) := by decide +kernel
theorem dX3_report_84 : decode cX3_report 84 = .ok (.iload 5, 2) := by decide +kernel
theorem dX3_report_86 : decode cX3_report 86 = .ok (.putfield 110, 3) := by decide +kernel
theorem dX3_report_89 : decode cX3_report 89 = .ok (.aload_n 0, 1) := by decide +kernel
theorem dX3_report_90 : decode cX3_report 90 = .ok (.aload 6, 2) := by decide +kernel
theorem dX3_report_92 : decode cX3_report 92 = .ok (.iload 7, 2) := by decide +kernel
theorem dX3_report_94 : decode cX3_report 94 = .ok (.invokevirtual 113, 3) := by decide +kernel
theorem dX3_report_97 : decode cX3_report 97 = .ok (.aload_n 0, 1) := by decide +kernel
theorem dX3_report_98 : decode cX3_report 98 = .ok (.invokevirtual 82, 3) := by decide +kernel
theorem dX3_report_101 : decode cX3_report 101 = .ok (.aload 6, 2) := by decide +kernel
theorem dX3_report_103 : decode cX3_report 103 = .ok (.getfield 117, 3) := by decide +kernel
theorem dX3_report_106 : decode cX3_report 106 = .ok (.ireturn, 1) := by decide +kernel
set_option maxRecDepth 20000 in
theorem ggX3_order_X3_machineRow : GoodIn wsX3_order wsX3_machineRow := goodIn_ca (goodIn_r _ [8, 9, 10, 11, 104, 105, 106, 107, 108, 109, 110, 111, 112] (by decide +kernel) (by decide +kernel)) (goodIn_sub (fun _ h => List.mem_cons_of_mem _ (List.mem_append_right _ h)) (by decide +kernel))
set_option maxRecDepth 20000 in
theorem gX3_order_X3_machineRow : GoodIn wsX3_order (wsV RX3 99 RX3 yX3_machineRow wsX3_machineRow) := goodIn_app (goodIn_of _ (by decide +kernel)) ggX3_order_X3_machineRow
set_option maxRecDepth 20000 in
theorem ggX3_order_X3_matchFor : GoodIn wsX3_order wsX3_matchFor := goodIn_r _ [15, 16, 17, 18, 19, 20, 21, 22, 23, 24, 25, 26, 27, 28, 29, 30, 31, 104, 105, 106, 107, 108, 109, 110, 111, 112, 113, 114, 115, 116, 117, 118, 119, 120, 94, 95, 96, 97, 98, 99, 100, 101, 102, 103] (by decide +kernel) (by decide +kernel)
set_option maxRecDepth 20000 in
theorem gX3_order_X3_matchFor : GoodIn wsX3_order (wsV RX3 120 RX3 yX3_matchFor wsX3_matchFor) := goodIn_app (goodIn_of _ (by decide +kernel)) ggX3_order_X3_matchFor
set_option maxRecDepth 20000 in
theorem ggX3_order_X3_enqueue : GoodIn wsX3_order wsX3_enqueue := goodIn_r _ [35, 36, 37, 38, 39, 7, 40, 41, 42, 43, 44, 45, 46, 47, 3, 48, 49, 50, 51, 52, 53, 54, 55, 94, 95, 96, 97, 98, 99, 100, 101, 102, 103, 104, 105, 106, 107, 108, 109, 110, 111, 112, 121, 122, 123] (by decide +kernel) (by decide +kernel)
set_option maxRecDepth 20000 in
theorem gX3_order_X3_enqueue : GoodIn wsX3_order (wsV RX3 129 RX3 yX3_enqueue wsX3_enqueue) := goodIn_app (goodIn_of _ (by decide +kernel)) ggX3_order_X3_enqueue
set_option maxRecDepth 20000 in
theorem ggX3_order_X3_beginInstallations : GoodIn wsX3_order wsX3_beginInstallations := goodIn_r _ [59, 60, 61, 62, 63, 7, 64, 65, 66, 67, 68, 11, 3, 69, 70, 71, 72, 73, 74, 75, 76, 77, 78, 79, 80, 81, 82, 83, 84, 36, 85, 86, 87, 88, 89, 90, 91, 92, 93, 12, 13, 14, 15, 16, 17, 18, 19, 20, 21, 22, 23, 24, 25, 26, 27, 28, 29, 30, 31, 42, 43, 44, 45, 46, 47, 48, 49, 50, 51, 52, 53, 54, 55, 104, 105, 106, 107, 108, 109, 110, 111, 112, 94, 95, 96, 97, 98, 99, 100, 101, 102, 103, 113, 114, 115, 116, 117, 118, 119, 120, 121, 122, 123] (by decide +kernel) (by decide +kernel)
set_option maxRecDepth 20000 in
theorem gX3_order_X3_beginInstallations : GoodIn wsX3_order (wsV RX3 82 RX3 yX3_beginInstallations wsX3_beginInstallations) := goodIn_app (goodIn_of _ (by decide +kernel)) ggX3_order_X3_beginInstallations
theorem dX3_order_0 : decode cX3_order 0 = .ok (.aload_n 0, 1) := by decide +kernel
theorem dX3_order_1 : decode cX3_order 1 = .ok (.iload_n 1, 1) := by decide +kernel
theorem dX3_order_2 : decode cX3_order 2 = .ok (.invokevirtual 99, 3) := by decide +kernel
theorem dX3_order_5 : decode cX3_order 5 = .ok (.astore_n 2, 1) := by decide +kernel
theorem dX3_order_6 : decode cX3_order 6 = .ok (.aload_n 2, 1) := by decide +kernel
theorem dX3_order_7 : decode cX3_order 7 = .ok (.getfield 117, 3) := by decide +kernel
theorem dX3_order_10 : decode cX3_order 10 = .ok (.iconst 1, 1) := by decide +kernel
theorem dX3_order_11 : decode cX3_order 11 = .ok (.if_icmp .ne 11, 3) := by decide +kernel
theorem dX3_order_14 : decode cX3_order 14 = .ok (.aload_n 0, 1) := by decide +kernel
theorem dX3_order_15 : decode cX3_order 15 = .ok (.aload_n 2, 1) := by decide +kernel
theorem dX3_order_16 : decode cX3_order 16 = .ok (.invokevirtual 120, 3) := by decide +kernel
theorem dX3_order_19 : decode cX3_order 19 = .ok (.ifnonnull 13, 3) := by decide +kernel
theorem dX3_order_22 : decode cX3_order 22 = .ok (.new 124, 3) := by decide +kernel
theorem dX3_order_25 : decode cX3_order 25 = .ok (.dup, 1) := by decide +kernel
theorem dX3_order_26 : decode cX3_order 26 = .ok (.ldc 126, 2) := by decide +kernel
theorem dX3_order_28 : decode cX3_order 28 = .ok (.invokespecial 128, 3) := by decide +kernel
theorem dX3_order_31 : decode cX3_order 31 = .ok (.athrow, 1) := by decide +kernel
theorem dX3_order_32 : decode cX3_order 32 = .ok (.aload_n 0, 1) := by decide +kernel
theorem dX3_order_33 : decode cX3_order 33 = .ok (.aload_n 2, 1) := by decide +kernel
theorem dX3_order_34 : decode cX3_order 34 = .ok (.invokevirtual 129, 3) := by decide +kernel
theorem dX3_order_37 : decode cX3_order 37 = .ok (.aload_n 0, 1) := by decide +kernel
theorem dX3_order_38 : decode cX3_order 38 = .ok (.invokevirtual 82, 3) := by decide +kernel
theorem dX3_order_41 : decode cX3_order 41 = .ok (.aload_n 2, 1) := by decide +kernel
theorem dX3_order_42 : decode cX3_order 42 = .ok (.getfield 117, 3) := by decide +kernel
theorem dX3_order_45 : decode cX3_order 45 = .ok (.ireturn, 1) := by decide +kernel
set_option maxRecDepth 20000 in
theorem ggX3_cancel_X3_machineRow : GoodIn wsX3_cancel wsX3_machineRow := goodIn_ca (goodIn_r _ [8, 9, 10, 11, 95, 96, 97, 98, 99, 100, 101, 102, 103] (by decide +kernel) (by decide +kernel)) (goodIn_sub (fun _ h => List.mem_cons_of_mem _ (List.mem_append_right _ h)) (by decide +kernel))
set_option maxRecDepth 20000 in
theorem gX3_cancel_X3_machineRow : GoodIn wsX3_cancel (wsV RX3 99 RX3 yX3_machineRow wsX3_machineRow) := goodIn_app (goodIn_of _ (by decide +kernel)) ggX3_cancel_X3_machineRow
set_option maxRecDepth 20000 in
theorem ggX3_cancel_X3_change : GoodIn wsX3_cancel wsX3_change := goodIn_r _ [15, 16, 17, 3, 18, 19, 20, 21, 22, 23, 24, 25, 95, 96, 97, 98, 99, 100, 101, 102, 103, 85, 86, 87, 88, 89, 90, 91, 92, 93, 94, 104, 105, 106] (by decide +kernel) (by decide +kernel)
set_option maxRecDepth 20000 in
theorem gX3_cancel_X3_change : GoodIn wsX3_cancel (wsV RX3 135 RX3 yX3_change wsX3_change) := goodIn_app (goodIn_of _ (by decide +kernel)) ggX3_cancel_X3_change
set_option maxRecDepth 20000 in
theorem ggX3_cancel_X3_beginInstallations : GoodIn wsX3_cancel wsX3_beginInstallations := goodIn_r _ [29, 30, 31, 32, 33, 7, 34, 35, 36, 37, 38, 11, 3, 39, 40, 41, 42, 43, 44, 45, 46, 47, 48, 49, 50, 51, 52, 53, 54, 55, 56, 57, 58, 59, 60, 61, 62, 63, 64, 65, 66, 67, 68, 69, 70, 71, 72, 73, 74, 75, 76, 77, 78, 79, 80, 81, 82, 83, 84, 12, 13, 14, 15, 16, 17, 18, 19, 20, 21, 22, 23, 24, 25, 95, 96, 97, 98, 99, 100, 101, 102, 103, 85, 86, 87, 88, 89, 90, 91, 92, 93, 94, 107, 108, 109, 110, 111, 112, 113, 114, 104, 105, 106] (by decide +kernel) (by decide +kernel)
set_option maxRecDepth 20000 in
theorem gX3_cancel_X3_beginInstallations : GoodIn wsX3_cancel (wsV RX3 82 RX3 yX3_beginInstallations wsX3_beginInstallations) := goodIn_app (goodIn_of _ (by decide +kernel)) ggX3_cancel_X3_beginInstallations
theorem dX3_cancel_0 : decode cX3_cancel 0 = .ok (.aload_n 0, 1) := by decide +kernel
theorem dX3_cancel_1 : decode cX3_cancel 1 = .ok (.iload_n 1, 1) := by decide +kernel
theorem dX3_cancel_2 : decode cX3_cancel 2 = .ok (.invokevirtual 99, 3) := by decide +kernel
theorem dX3_cancel_5 : decode cX3_cancel 5 = .ok (.astore_n 2, 1) := by decide +kernel
theorem dX3_cancel_6 : decode cX3_cancel 6 = .ok (.aload_n 2, 1) := by decide +kernel
theorem dX3_cancel_7 : decode cX3_cancel 7 = .ok (.getfield 117, 3) := by decide +kernel
theorem dX3_cancel_10 : decode cX3_cancel 10 = .ok (.iconst 2, 1) := by decide +kernel
theorem dX3_cancel_11 : decode cX3_cancel 11 = .ok (.if_icmp .eq 21, 3) := by decide +kernel
theorem dX3_cancel_14 : decode cX3_cancel 14 = .ok (.aload_n 2, 1) := by decide +kernel
theorem dX3_cancel_15 : decode cX3_cancel 15 = .ok (.getfield 117, 3) := by decide +kernel
theorem dX3_cancel_18 : decode cX3_cancel 18 = .ok (.iconst 4, 1) := by decide +kernel
theorem dX3_cancel_19 : decode cX3_cancel 19 = .ok (.if_icmp .eq 13, 3) := by decide +kernel
theorem dX3_cancel_22 : decode cX3_cancel 22 = .ok (.new 124, 3) := by decide +kernel
theorem dX3_cancel_25 : decode cX3_cancel 25 = .ok (.dup, 1) := by decide +kernel
theorem dX3_cancel_26 : decode cX3_cancel 26 = .ok (.ldc 133, 2) := by decide +kernel
theorem dX3_cancel_28 : decode cX3_cancel 28 = .ok (.invokespecial 128, 3) := by decide +kernel
theorem dX3_cancel_31 : decode cX3_cancel 31 = .ok (.athrow, 1) := by decide +kernel
theorem dX3_cancel_32 : decode cX3_cancel 32 = .ok (.aload_n 0, 1) := by decide +kernel
theorem dX3_cancel_33 : decode cX3_cancel 33 = .ok (.aload_n 2, 1) := by decide +kernel
theorem dX3_cancel_34 : decode cX3_cancel 34 = .ok (.iconst 1, 1) := by decide +kernel
theorem dX3_cancel_35 : decode cX3_cancel 35 = .ok (.invokevirtual 135, 3) := by decide +kernel
theorem dX3_cancel_38 : decode cX3_cancel 38 = .ok (.aload_n 0, 1) := by decide +kernel
theorem dX3_cancel_39 : decode cX3_cancel 39 = .ok (.invokevirtual 82, 3) := by decide +kernel
theorem dX3_cancel_42 : decode cX3_cancel 42 = .ok (.return_, 1) := by decide +kernel
set_option maxRecDepth 20000 in
theorem ggX3_finish_X3_machineRow : GoodIn wsX3_finish wsX3_machineRow := goodIn_ca (goodIn_r _ [9, 10, 11, 12, 102, 103, 104, 105, 106, 107, 108, 109, 110] (by decide +kernel) (by decide +kernel)) (goodIn_sub (fun _ h => List.mem_cons_of_mem _ (List.mem_append_right _ h)) (by decide +kernel))
set_option maxRecDepth 20000 in
theorem gX3_finish_X3_machineRow : GoodIn wsX3_finish (wsV RX3 99 RX3 yX3_machineRow wsX3_machineRow) := goodIn_app (goodIn_of _ (by decide +kernel)) ggX3_finish_X3_machineRow
set_option maxRecDepth 20000 in
theorem ggX3_finish_X3_change : GoodIn wsX3_finish wsX3_change := goodIn_r _ [16, 17, 18, 3, 19, 20, 21, 22, 23, 24, 25, 26, 102, 103, 104, 105, 106, 107, 108, 109, 110, 92, 93, 94, 95, 96, 97, 98, 99, 100, 101, 111, 112, 113] (by decide +kernel) (by decide +kernel)
set_option maxRecDepth 20000 in
theorem gX3_finish_X3_change : GoodIn wsX3_finish (wsV RX3 135 RX3 yX3_change wsX3_change) := goodIn_app (goodIn_of _ (by decide +kernel)) ggX3_finish_X3_change
set_option maxRecDepth 20000 in
theorem ggX3_finish_X3_fail : GoodIn wsX3_finish wsX3_fail := goodIn_r _ [30, 4, 31, 32, 33, 34, 13, 14, 15, 8, 16, 17, 18, 3, 19, 20, 21, 22, 23, 24, 25, 26, 92, 93, 94, 95, 96, 97, 98, 99, 100, 101, 102, 103, 104, 105, 106, 107, 108, 109, 110, 111, 112, 113] (by decide +kernel) (by decide +kernel)
set_option maxRecDepth 20000 in
theorem gX3_finish_X3_fail : GoodIn wsX3_finish (wsV RX3 144 RX3 yX3_fail wsX3_fail) := goodIn_app (goodIn_of _ (by decide +kernel)) ggX3_finish_X3_fail
set_option maxRecDepth 20000 in
theorem ggX3_finish_X3_beginInstallations : GoodIn wsX3_finish wsX3_beginInstallations := goodIn_r _ [38, 39, 40, 41, 42, 8, 43, 44, 45, 46, 47, 12, 3, 48, 49, 50, 51, 52, 53, 54, 55, 56, 57, 58, 59, 60, 61, 62, 63, 64, 65, 66, 67, 68, 69, 70, 32, 71, 34, 72, 73, 74, 75, 76, 77, 78, 79, 80, 81, 82, 83, 84, 85, 86, 87, 88, 89, 90, 91, 13, 14, 15, 16, 17, 18, 19, 20, 21, 22, 23, 24, 25, 26, 102, 103, 104, 105, 106, 107, 108, 109, 110, 92, 93, 94, 95, 96, 97, 98, 99, 100, 101, 114, 115, 116, 117, 118, 119, 120, 121, 111, 112, 113] (by decide +kernel) (by decide +kernel)
set_option maxRecDepth 20000 in
theorem gX3_finish_X3_beginInstallations : GoodIn wsX3_finish (wsV RX3 82 RX3 yX3_beginInstallations wsX3_beginInstallations) := goodIn_app (goodIn_of _ (by decide +kernel)) ggX3_finish_X3_beginInstallations
theorem dX3_finish_0 : decode cX3_finish 0 = .ok (.aload_n 0, 1) := by decide +kernel
theorem dX3_finish_1 : decode cX3_finish 1 = .ok (.iload_n 1, 1) := by decide +kernel
theorem dX3_finish_2 : decode cX3_finish 2 = .ok (.invokevirtual 99, 3) := by decide +kernel
theorem dX3_finish_5 : decode cX3_finish 5 = .ok (.astore_n 3, 1) := by decide +kernel
theorem dX3_finish_6 : decode cX3_finish 6 = .ok (.aload_n 3, 1) := by decide +kernel
theorem dX3_finish_7 : decode cX3_finish 7 = .ok (.getfield 117, 3) := by decide +kernel
theorem dX3_finish_10 : decode cX3_finish 10 = .ok (.iconst 3, 1) := by decide +kernel
theorem dX3_finish_11 : decode cX3_finish 11 = .ok (.if_icmp .eq 13, 3) := by decide +kernel
theorem dX3_finish_14 : decode cX3_finish 14 = .ok (.new 124, 3) := by decide +kernel
theorem dX3_finish_17 : decode cX3_finish 17 = .ok (.dup, 1) := by decide +kernel
theorem dX3_finish_18 : decode cX3_finish 18 = .ok (.ldc 139, 2) := by decide +kernel
theorem dX3_finish_20 : decode cX3_finish 20 = .ok (.invokespecial 128, 3) := by decide +kernel
theorem dX3_finish_23 : decode cX3_finish 23 = .ok (.athrow, 1) := by decide +kernel
theorem dX3_finish_24 : decode cX3_finish 24 = .ok (.iload_n 2, 1) := by decide +kernel
theorem dX3_finish_25 : decode cX3_finish 25 = .ok (.ifCond .eq 17, 3) := by decide +kernel
theorem dX3_finish_28 : decode cX3_finish 28 = .ok (.aload_n 3, 1) := by decide +kernel
theorem dX3_finish_29 : decode cX3_finish 29 = .ok (.iconst 0, 1) := by decide +kernel
theorem dX3_finish_30 : decode cX3_finish 30 = .ok (.putfield 141, 3) := by decide +kernel
theorem dX3_finish_33 : decode cX3_finish 33 = .ok (.aload_n 0, 1) := by decide +kernel
theorem dX3_finish_34 : decode cX3_finish 34 = .ok (.aload_n 3, 1) := by decide +kernel
theorem dX3_finish_35 : decode cX3_finish 35 = .ok (.iconst 5, 1) := by decide +kernel
theorem dX3_finish_36 : decode cX3_finish 36 = .ok (.invokevirtual 135, 3) := by decide +kernel
theorem dX3_finish_39 : decode cX3_finish 39 = .ok (.goto 8, 3) := by decide +kernel
theorem dX3_finish_42 : decode cX3_finish 42 = .ok (.aload_n 0, 1) := by decide +kernel
theorem dX3_finish_43 : decode cX3_finish 43 = .ok (.aload_n 3, 1) := by decide +kernel
theorem dX3_finish_44 : decode cX3_finish 44 = .ok (.invokevirtual 144, 3) := by decide +kernel
theorem dX3_finish_47 : decode cX3_finish 47 = .ok (.aload_n 0, 1) := by decide +kernel
theorem dX3_finish_48 : decode cX3_finish 48 = .ok (.invokevirtual 82, 3) := by decide +kernel
theorem dX3_finish_51 : decode cX3_finish 51 = .ok (.aload_n 3, 1) := by decide +kernel
theorem dX3_finish_52 : decode cX3_finish 52 = .ok (.getfield 117, 3) := by decide +kernel
theorem dX3_finish_55 : decode cX3_finish 55 = .ok (.ireturn, 1) := by decide +kernel
set_option maxRecDepth 20000 in
theorem ggX3_retire_X3_machineRow : GoodIn wsX3_retire wsX3_machineRow := goodIn_ca (goodIn_r _ [10, 11, 12, 13, 105, 106, 107, 108, 109, 110, 111, 112, 113] (by decide +kernel) (by decide +kernel)) (goodIn_sub (fun _ h => List.mem_cons_of_mem _ (List.mem_append_left _ (List.mem_append_right _ h))) (by decide +kernel))
set_option maxRecDepth 20000 in
theorem gX3_retire_X3_machineRow : GoodIn wsX3_retire (wsV RX3 99 RX3 yX3_machineRow wsX3_machineRow) := goodIn_app (goodIn_of _ (by decide +kernel)) ggX3_retire_X3_machineRow
set_option maxRecDepth 20000 in
theorem ggX3_retire_X3_refuseOutside : GoodIn wsX3_retire wsX3_refuseOutside := goodIn_ca (goodIn_r _ [16, 17, 18] (by decide +kernel) (by decide +kernel)) (goodIn_sub (fun _ h => List.mem_cons_of_mem _ (List.mem_append_right _ h)) (by decide +kernel))
set_option maxRecDepth 20000 in
theorem gX3_retire_X3_refuseOutside : GoodIn wsX3_retire (va_wsS RX3 56 yX3_refuseOutside wsX3_refuseOutside) := goodIn_app (goodIn_of _ (by decide +kernel)) ggX3_retire_X3_refuseOutside
set_option maxRecDepth 20000 in
theorem ggX3_retire_X3_wipe : GoodIn wsX3_retire wsX3_wipe := goodIn_r _ [22, 23, 24, 25, 26, 9, 27, 28, 29, 3, 30, 31, 32, 33, 34, 35, 36, 37, 105, 106, 107, 108, 109, 110, 111, 112, 113, 95, 96, 97, 98, 99, 100, 101, 102, 103, 104, 114, 115, 116] (by decide +kernel) (by decide +kernel)
set_option maxRecDepth 20000 in
theorem gX3_retire_X3_wipe : GoodIn wsX3_retire (wsV RX3 149 RX3 yX3_wipe wsX3_wipe) := goodIn_app (goodIn_of _ (by decide +kernel)) ggX3_retire_X3_wipe
set_option maxRecDepth 20000 in
theorem ggX3_retire_X3_change : GoodIn wsX3_retire wsX3_change := goodIn_r _ [27, 28, 29, 3, 30, 31, 32, 33, 34, 35, 36, 37, 105, 106, 107, 108, 109, 110, 111, 112, 113, 95, 96, 97, 98, 99, 100, 101, 102, 103, 104, 114, 115, 116] (by decide +kernel) (by decide +kernel)
set_option maxRecDepth 20000 in
theorem gX3_retire_X3_change : GoodIn wsX3_retire (wsV RX3 135 RX3 yX3_change wsX3_change) := goodIn_app (goodIn_of _ (by decide +kernel)) ggX3_retire_X3_change
set_option maxRecDepth 20000 in
theorem ggX3_retire_X3_beginInstallations : GoodIn wsX3_retire wsX3_beginInstallations := goodIn_r _ [41, 42, 43, 44, 45, 9, 46, 47, 48, 49, 50, 13, 3, 51, 52, 53, 54, 55, 56, 57, 58, 59, 60, 61, 62, 63, 64, 65, 66, 67, 68, 69, 70, 71, 72, 73, 4, 74, 5, 75, 76, 77, 78, 79, 80, 81, 82, 83, 84, 85, 86, 87, 88, 89, 90, 91, 92, 93, 94, 24, 25, 26, 27, 28, 29, 30, 31, 32, 33, 34, 35, 36, 37, 105, 106, 107, 108, 109, 110, 111, 112, 113, 95, 96, 97, 98, 99, 100, 101, 102, 103, 104, 117, 118, 119, 120, 121, 122, 123, 124, 114, 115, 116] (by decide +kernel) (by decide +kernel)
set_option maxRecDepth 20000 in
theorem gX3_retire_X3_beginInstallations : GoodIn wsX3_retire (wsV RX3 82 RX3 yX3_beginInstallations wsX3_beginInstallations) := goodIn_app (goodIn_of _ (by decide +kernel)) ggX3_retire_X3_beginInstallations
theorem dX3_retire_0 : decode cX3_retire 0 = .ok (.aload_n 0, 1) := by decide +kernel
theorem dX3_retire_1 : decode cX3_retire 1 = .ok (.iload_n 1, 1) := by decide +kernel
theorem dX3_retire_2 : decode cX3_retire 2 = .ok (.invokevirtual 99, 3) := by decide +kernel
theorem dX3_retire_5 : decode cX3_retire 5 = .ok (.astore_n 3, 1) := by decide +kernel
theorem dX3_retire_6 : decode cX3_retire 6 = .ok (.iload_n 2, 1) := by decide +kernel
theorem dX3_retire_7 : decode cX3_retire 7 = .ok (.iconst 0, 1) := by decide +kernel
theorem dX3_retire_8 : decode cX3_retire 8 = .ok (.bipush 48, 2) := by decide +kernel
theorem dX3_retire_10 : decode cX3_retire 10 = .ok (.invokestatic 56, 3) := by decide +kernel
theorem dX3_retire_13 : decode cX3_retire 13 = .ok (.aload_n 3, 1) := by decide +kernel
theorem dX3_retire_14 : decode cX3_retire 14 = .ok (.getfield 117, 3) := by decide +kernel
theorem dX3_retire_17 : decode cX3_retire 17 = .ok (.iconst 5, 1) := by decide +kernel
theorem dX3_retire_18 : decode cX3_retire 18 = .ok (.if_icmp .eq 13, 3) := by decide +kernel
theorem dX3_retire_21 : decode cX3_retire 21 = .ok (.new 124, 3) := by decide +kernel
theorem dX3_retire_24 : decode cX3_retire 24 = .ok (.dup, 1) := by decide +kernel
theorem dX3_retire_25 : decode cX3_retire 25 = .ok (.ldc 147, 2) := by decide +kernel
theorem dX3_retire_27 : decode cX3_retire 27 = .ok (.invokespecial 128, 3) := by decide +kernel
theorem dX3_retire_30 : decode cX3_retire 30 = .ok (.athrow, 1) := by decide +kernel
theorem dX3_retire_31 : decode cX3_retire 31 = .ok (.iload_n 2, 1) := by decide +kernel
theorem dX3_retire_32 : decode cX3_retire 32 = .ok (.ifCond .ne 11, 3) := by decide +kernel
theorem dX3_retire_35 : decode cX3_retire 35 = .ok (.aload_n 0, 1) := by decide +kernel
theorem dX3_retire_36 : decode cX3_retire 36 = .ok (.aload_n 3, 1) := by decide +kernel
theorem dX3_retire_37 : decode cX3_retire 37 = .ok (.invokevirtual 149, 3) := by decide +kernel
theorem dX3_retire_40 : decode cX3_retire 40 = .ok (.goto 20, 3) := by decide +kernel
theorem dX3_retire_43 : decode cX3_retire 43 = .ok (.aload_n 3, 1) := by decide +kernel
theorem dX3_retire_44 : decode cX3_retire 44 = .ok (.aload_n 0, 1) := by decide +kernel
theorem dX3_retire_45 : decode cX3_retire 45 = .ok (.getfield 39, 3) := by decide +kernel
theorem dX3_retire_48 : decode cX3_retire 48 = .ok (.iload_n 2, 1) := by decide +kernel
theorem dX3_retire_49 : decode cX3_retire 49 = .ok (.iadd, 1) := by decide +kernel
theorem dX3_retire_50 : decode cX3_retire 50 = .ok (.putfield 152, 3) := by decide +kernel
theorem dX3_retire_53 : decode cX3_retire 53 = .ok (.aload_n 0, 1) := by decide +kernel
theorem dX3_retire_54 : decode cX3_retire 54 = .ok (.aload_n 3, 1) := by decide +kernel
theorem dX3_retire_55 : decode cX3_retire 55 = .ok (.bipush 6, 2) := by decide +kernel
theorem dX3_retire_57 : decode cX3_retire 57 = .ok (.invokevirtual 135, 3) := by decide +kernel
theorem dX3_retire_60 : decode cX3_retire 60 = .ok (.aload_n 0, 1) := by decide +kernel
theorem dX3_retire_61 : decode cX3_retire 61 = .ok (.invokevirtual 82, 3) := by decide +kernel
theorem dX3_retire_64 : decode cX3_retire 64 = .ok (.return_, 1) := by decide +kernel
set_option maxRecDepth 20000 in
theorem ggX3_keep_X3_machineRow : GoodIn wsX3_keep wsX3_machineRow := goodIn_ca (goodIn_r _ [8, 9, 10, 11, 95, 96, 97, 98, 99, 100, 101, 102, 103] (by decide +kernel) (by decide +kernel)) (goodIn_sub (fun _ h => List.mem_cons_of_mem _ (List.mem_append_right _ h)) (by decide +kernel))
set_option maxRecDepth 20000 in
theorem gX3_keep_X3_machineRow : GoodIn wsX3_keep (wsV RX3 99 RX3 yX3_machineRow wsX3_machineRow) := goodIn_app (goodIn_of _ (by decide +kernel)) ggX3_keep_X3_machineRow
set_option maxRecDepth 20000 in
theorem ggX3_keep_X3_change : GoodIn wsX3_keep wsX3_change := goodIn_r _ [15, 16, 17, 3, 18, 19, 20, 21, 22, 23, 24, 25, 95, 96, 97, 98, 99, 100, 101, 102, 103, 85, 86, 87, 88, 89, 90, 91, 92, 93, 94, 104, 105, 106] (by decide +kernel) (by decide +kernel)
set_option maxRecDepth 20000 in
theorem gX3_keep_X3_change : GoodIn wsX3_keep (wsV RX3 135 RX3 yX3_change wsX3_change) := goodIn_app (goodIn_of _ (by decide +kernel)) ggX3_keep_X3_change
set_option maxRecDepth 20000 in
theorem ggX3_keep_X3_beginInstallations : GoodIn wsX3_keep wsX3_beginInstallations := goodIn_r _ [29, 30, 31, 32, 33, 7, 34, 35, 36, 37, 38, 11, 3, 39, 40, 41, 42, 43, 44, 45, 46, 47, 48, 49, 50, 51, 52, 53, 54, 55, 56, 57, 58, 59, 60, 61, 62, 63, 64, 65, 66, 67, 68, 69, 70, 71, 72, 73, 74, 75, 76, 77, 78, 79, 80, 81, 82, 83, 84, 12, 13, 14, 15, 16, 17, 18, 19, 20, 21, 22, 23, 24, 25, 95, 96, 97, 98, 99, 100, 101, 102, 103, 85, 86, 87, 88, 89, 90, 91, 92, 93, 94, 107, 108, 109, 110, 111, 112, 113, 114, 104, 105, 106] (by decide +kernel) (by decide +kernel)
set_option maxRecDepth 20000 in
theorem gX3_keep_X3_beginInstallations : GoodIn wsX3_keep (wsV RX3 82 RX3 yX3_beginInstallations wsX3_beginInstallations) := goodIn_app (goodIn_of _ (by decide +kernel)) ggX3_keep_X3_beginInstallations
theorem dX3_keep_0 : decode cX3_keep 0 = .ok (.aload_n 0, 1) := by decide +kernel
theorem dX3_keep_1 : decode cX3_keep 1 = .ok (.iload_n 1, 1) := by decide +kernel
theorem dX3_keep_2 : decode cX3_keep 2 = .ok (.invokevirtual 99, 3) := by decide +kernel
theorem dX3_keep_5 : decode cX3_keep 5 = .ok (.astore_n 2, 1) := by decide +kernel
theorem dX3_keep_6 : decode cX3_keep 6 = .ok (.aload_n 2, 1) := by decide +kernel
theorem dX3_keep_7 : decode cX3_keep 7 = .ok (.getfield 117, 3) := by decide +kernel
theorem dX3_keep_10 : decode cX3_keep 10 = .ok (.bipush 6, 2) := by decide +kernel
theorem dX3_keep_12 : decode cX3_keep 12 = .ok (.if_icmp .eq 13, 3) := by decide +kernel
theorem dX3_keep_15 : decode cX3_keep 15 = .ok (.new 124, 3) := by decide +kernel
theorem dX3_keep_18 : decode cX3_keep 18 = .ok (.dup, 1) := by decide +kernel
theorem dX3_keep_19 : decode cX3_keep 19 = .ok (.ldc 155, 2) := by decide +kernel
theorem dX3_keep_21 : decode cX3_keep 21 = .ok (.invokespecial 128, 3) := by decide +kernel
theorem dX3_keep_24 : decode cX3_keep 24 = .ok (.athrow, 1) := by decide +kernel
theorem dX3_keep_25 : decode cX3_keep 25 = .ok (.aload_n 0, 1) := by decide +kernel
theorem dX3_keep_26 : decode cX3_keep 26 = .ok (.aload_n 2, 1) := by decide +kernel
theorem dX3_keep_27 : decode cX3_keep 27 = .ok (.iconst 5, 1) := by decide +kernel
theorem dX3_keep_28 : decode cX3_keep 28 = .ok (.invokevirtual 135, 3) := by decide +kernel
theorem dX3_keep_31 : decode cX3_keep 31 = .ok (.aload_n 0, 1) := by decide +kernel
theorem dX3_keep_32 : decode cX3_keep 32 = .ok (.invokevirtual 82, 3) := by decide +kernel
theorem dX3_keep_35 : decode cX3_keep 35 = .ok (.return_, 1) := by decide +kernel
set_option maxRecDepth 20000 in
theorem ggX3_release_X3_machineRow : GoodIn wsX3_release wsX3_machineRow := goodIn_ca (goodIn_r _ [9, 10, 11, 12, 96, 97, 98, 99, 100, 101, 102, 103, 104] (by decide +kernel) (by decide +kernel)) (goodIn_sub (fun _ h => List.mem_cons_of_mem _ (List.mem_append_right _ h)) (by decide +kernel))
set_option maxRecDepth 20000 in
theorem gX3_release_X3_machineRow : GoodIn wsX3_release (wsV RX3 99 RX3 yX3_machineRow wsX3_machineRow) := goodIn_app (goodIn_of _ (by decide +kernel)) ggX3_release_X3_machineRow
set_option maxRecDepth 20000 in
theorem ggX3_release_X3_change : GoodIn wsX3_release wsX3_change := goodIn_r _ [16, 17, 18, 3, 19, 20, 21, 22, 23, 24, 25, 26, 96, 97, 98, 99, 100, 101, 102, 103, 104, 86, 87, 88, 89, 90, 91, 92, 93, 94, 95, 105, 106, 107] (by decide +kernel) (by decide +kernel)
set_option maxRecDepth 20000 in
theorem gX3_release_X3_change : GoodIn wsX3_release (wsV RX3 135 RX3 yX3_change wsX3_change) := goodIn_app (goodIn_of _ (by decide +kernel)) ggX3_release_X3_change
set_option maxRecDepth 20000 in
theorem ggX3_release_X3_beginInstallations : GoodIn wsX3_release wsX3_beginInstallations := goodIn_r _ [30, 31, 32, 33, 34, 8, 35, 36, 37, 38, 39, 12, 3, 40, 41, 42, 43, 44, 45, 46, 47, 48, 49, 50, 51, 52, 53, 54, 55, 56, 57, 58, 59, 60, 61, 62, 63, 64, 65, 66, 67, 68, 69, 70, 71, 72, 73, 74, 75, 76, 77, 78, 79, 80, 81, 82, 83, 84, 85, 13, 14, 15, 16, 17, 18, 19, 20, 21, 22, 23, 24, 25, 26, 96, 97, 98, 99, 100, 101, 102, 103, 104, 86, 87, 88, 89, 90, 91, 92, 93, 94, 95, 108, 109, 110, 111, 112, 113, 114, 115, 105, 106, 107] (by decide +kernel) (by decide +kernel)
set_option maxRecDepth 20000 in
theorem gX3_release_X3_beginInstallations : GoodIn wsX3_release (wsV RX3 82 RX3 yX3_beginInstallations wsX3_beginInstallations) := goodIn_app (goodIn_of _ (by decide +kernel)) ggX3_release_X3_beginInstallations
theorem dX3_release_0 : decode cX3_release 0 = .ok (.aload_n 0, 1) := by decide +kernel
theorem dX3_release_1 : decode cX3_release 1 = .ok (.iload_n 1, 1) := by decide +kernel
theorem dX3_release_2 : decode cX3_release 2 = .ok (.invokevirtual 99, 3) := by decide +kernel
theorem dX3_release_5 : decode cX3_release 5 = .ok (.astore_n 2, 1) := by decide +kernel
theorem dX3_release_6 : decode cX3_release 6 = .ok (.aload_n 2, 1) := by decide +kernel
theorem dX3_release_7 : decode cX3_release 7 = .ok (.getfield 117, 3) := by decide +kernel
theorem dX3_release_10 : decode cX3_release 10 = .ok (.bipush 7, 2) := by decide +kernel
theorem dX3_release_12 : decode cX3_release 12 = .ok (.if_icmp .eq 13, 3) := by decide +kernel
theorem dX3_release_15 : decode cX3_release 15 = .ok (.new 124, 3) := by decide +kernel
theorem dX3_release_18 : decode cX3_release 18 = .ok (.dup, 1) := by decide +kernel
theorem dX3_release_19 : decode cX3_release 19 = .ok (.ldc 157, 2) := by decide +kernel
theorem dX3_release_21 : decode cX3_release 21 = .ok (.invokespecial 128, 3) := by decide +kernel
theorem dX3_release_24 : decode cX3_release 24 = .ok (.athrow, 1) := by decide +kernel
theorem dX3_release_25 : decode cX3_release 25 = .ok (.aload_n 2, 1) := by decide +kernel
theorem dX3_release_26 : decode cX3_release 26 = .ok (.iconst 0, 1) := by decide +kernel
theorem dX3_release_27 : decode cX3_release 27 = .ok (.putfield 141, 3) := by decide +kernel
theorem dX3_release_30 : decode cX3_release 30 = .ok (.aload_n 0, 1) := by decide +kernel
theorem dX3_release_31 : decode cX3_release 31 = .ok (.aload_n 2, 1) := by decide +kernel
theorem dX3_release_32 : decode cX3_release 32 = .ok (.iconst 1, 1) := by decide +kernel
theorem dX3_release_33 : decode cX3_release 33 = .ok (.invokevirtual 135, 3) := by decide +kernel
theorem dX3_release_36 : decode cX3_release 36 = .ok (.aload_n 0, 1) := by decide +kernel
theorem dX3_release_37 : decode cX3_release 37 = .ok (.invokevirtual 82, 3) := by decide +kernel
theorem dX3_release_40 : decode cX3_release 40 = .ok (.return_, 1) := by decide +kernel
set_option maxRecDepth 20000 in
theorem ggX3_advance_X3_refuseOutside : GoodIn wsX3_advance wsX3_refuseOutside := goodIn_ca (goodIn_r _ [6, 7, 8] (by decide +kernel) (by decide +kernel)) (goodIn_sub (fun _ h => List.mem_cons_of_mem _ (List.mem_append_right _ h)) (by decide +kernel))
set_option maxRecDepth 20000 in
theorem gX3_advance_X3_refuseOutside : GoodIn wsX3_advance (va_wsS RX3 56 yX3_refuseOutside wsX3_refuseOutside) := goodIn_app (goodIn_of _ (by decide +kernel)) ggX3_advance_X3_refuseOutside
set_option maxRecDepth 20000 in
theorem ggX3_advance_X3_passHour : GoodIn wsX3_advance wsX3_passHour := goodIn_r _ [12, 13, 14, 15, 16, 5, 17, 18, 19, 20, 21, 22, 23, 24, 25, 26, 27, 28, 29, 30, 31, 32, 33, 34, 35, 36, 37, 1, 38, 39, 40, 41, 42, 43, 44, 45, 46, 47, 48, 49, 50, 51, 52, 53, 54, 55, 56, 57, 58, 59, 60, 61, 62, 63, 64, 65, 66, 67, 68, 69, 70, 71, 72, 73, 74, 75, 76, 77, 78, 79, 80, 81, 82, 83, 84, 85, 86, 87, 88, 89, 90, 91, 92, 93, 94, 95, 96, 97, 98, 99, 100, 101, 102, 103, 104, 105, 106, 107, 108, 109, 110, 111, 112, 113, 114, 115, 116, 117, 118, 119, 120, 121, 122, 123, 124, 125, 126, 127, 128, 129, 130, 131, 132, 133, 137, 138, 139, 140, 141, 142, 143, 144, 145, 146, 134, 135, 136, 147, 148, 149, 150, 151, 152, 153, 154] (by decide +kernel) (by decide +kernel)
set_option maxRecDepth 20000 in
theorem gX3_advance_X3_passHour : GoodIn wsX3_advance (wsV RX3 162 RX3 yX3_passHour wsX3_passHour) := goodIn_app (goodIn_of _ (by decide +kernel)) ggX3_advance_X3_passHour
theorem dX3_advance_0 : decode cX3_advance 0 = .ok (.iload_n 1, 1) := by decide +kernel
theorem dX3_advance_1 : decode cX3_advance 1 = .ok (.iconst 1, 1) := by decide +kernel
theorem dX3_advance_2 : decode cX3_advance 2 = .ok (.sipush 200, 3) := by decide +kernel
theorem dX3_advance_5 : decode cX3_advance 5 = .ok (.invokestatic 56, 3) := by decide +kernel
theorem dX3_advance_8 : decode cX3_advance 8 = .ok (.aload_n 0, 1) := by decide +kernel
theorem dX3_advance_9 : decode cX3_advance 9 = .ok (.getfield 28, 3) := by decide +kernel
theorem dX3_advance_12 : decode cX3_advance 12 = .ok (.getfield 159, 3) := by decide +kernel
theorem dX3_advance_15 : decode cX3_advance 15 = .ok (.istore_n 2, 1) := by decide +kernel
theorem dX3_advance_16 : decode cX3_advance 16 = .ok (.iconst 0, 1) := by decide +kernel
theorem dX3_advance_17 : decode cX3_advance 17 = .ok (.istore_n 3, 1) := by decide +kernel
theorem dX3_advance_18 : decode cX3_advance 18 = .ok (.iload_n 3, 1) := by decide +kernel
theorem dX3_advance_19 : decode cX3_advance 19 = .ok (.iload_n 1, 1) := by decide +kernel
theorem dX3_advance_20 : decode cX3_advance 20 = .ok (.if_icmp .ge 13, 3) := by decide +kernel
theorem dX3_advance_23 : decode cX3_advance 23 = .ok (.aload_n 0, 1) := by decide +kernel
theorem dX3_advance_24 : decode cX3_advance 24 = .ok (.invokevirtual 162, 3) := by decide +kernel
theorem dX3_advance_27 : decode cX3_advance 27 = .ok (.iinc 3 1, 3) := by decide +kernel
theorem dX3_advance_30 : decode cX3_advance 30 = .ok (.goto (-12), 3) := by decide +kernel
theorem dX3_advance_33 : decode cX3_advance 33 = .ok (.aload_n 0, 1) := by decide +kernel
theorem dX3_advance_34 : decode cX3_advance 34 = .ok (.getfield 28, 3) := by decide +kernel
theorem dX3_advance_37 : decode cX3_advance 37 = .ok (.getfield 159, 3) := by decide +kernel
theorem dX3_advance_40 : decode cX3_advance 40 = .ok (.iload_n 2, 1) := by decide +kernel
theorem dX3_advance_41 : decode cX3_advance 41 = .ok (.isub, 1) := by decide +kernel
theorem dX3_advance_42 : decode cX3_advance 42 = .ok (.ireturn, 1) := by decide +kernel
theorem dX3_now_0 : decode cX3_now 0 = .ok (.aload_n 0, 1) := by decide +kernel
theorem dX3_now_1 : decode cX3_now 1 = .ok (.getfield 39, 3) := by decide +kernel
theorem dX3_now_4 : decode cX3_now 4 = .ok (.ireturn, 1) := by decide +kernel
set_option maxRecDepth 20000 in
theorem ggX3_stateOf_X3_machineRow : GoodIn wsX3_stateOf wsX3_machineRow := goodIn_ca (goodIn_r _ [6, 7, 8, 9, 20, 21, 22, 23, 24, 25, 26, 27, 28] (by decide +kernel) (by decide +kernel)) (goodIn_sub (fun _ h => List.mem_cons_of_mem _ (List.mem_append_right _ h)) (by decide +kernel))
set_option maxRecDepth 20000 in
theorem gX3_stateOf_X3_machineRow : GoodIn wsX3_stateOf (wsV RX3 99 RX3 yX3_machineRow wsX3_machineRow) := goodIn_app (goodIn_of _ (by decide +kernel)) ggX3_stateOf_X3_machineRow
theorem dX3_stateOf_0 : decode cX3_stateOf 0 = .ok (.aload_n 0, 1) := by decide +kernel
theorem dX3_stateOf_1 : decode cX3_stateOf 1 = .ok (.iload_n 1, 1) := by decide +kernel
theorem dX3_stateOf_2 : decode cX3_stateOf 2 = .ok (.invokevirtual 99, 3) := by decide +kernel
theorem dX3_stateOf_5 : decode cX3_stateOf 5 = .ok (.getfield 117, 3) := by decide +kernel
theorem dX3_stateOf_8 : decode cX3_stateOf 8 = .ok (.ireturn, 1) := by decide +kernel
set_option maxRecDepth 20000 in
theorem ggX3_reason_X3_machineRow : GoodIn wsX3_reason wsX3_machineRow := goodIn_ca (goodIn_r _ [6, 7, 8, 9, 43, 44, 45, 46, 47, 48, 49, 50, 51] (by decide +kernel) (by decide +kernel)) (goodIn_sub (fun _ h => List.mem_cons_of_mem _ (List.mem_append_right _ h)) (by decide +kernel))
set_option maxRecDepth 20000 in
theorem gX3_reason_X3_machineRow : GoodIn wsX3_reason (wsV RX3 99 RX3 yX3_machineRow wsX3_machineRow) := goodIn_app (goodIn_of _ (by decide +kernel)) ggX3_reason_X3_machineRow
set_option maxRecDepth 20000 in
theorem ggX3_reason_X3_matchFor : GoodIn wsX3_reason wsX3_matchFor := goodIn_r _ [13, 14, 15, 16, 17, 18, 19, 20, 21, 22, 23, 24, 25, 26, 27, 28, 29, 43, 44, 45, 46, 47, 48, 49, 50, 51, 52, 53, 54, 55, 56, 57, 58, 59, 33, 34, 35, 36, 37, 38, 39, 40, 41, 42] (by decide +kernel) (by decide +kernel)
set_option maxRecDepth 20000 in
theorem gX3_reason_X3_matchFor : GoodIn wsX3_reason (wsV RX3 120 RX3 yX3_matchFor wsX3_matchFor) := goodIn_app (goodIn_of _ (by decide +kernel)) ggX3_reason_X3_matchFor
set_option maxRecDepth 20000 in
theorem ggX3_reason_X3_reasonOfState : GoodIn wsX3_reason wsX3_reasonOfState := goodIn_r _ [32] (by decide +kernel) (by decide +kernel)
set_option maxRecDepth 20000 in
theorem gX3_reason_X3_reasonOfState : GoodIn wsX3_reason (va_wsS RX3 165 yX3_reasonOfState wsX3_reasonOfState) := goodIn_app (goodIn_of _ (by decide +kernel)) ggX3_reason_X3_reasonOfState
theorem dX3_reason_0 : decode cX3_reason 0 = .ok (.aload_n 0, 1) := by decide +kernel
theorem dX3_reason_1 : decode cX3_reason 1 = .ok (.iload_n 1, 1) := by decide +kernel
theorem dX3_reason_2 : decode cX3_reason 2 = .ok (.invokevirtual 99, 3) := by decide +kernel
theorem dX3_reason_5 : decode cX3_reason 5 = .ok (.astore_n 2, 1) := by decide +kernel
theorem dX3_reason_6 : decode cX3_reason 6 = .ok (.aload_n 2, 1) := by decide +kernel
theorem dX3_reason_7 : decode cX3_reason 7 = .ok (.getfield 117, 3) := by decide +kernel
theorem dX3_reason_10 : decode cX3_reason 10 = .ok (.iconst 1, 1) := by decide +kernel
theorem dX3_reason_11 : decode cX3_reason 11 = .ok (.if_icmp .eq 11, 3) := by decide +kernel
theorem dX3_reason_14 : decode cX3_reason 14 = .ok (.aload_n 2, 1) := by decide +kernel
theorem dX3_reason_15 : decode cX3_reason 15 = .ok (.getfield 117, 3) := by decide +kernel
theorem dX3_reason_18 : decode cX3_reason 18 = .ok (.iconst 2, 1) := by decide +kernel
theorem dX3_reason_19 : decode cX3_reason 19 = .ok (.if_icmp .ne 7, 3) := by decide +kernel
theorem dX3_reason_22 : decode cX3_reason 22 = .ok (.iconst 1, 1) := by decide +kernel
theorem dX3_reason_23 : decode cX3_reason 23 = .ok (.goto 4, 3) := by decide +kernel
theorem dX3_reason_26 : decode cX3_reason 26 = .ok (.iconst 0, 1) := by decide +kernel
theorem dX3_reason_27 : decode cX3_reason 27 = .ok (.istore_n 3, 1) := by decide +kernel
theorem dX3_reason_28 : decode cX3_reason 28 = .ok (.iload_n 3, 1) := by decide +kernel
theorem dX3_reason_29 : decode cX3_reason 29 = .ok (.ifCond .eq 13, 3) := by decide +kernel
theorem dX3_reason_32 : decode cX3_reason 32 = .ok (.aload_n 0, 1) := by decide +kernel
theorem dX3_reason_33 : decode cX3_reason 33 = .ok (.aload_n 2, 1) := by decide +kernel
theorem dX3_reason_34 : decode cX3_reason 34 = .ok (.invokevirtual 120, 3) := by decide +kernel
theorem dX3_reason_37 : decode cX3_reason 37 = .ok (.ifnonnull 5, 3) := by decide +kernel
theorem dX3_reason_40 : decode cX3_reason 40 = .ok (.iconst 2, 1) := by decide +kernel
theorem dX3_reason_41 : decode cX3_reason 41 = .ok (.ireturn, 1) := by decide +kernel
theorem dX3_reason_42 : decode cX3_reason 42 = .ok (.aload_n 2, 1) := by decide +kernel
theorem dX3_reason_43 : decode cX3_reason 43 = .ok (.getfield 117, 3) := by decide +kernel
theorem dX3_reason_46 : decode cX3_reason 46 = .ok (.invokestatic 165, 3) := by decide +kernel
theorem dX3_reason_49 : decode cX3_reason 49 = .ok (.ireturn, 1) := by decide +kernel
set_option maxRecDepth 20000 in
theorem ggX3_matchOf_X3_machineRow : GoodIn wsX3_matchOf wsX3_machineRow := goodIn_ca (goodIn_r _ [6, 7, 8, 9, 38, 39, 40, 41, 42, 43, 44, 45, 46] (by decide +kernel) (by decide +kernel)) (goodIn_sub (fun _ h => List.mem_cons_of_mem _ (List.mem_append_right _ h)) (by decide +kernel))
set_option maxRecDepth 20000 in
theorem gX3_matchOf_X3_machineRow : GoodIn wsX3_matchOf (wsV RX3 99 RX3 yX3_machineRow wsX3_machineRow) := goodIn_app (goodIn_of _ (by decide +kernel)) ggX3_matchOf_X3_machineRow
set_option maxRecDepth 20000 in
theorem ggX3_matchOf_X3_matchFor : GoodIn wsX3_matchOf wsX3_matchFor := goodIn_r _ [13, 14, 15, 16, 17, 18, 19, 20, 21, 22, 23, 24, 25, 26, 27, 28, 29, 38, 39, 40, 41, 42, 43, 44, 45, 46, 30, 31, 32, 33, 34, 35, 36, 37, 47, 48, 49, 50, 51, 52, 53, 54, 55, 56] (by decide +kernel) (by decide +kernel)
set_option maxRecDepth 20000 in
theorem gX3_matchOf_X3_matchFor : GoodIn wsX3_matchOf (wsV RX3 120 RX3 yX3_matchFor wsX3_matchFor) := goodIn_app (goodIn_of _ (by decide +kernel)) ggX3_matchOf_X3_matchFor
theorem dX3_matchOf_0 : decode cX3_matchOf 0 = .ok (.aload_n 0, 1) := by decide +kernel
theorem dX3_matchOf_1 : decode cX3_matchOf 1 = .ok (.aload_n 0, 1) := by decide +kernel
theorem dX3_matchOf_2 : decode cX3_matchOf 2 = .ok (.iload_n 1, 1) := by decide +kernel
theorem dX3_matchOf_3 : decode cX3_matchOf 3 = .ok (.invokevirtual 99, 3) := by decide +kernel
theorem dX3_matchOf_6 : decode cX3_matchOf 6 = .ok (.invokevirtual 120, 3) := by decide +kernel
theorem dX3_matchOf_9 : decode cX3_matchOf 9 = .ok (.astore_n 2, 1) := by decide +kernel
theorem dX3_matchOf_10 : decode cX3_matchOf 10 = .ok (.aload_n 2, 1) := by decide +kernel
theorem dX3_matchOf_11 : decode cX3_matchOf 11 = .ok (.ifnonnull 7, 3) := by decide +kernel
theorem dX3_matchOf_14 : decode cX3_matchOf 14 = .ok (.iconst (-1), 1) := by decide +kernel
theorem dX3_matchOf_15 : decode cX3_matchOf 15 = .ok (.goto 7, 3) := by decide +kernel
theorem dX3_matchOf_18 : decode cX3_matchOf 18 = .ok (.aload_n 2, 1) := by decide +kernel
theorem dX3_matchOf_19 : decode cX3_matchOf 19 = .ok (.getfield 169, 3) := by decide +kernel
theorem dX3_matchOf_22 : decode cX3_matchOf 22 = .ok (.ireturn, 1) := by decide +kernel
set_option maxRecDepth 20000 in
theorem ggX3_imageOf_X3_machineRow : GoodIn wsX3_imageOf wsX3_machineRow := goodIn_ca (goodIn_r _ [6, 7, 8, 9, 26, 27, 28, 29, 30, 31, 32, 33, 34] (by decide +kernel) (by decide +kernel)) (goodIn_sub (fun _ h => List.mem_cons_of_mem _ (List.mem_append_right _ h)) (by decide +kernel))
set_option maxRecDepth 20000 in
theorem gX3_imageOf_X3_machineRow : GoodIn wsX3_imageOf (wsV RX3 99 RX3 yX3_machineRow wsX3_machineRow) := goodIn_app (goodIn_of _ (by decide +kernel)) ggX3_imageOf_X3_machineRow
set_option maxRecDepth 20000 in
theorem ggX3_imageOf_X2_bearsImage : GoodIn wsX3_imageOf wsX2_bearsImage := goodIn_r _ [14, 15, 16, 17, 18, 19, 20, 21, 22, 23, 24, 25] (by decide +kernel) (by decide +kernel)
set_option maxRecDepth 20000 in
theorem gX3_imageOf_X2_bearsImage : GoodIn wsX3_imageOf (wsV RX3 172 RX2 yX2_bearsImage wsX2_bearsImage) := goodIn_app (goodIn_of _ (by decide +kernel)) ggX3_imageOf_X2_bearsImage
theorem dX3_imageOf_0 : decode cX3_imageOf 0 = .ok (.aload_n 0, 1) := by decide +kernel
theorem dX3_imageOf_1 : decode cX3_imageOf 1 = .ok (.iload_n 1, 1) := by decide +kernel
theorem dX3_imageOf_2 : decode cX3_imageOf 2 = .ok (.invokevirtual 99, 3) := by decide +kernel
theorem dX3_imageOf_5 : decode cX3_imageOf 5 = .ok (.astore_n 2, 1) := by decide +kernel
theorem dX3_imageOf_6 : decode cX3_imageOf 6 = .ok (.aload_n 2, 1) := by decide +kernel
theorem dX3_imageOf_7 : decode cX3_imageOf 7 = .ok (.invokevirtual 172, 3) := by decide +kernel
theorem dX3_imageOf_10 : decode cX3_imageOf 10 = .ok (.ifCond .eq 10, 3) := by decide +kernel
theorem dX3_imageOf_13 : decode cX3_imageOf 13 = .ok (.aload_n 2, 1) := by decide +kernel
theorem dX3_imageOf_14 : decode cX3_imageOf 14 = .ok (.getfield 176, 3) := by decide +kernel
theorem dX3_imageOf_17 : decode cX3_imageOf 17 = .ok (.goto 4, 3) := by decide +kernel
theorem dX3_imageOf_20 : decode cX3_imageOf 20 = .ok (.iconst (-1), 1) := by decide +kernel
theorem dX3_imageOf_21 : decode cX3_imageOf 21 = .ok (.ireturn, 1) := by decide +kernel
set_option maxRecDepth 20000 in
theorem ggX3_endOf_X3_machineRow : GoodIn wsX3_endOf wsX3_machineRow := goodIn_ca (goodIn_r _ [6, 7, 8, 9, 26, 27, 28, 29, 30, 31, 32, 33, 34] (by decide +kernel) (by decide +kernel)) (goodIn_sub (fun _ h => List.mem_cons_of_mem _ (List.mem_append_right _ h)) (by decide +kernel))
set_option maxRecDepth 20000 in
theorem gX3_endOf_X3_machineRow : GoodIn wsX3_endOf (wsV RX3 99 RX3 yX3_machineRow wsX3_machineRow) := goodIn_app (goodIn_of _ (by decide +kernel)) ggX3_endOf_X3_machineRow
set_option maxRecDepth 20000 in
theorem ggX3_endOf_X2_endsByItself : GoodIn wsX3_endOf wsX2_endsByItself := goodIn_r _ [14, 15, 16, 17, 18, 19, 20, 21, 22, 23, 24, 25] (by decide +kernel) (by decide +kernel)
set_option maxRecDepth 20000 in
theorem gX3_endOf_X2_endsByItself : GoodIn wsX3_endOf (wsV RX3 179 RX2 yX2_endsByItself wsX2_endsByItself) := goodIn_app (goodIn_of _ (by decide +kernel)) ggX3_endOf_X2_endsByItself
theorem dX3_endOf_0 : decode cX3_endOf 0 = .ok (.aload_n 0, 1) := by decide +kernel
theorem dX3_endOf_1 : decode cX3_endOf 1 = .ok (.iload_n 1, 1) := by decide +kernel
theorem dX3_endOf_2 : decode cX3_endOf 2 = .ok (.invokevirtual 99, 3) := by decide +kernel
theorem dX3_endOf_5 : decode cX3_endOf 5 = .ok (.astore_n 2, 1) := by decide +kernel
theorem dX3_endOf_6 : decode cX3_endOf 6 = .ok (.aload_n 2, 1) := by decide +kernel
theorem dX3_endOf_7 : decode cX3_endOf 7 = .ok (.invokevirtual 179, 3) := by decide +kernel
theorem dX3_endOf_10 : decode cX3_endOf 10 = .ok (.ifCond .eq 10, 3) := by decide +kernel
theorem dX3_endOf_13 : decode cX3_endOf 13 = .ok (.aload_n 2, 1) := by decide +kernel
theorem dX3_endOf_14 : decode cX3_endOf 14 = .ok (.getfield 152, 3) := by decide +kernel
theorem dX3_endOf_17 : decode cX3_endOf 17 = .ok (.goto 4, 3) := by decide +kernel
theorem dX3_endOf_20 : decode cX3_endOf 20 = .ok (.iconst (-1), 1) := by decide +kernel
theorem dX3_endOf_21 : decode cX3_endOf 21 = .ok (.ireturn, 1) := by decide +kernel
set_option maxRecDepth 20000 in
theorem ggX3_failuresOf_X3_machineRow : GoodIn wsX3_failuresOf wsX3_machineRow := goodIn_ca (goodIn_r _ [6, 7, 8, 9, 20, 21, 22, 23, 24, 25, 26, 27, 28] (by decide +kernel) (by decide +kernel)) (goodIn_sub (fun _ h => List.mem_cons_of_mem _ (List.mem_append_right _ h)) (by decide +kernel))
set_option maxRecDepth 20000 in
theorem gX3_failuresOf_X3_machineRow : GoodIn wsX3_failuresOf (wsV RX3 99 RX3 yX3_machineRow wsX3_machineRow) := goodIn_app (goodIn_of _ (by decide +kernel)) ggX3_failuresOf_X3_machineRow
theorem dX3_failuresOf_0 : decode cX3_failuresOf 0 = .ok (.aload_n 0, 1) := by decide +kernel
theorem dX3_failuresOf_1 : decode cX3_failuresOf 1 = .ok (.iload_n 1, 1) := by decide +kernel
theorem dX3_failuresOf_2 : decode cX3_failuresOf 2 = .ok (.invokevirtual 99, 3) := by decide +kernel
theorem dX3_failuresOf_5 : decode cX3_failuresOf 5 = .ok (.getfield 141, 3) := by decide +kernel
theorem dX3_failuresOf_8 : decode cX3_failuresOf 8 = .ok (.ireturn, 1) := by decide +kernel
set_option maxRecDepth 20000 in
theorem ggX3_installing_X3_isNoRack : GoodIn wsX3_installing wsX3_isNoRack := goodIn_r _ [7, 8, 16, 17, 18, 19, 20, 21, 22, 23, 24] (by decide +kernel) (by decide +kernel)
set_option maxRecDepth 20000 in
theorem gX3_installing_X3_isNoRack : GoodIn wsX3_installing (wsV RX3 88 RX3 yX3_isNoRack wsX3_isNoRack) := goodIn_app (goodIn_of _ (by decide +kernel)) ggX3_installing_X3_isNoRack
set_option maxRecDepth 20000 in
theorem ggX3_installing_X3_countInstalling : GoodIn wsX3_installing wsX3_countInstalling := goodIn_r _ [12, 13, 14, 15, 16, 17, 18, 19, 20, 21, 22, 23, 24, 25, 26, 27, 28, 29, 30, 31, 32, 33, 34] (by decide +kernel) (by decide +kernel)
set_option maxRecDepth 20000 in
theorem gX3_installing_X3_countInstalling : GoodIn wsX3_installing (wsV RX3 182 RX3 yX3_countInstalling wsX3_countInstalling) := goodIn_app (goodIn_of _ (by decide +kernel)) ggX3_installing_X3_countInstalling
theorem dX3_installing_0 : decode cX3_installing 0 = .ok (.aload_n 0, 1) := by decide +kernel
theorem dX3_installing_1 : decode cX3_installing 1 = .ok (.iload_n 1, 1) := by decide +kernel
theorem dX3_installing_2 : decode cX3_installing 2 = .ok (.invokevirtual 88, 3) := by decide +kernel
theorem dX3_installing_5 : decode cX3_installing 5 = .ok (.ifCond .eq 13, 3) := by decide +kernel
theorem dX3_installing_8 : decode cX3_installing 8 = .ok (.new 92, 3) := by decide +kernel
theorem dX3_installing_11 : decode cX3_installing 11 = .ok (.dup, 1) := by decide +kernel
theorem dX3_installing_12 : decode cX3_installing 12 = .ok (.ldc 94, 2) := by decide +kernel
theorem dX3_installing_14 : decode cX3_installing 14 = .ok (.invokespecial 96, 3) := by decide +kernel
theorem dX3_installing_17 : decode cX3_installing 17 = .ok (.athrow, 1) := by decide +kernel
theorem dX3_installing_18 : decode cX3_installing 18 = .ok (.aload_n 0, 1) := by decide +kernel
theorem dX3_installing_19 : decode cX3_installing 19 = .ok (.iload_n 1, 1) := by decide +kernel
theorem dX3_installing_20 : decode cX3_installing 20 = .ok (.invokevirtual 182, 3) := by decide +kernel
theorem dX3_installing_23 : decode cX3_installing 23 = .ok (.ireturn, 1) := by decide +kernel
set_option maxRecDepth 20000 in
theorem ggX3_queueAt_X3_isNoRack : GoodIn wsX3_queueAt wsX3_isNoRack := goodIn_r _ [8, 9, 38, 39, 40, 41, 42, 43, 44, 45, 46] (by decide +kernel) (by decide +kernel)
set_option maxRecDepth 20000 in
theorem gX3_queueAt_X3_isNoRack : GoodIn wsX3_queueAt (wsV RX3 88 RX3 yX3_isNoRack wsX3_isNoRack) := goodIn_app (goodIn_of _ (by decide +kernel)) ggX3_queueAt_X3_isNoRack
set_option maxRecDepth 20000 in
theorem ggX3_queueAt_X3_queuedAt : GoodIn wsX3_queueAt wsX3_queuedAt := goodIn_r _ [13, 14, 15, 16, 17, 18, 19, 20, 21, 22, 23, 24, 7, 25, 26, 27, 38, 39, 40, 41, 42, 43, 44, 45, 46, 28, 29, 30, 31, 32, 33, 34, 35, 36, 37] (by decide +kernel) (by decide +kernel)
set_option maxRecDepth 20000 in
theorem gX3_queueAt_X3_queuedAt : GoodIn wsX3_queueAt (wsV RX3 187 RX3 yX3_queuedAt wsX3_queuedAt) := goodIn_app (goodIn_of _ (by decide +kernel)) ggX3_queueAt_X3_queuedAt
theorem dX3_queueAt_0 : decode cX3_queueAt 0 = .ok (.aload_n 0, 1) := by decide +kernel
theorem dX3_queueAt_1 : decode cX3_queueAt 1 = .ok (.iload_n 1, 1) := by decide +kernel
theorem dX3_queueAt_2 : decode cX3_queueAt 2 = .ok (.invokevirtual 88, 3) := by decide +kernel
theorem dX3_queueAt_5 : decode cX3_queueAt 5 = .ok (.ifCond .ne 7, 3) := by decide +kernel
theorem dX3_queueAt_8 : decode cX3_queueAt 8 = .ok (.iload_n 2, 1) := by decide +kernel
theorem dX3_queueAt_9 : decode cX3_queueAt 9 = .ok (.ifCond .ge 13, 3) := by decide +kernel
theorem dX3_queueAt_12 : decode cX3_queueAt 12 = .ok (.new 92, 3) := by decide +kernel
theorem dX3_queueAt_15 : decode cX3_queueAt 15 = .ok (.dup, 1) := by decide +kernel
theorem dX3_queueAt_16 : decode cX3_queueAt 16 = .ok (.ldc 185, 2) := by decide +kernel
theorem dX3_queueAt_18 : decode cX3_queueAt 18 = .ok (.invokespecial 96, 3) := by decide +kernel
theorem dX3_queueAt_21 : decode cX3_queueAt 21 = .ok (.athrow, 1) := by decide +kernel
theorem dX3_queueAt_22 : decode cX3_queueAt 22 = .ok (.aload_n 0, 1) := by decide +kernel
theorem dX3_queueAt_23 : decode cX3_queueAt 23 = .ok (.iload_n 1, 1) := by decide +kernel
theorem dX3_queueAt_24 : decode cX3_queueAt 24 = .ok (.iload_n 2, 1) := by decide +kernel
theorem dX3_queueAt_25 : decode cX3_queueAt 25 = .ok (.invokevirtual 187, 3) := by decide +kernel
theorem dX3_queueAt_28 : decode cX3_queueAt 28 = .ok (.astore_n 3, 1) := by decide +kernel
theorem dX3_queueAt_29 : decode cX3_queueAt 29 = .ok (.aload_n 3, 1) := by decide +kernel
theorem dX3_queueAt_30 : decode cX3_queueAt 30 = .ok (.ifnonnull 7, 3) := by decide +kernel
theorem dX3_queueAt_33 : decode cX3_queueAt 33 = .ok (.iconst (-1), 1) := by decide +kernel
theorem dX3_queueAt_34 : decode cX3_queueAt 34 = .ok (.goto 7, 3) := by decide +kernel
theorem dX3_queueAt_37 : decode cX3_queueAt 37 = .ok (.aload_n 3, 1) := by decide +kernel
theorem dX3_queueAt_38 : decode cX3_queueAt 38 = .ok (.getfield 191, 3) := by decide +kernel
theorem dX3_queueAt_41 : decode cX3_queueAt 41 = .ok (.ireturn, 1) := by decide +kernel
set_option maxRecDepth 20000 in
theorem ggX3_nextChange_X2_endsByItself : GoodIn wsX3_nextChange wsX2_endsByItself := goodIn_r _ [8, 9, 19, 20, 21, 22, 23, 24, 25, 26, 27, 28] (by decide +kernel) (by decide +kernel)
set_option maxRecDepth 20000 in
theorem gX3_nextChange_X2_endsByItself : GoodIn wsX3_nextChange (wsV RX3 179 RX2 yX2_endsByItself wsX2_endsByItself) := goodIn_app (goodIn_of _ (by decide +kernel)) ggX3_nextChange_X2_endsByItself
theorem dX3_nextChange_0 : decode cX3_nextChange 0 = .ok (.iconst (-1), 1) := by decide +kernel
theorem dX3_nextChange_1 : decode cX3_nextChange 1 = .ok (.istore_n 1, 1) := by decide +kernel
theorem dX3_nextChange_2 : decode cX3_nextChange 2 = .ok (.iconst 0, 1) := by decide +kernel
theorem dX3_nextChange_3 : decode cX3_nextChange 3 = .ok (.istore_n 2, 1) := by decide +kernel
theorem dX3_nextChange_4 : decode cX3_nextChange 4 = .ok (.iload_n 2, 1) := by decide +kernel
theorem dX3_nextChange_5 : decode cX3_nextChange 5 = .ok (.aload_n 0, 1) := by decide +kernel
theorem dX3_nextChange_6 : decode cX3_nextChange 6 = .ok (.getfield 11, 3) := by decide +kernel
theorem dX3_nextChange_9 : decode cX3_nextChange 9 = .ok (.arraylength, 1) := by decide +kernel
theorem dX3_nextChange_10 : decode cX3_nextChange 10 = .ok (.if_icmp .ge 41, 3) := by decide +kernel
theorem dX3_nextChange_13 : decode cX3_nextChange 13 = .ok (.aload_n 0, 1) := by decide +kernel
theorem dX3_nextChange_14 : decode cX3_nextChange 14 = .ok (.getfield 11, 3) := by decide +kernel
theorem dX3_nextChange_17 : decode cX3_nextChange 17 = .ok (.iload_n 2, 1) := by decide +kernel
theorem dX3_nextChange_18 : decode cX3_nextChange 18 = .ok (.aaload, 1) := by decide +kernel
theorem dX3_nextChange_19 : decode cX3_nextChange 19 = .ok (.astore_n 3, 1) := by decide +kernel
theorem dX3_nextChange_20 : decode cX3_nextChange 20 = .ok (.aload_n 3, 1) := by decide +kernel
theorem dX3_nextChange_21 : decode cX3_nextChange 21 = .ok (.invokevirtual 179, 3) := by decide +kernel
theorem dX3_nextChange_24 : decode cX3_nextChange 24 = .ok (.ifCond .eq 21, 3) := by decide +kernel
theorem dX3_nextChange_27 : decode cX3_nextChange 27 = .ok (.iload_n 1, 1) := by decide +kernel
theorem dX3_nextChange_28 : decode cX3_nextChange 28 = .ok (.iconst (-1), 1) := by decide +kernel
theorem dX3_nextChange_29 : decode cX3_nextChange 29 = .ok (.if_icmp .eq 11, 3) := by decide +kernel
theorem dX3_nextChange_32 : decode cX3_nextChange 32 = .ok (.aload_n 3, 1) := by decide +kernel
theorem dX3_nextChange_33 : decode cX3_nextChange 33 = .ok (.getfield 152, 3) := by decide +kernel
theorem dX3_nextChange_36 : decode cX3_nextChange 36 = .ok (.iload_n 1, 1) := by decide +kernel
theorem dX3_nextChange_37 : decode cX3_nextChange 37 = .ok (.if_icmp .ge 8, 3) := by decide +kernel
theorem dX3_nextChange_40 : decode cX3_nextChange 40 = .ok (.aload_n 3, 1) := by decide +kernel
theorem dX3_nextChange_41 : decode cX3_nextChange 41 = .ok (.getfield 152, 3) := by decide +kernel
theorem dX3_nextChange_44 : decode cX3_nextChange 44 = .ok (.istore_n 1, 1) := by decide +kernel
theorem dX3_nextChange_45 : decode cX3_nextChange 45 = .ok (.iinc 2 1, 3) := by decide +kernel
theorem dX3_nextChange_48 : decode cX3_nextChange 48 = .ok (.goto (-44), 3) := by decide +kernel
theorem dX3_nextChange_51 : decode cX3_nextChange 51 = .ok (.iload_n 1, 1) := by decide +kernel
theorem dX3_nextChange_52 : decode cX3_nextChange 52 = .ok (.iconst (-1), 1) := by decide +kernel
theorem dX3_nextChange_53 : decode cX3_nextChange 53 = .ok (.if_icmp .ne 7, 3) := by decide +kernel
theorem dX3_nextChange_56 : decode cX3_nextChange 56 = .ok (.iconst (-1), 1) := by decide +kernel
theorem dX3_nextChange_57 : decode cX3_nextChange 57 = .ok (.goto 9, 3) := by decide +kernel
theorem dX3_nextChange_60 : decode cX3_nextChange 60 = .ok (.iload_n 1, 1) := by decide +kernel
theorem dX3_nextChange_61 : decode cX3_nextChange 61 = .ok (.aload_n 0, 1) := by decide +kernel
theorem dX3_nextChange_62 : decode cX3_nextChange 62 = .ok (.getfield 39, 3) := by decide +kernel
theorem dX3_nextChange_65 : decode cX3_nextChange 65 = .ok (.isub, 1) := by decide +kernel
theorem dX3_nextChange_66 : decode cX3_nextChange 66 = .ok (.ireturn, 1) := by decide +kernel
theorem dX3_wipes_0 : decode cX3_wipes 0 = .ok (.aload_n 0, 1) := by decide +kernel
theorem dX3_wipes_1 : decode cX3_wipes 1 = .ok (.getfield 42, 3) := by decide +kernel
theorem dX3_wipes_4 : decode cX3_wipes 4 = .ok (.ireturn, 1) := by decide +kernel
set_option maxRecDepth 20000 in
theorem ggX3_entries_X1_kept : GoodIn wsX3_entries wsX1_kept := goodIn_r _ [6, 7, 8, 9, 10, 11, 12, 22, 23, 24] (by decide +kernel) (by decide +kernel)
set_option maxRecDepth 20000 in
theorem gX3_entries_X1_kept : GoodIn wsX3_entries (wsV RX3 192 RX1 yX1_kept wsX1_kept) := goodIn_app (goodIn_of _ (by decide +kernel)) ggX3_entries_X1_kept
theorem dX3_entries_0 : decode cX3_entries 0 = .ok (.aload_n 0, 1) := by decide +kernel
theorem dX3_entries_1 : decode cX3_entries 1 = .ok (.getfield 28, 3) := by decide +kernel
theorem dX3_entries_4 : decode cX3_entries 4 = .ok (.invokevirtual 192, 3) := by decide +kernel
theorem dX3_entries_7 : decode cX3_entries 7 = .ok (.ireturn, 1) := by decide +kernel
set_option maxRecDepth 20000 in
theorem ggX3_machineAt_X1_kept : GoodIn wsX3_machineAt wsX1_kept := goodIn_r _ [9, 10, 11, 12, 13, 14, 15, 25, 26, 27] (by decide +kernel) (by decide +kernel)
set_option maxRecDepth 20000 in
theorem gX3_machineAt_X1_kept : GoodIn wsX3_machineAt (wsV RX3 192 RX1 yX1_kept wsX1_kept) := goodIn_app (goodIn_of _ (by decide +kernel)) ggX3_machineAt_X1_kept
theorem dX3_machineAt_0 : decode cX3_machineAt 0 = .ok (.iload_n 1, 1) := by decide +kernel
theorem dX3_machineAt_1 : decode cX3_machineAt 1 = .ok (.ifCond .lt 14, 3) := by decide +kernel
theorem dX3_machineAt_4 : decode cX3_machineAt 4 = .ok (.iload_n 1, 1) := by decide +kernel
theorem dX3_machineAt_5 : decode cX3_machineAt 5 = .ok (.aload_n 0, 1) := by decide +kernel
theorem dX3_machineAt_6 : decode cX3_machineAt 6 = .ok (.getfield 28, 3) := by decide +kernel
theorem dX3_machineAt_9 : decode cX3_machineAt 9 = .ok (.invokevirtual 192, 3) := by decide +kernel
theorem dX3_machineAt_12 : decode cX3_machineAt 12 = .ok (.if_icmp .lt 13, 3) := by decide +kernel
theorem dX3_machineAt_15 : decode cX3_machineAt 15 = .ok (.new 92, 3) := by decide +kernel
theorem dX3_machineAt_18 : decode cX3_machineAt 18 = .ok (.dup, 1) := by decide +kernel
theorem dX3_machineAt_19 : decode cX3_machineAt 19 = .ok (.ldc 196, 2) := by decide +kernel
theorem dX3_machineAt_21 : decode cX3_machineAt 21 = .ok (.invokespecial 96, 3) := by decide +kernel
theorem dX3_machineAt_24 : decode cX3_machineAt 24 = .ok (.athrow, 1) := by decide +kernel
theorem dX3_machineAt_25 : decode cX3_machineAt 25 = .ok (.aload_n 0, 1) := by decide +kernel
theorem dX3_machineAt_26 : decode cX3_machineAt 26 = .ok (.getfield 28, 3) := by decide +kernel
theorem dX3_machineAt_29 : decode cX3_machineAt 29 = .ok (.getfield 198, 3) := by decide +kernel
theorem dX3_machineAt_32 : decode cX3_machineAt 32 = .ok (.iload_n 1, 1) := by decide +kernel
theorem dX3_machineAt_33 : decode cX3_machineAt 33 = .ok (.iaload, 1) := by decide +kernel
theorem dX3_machineAt_34 : decode cX3_machineAt 34 = .ok (.ireturn, 1) := by decide +kernel
set_option maxRecDepth 20000 in
theorem ggX3_stateBefore_X3_machineRow : GoodIn wsX3_stateBefore wsX3_machineRow := goodIn_ca (goodIn_r _ [10, 11, 12, 13, 30, 31, 32, 33, 34, 35, 36, 37, 38] (by decide +kernel) (by decide +kernel)) (goodIn_sub (fun _ h => List.mem_cons_of_mem _ (List.mem_append_left _ (List.mem_append_right _ h))) (by decide +kernel))
set_option maxRecDepth 20000 in
theorem gX3_stateBefore_X3_machineRow : GoodIn wsX3_stateBefore (wsV RX3 99 RX3 yX3_machineRow wsX3_machineRow) := goodIn_app (goodIn_of _ (by decide +kernel)) ggX3_stateBefore_X3_machineRow
set_option maxRecDepth 20000 in
theorem ggX3_stateBefore_X1_kept : GoodIn wsX3_stateBefore wsX1_kept := goodIn_r _ [18, 19, 20, 21, 22, 23, 24, 49, 50, 51] (by decide +kernel) (by decide +kernel)
set_option maxRecDepth 20000 in
theorem gX3_stateBefore_X1_kept : GoodIn wsX3_stateBefore (wsV RX3 192 RX1 yX1_kept wsX1_kept) := goodIn_app (goodIn_of _ (by decide +kernel)) ggX3_stateBefore_X1_kept
set_option maxRecDepth 20000 in
theorem ggX3_stateBefore_X3_refuseOutside : GoodIn wsX3_stateBefore wsX3_refuseOutside := goodIn_ca (goodIn_r _ [27, 28, 29] (by decide +kernel) (by decide +kernel)) (goodIn_sub (fun _ h => List.mem_cons_of_mem _ (List.mem_append_right _ h)) (by decide +kernel))
set_option maxRecDepth 20000 in
theorem gX3_stateBefore_X3_refuseOutside : GoodIn wsX3_stateBefore (va_wsS RX3 56 yX3_refuseOutside wsX3_refuseOutside) := goodIn_app (goodIn_of _ (by decide +kernel)) ggX3_stateBefore_X3_refuseOutside
theorem dX3_stateBefore_0 : decode cX3_stateBefore 0 = .ok (.aload_n 0, 1) := by decide +kernel
theorem dX3_stateBefore_1 : decode cX3_stateBefore 1 = .ok (.iload_n 1, 1) := by decide +kernel
theorem dX3_stateBefore_2 : decode cX3_stateBefore 2 = .ok (.invokevirtual 99, 3) := by decide +kernel
theorem dX3_stateBefore_5 : decode cX3_stateBefore 5 = .ok (.astore_n 3, 1) := by decide +kernel
theorem dX3_stateBefore_6 : decode cX3_stateBefore 6 = .ok (.aload_n 0, 1) := by decide +kernel
theorem dX3_stateBefore_7 : decode cX3_stateBefore 7 = .ok (.getfield 28, 3) := by decide +kernel
theorem dX3_stateBefore_10 : decode cX3_stateBefore 10 = .ok (.invokevirtual 192, 3) := by decide +kernel
theorem dX3_stateBefore_13 : decode cX3_stateBefore 13 = .ok (.istore 4, 2) := by decide +kernel
theorem dX3_stateBefore_15 : decode cX3_stateBefore 15 = .ok (.iload_n 2, 1) := by decide +kernel
theorem dX3_stateBefore_16 : decode cX3_stateBefore 16 = .ok (.iconst 0, 1) := by decide +kernel
theorem dX3_stateBefore_17 : decode cX3_stateBefore 17 = .ok (.iload 4, 2) := by decide +kernel
theorem dX3_stateBefore_19 : decode cX3_stateBefore 19 = .ok (.invokestatic 56, 3) := by decide +kernel
theorem dX3_stateBefore_22 : decode cX3_stateBefore 22 = .ok (.aload_n 3, 1) := by decide +kernel
theorem dX3_stateBefore_23 : decode cX3_stateBefore 23 = .ok (.getfield 117, 3) := by decide +kernel
theorem dX3_stateBefore_26 : decode cX3_stateBefore 26 = .ok (.istore 5, 2) := by decide +kernel
theorem dX3_stateBefore_28 : decode cX3_stateBefore 28 = .ok (.iconst 0, 1) := by decide +kernel
theorem dX3_stateBefore_29 : decode cX3_stateBefore 29 = .ok (.istore 6, 2) := by decide +kernel
theorem dX3_stateBefore_31 : decode cX3_stateBefore 31 = .ok (.iload 6, 2) := by decide +kernel
theorem dX3_stateBefore_33 : decode cX3_stateBefore 33 = .ok (.iload_n 2, 1) := by decide +kernel
theorem dX3_stateBefore_34 : decode cX3_stateBefore 34 = .ok (.if_icmp .ge 38, 3) := by decide +kernel
theorem dX3_stateBefore_37 : decode cX3_stateBefore 37 = .ok (.aload_n 0, 1) := by decide +kernel
theorem dX3_stateBefore_38 : decode cX3_stateBefore 38 = .ok (.getfield 28, 3) := by decide +kernel
theorem dX3_stateBefore_41 : decode cX3_stateBefore 41 = .ok (.getfield 198, 3) := by decide +kernel
theorem dX3_stateBefore_44 : decode cX3_stateBefore 44 = .ok (.iload 6, 2) := by decide +kernel
theorem dX3_stateBefore_46 : decode cX3_stateBefore 46 = .ok (.iaload, 1) := by decide +kernel
theorem dX3_stateBefore_47 : decode cX3_stateBefore 47 = .ok (.aload_n 3, 1) := by decide +kernel
theorem dX3_stateBefore_48 : decode cX3_stateBefore 48 = .ok (.getfield 191, 3) := by decide +kernel
theorem dX3_stateBefore_51 : decode cX3_stateBefore 51 = .ok (.if_icmp .ne 15, 3) := by decide +kernel
theorem dX3_stateBefore_54 : decode cX3_stateBefore 54 = .ok (.aload_n 0, 1) := by decide +kernel
theorem dX3_stateBefore_55 : decode cX3_stateBefore 55 = .ok (.getfield 28, 3) := by decide +kernel
theorem dX3_stateBefore_58 : decode cX3_stateBefore 58 = .ok (.getfield 201, 3) := by decide +kernel
theorem dX3_stateBefore_61 : decode cX3_stateBefore 61 = .ok (.iload 6, 2) := by decide +kernel
theorem dX3_stateBefore_63 : decode cX3_stateBefore 63 = .ok (.iaload, 1) := by decide +kernel
theorem dX3_stateBefore_64 : decode cX3_stateBefore 64 = .ok (.istore 5, 2) := by decide +kernel
theorem dX3_stateBefore_66 : decode cX3_stateBefore 66 = .ok (.iinc 6 1, 3) := by decide +kernel
theorem dX3_stateBefore_69 : decode cX3_stateBefore 69 = .ok (.goto (-38), 3) := by decide +kernel
theorem dX3_stateBefore_72 : decode cX3_stateBefore 72 = .ok (.iload 5, 2) := by decide +kernel
theorem dX3_stateBefore_74 : decode cX3_stateBefore 74 = .ok (.ireturn, 1) := by decide +kernel
theorem dX3_machineRow_0 : decode cX3_machineRow 0 = .ok (.iload_n 1, 1) := by decide +kernel
theorem dX3_machineRow_1 : decode cX3_machineRow 1 = .ok (.ifCond .lt 12, 3) := by decide +kernel
theorem dX3_machineRow_4 : decode cX3_machineRow 4 = .ok (.iload_n 1, 1) := by decide +kernel
theorem dX3_machineRow_5 : decode cX3_machineRow 5 = .ok (.aload_n 0, 1) := by decide +kernel
theorem dX3_machineRow_6 : decode cX3_machineRow 6 = .ok (.getfield 11, 3) := by decide +kernel
theorem dX3_machineRow_9 : decode cX3_machineRow 9 = .ok (.arraylength, 1) := by decide +kernel
theorem dX3_machineRow_10 : decode cX3_machineRow 10 = .ok (.if_icmp .lt 13, 3) := by decide +kernel
theorem dX3_machineRow_13 : decode cX3_machineRow 13 = .ok (.new 92, 3) := by decide +kernel
theorem dX3_machineRow_16 : decode cX3_machineRow 16 = .ok (.dup, 1) := by decide +kernel
theorem dX3_machineRow_17 : decode cX3_machineRow 17 = .ok (.ldc 204, 2) := by decide +kernel
theorem dX3_machineRow_19 : decode cX3_machineRow 19 = .ok (.invokespecial 96, 3) := by decide +kernel
theorem dX3_machineRow_22 : decode cX3_machineRow 22 = .ok (.athrow, 1) := by decide +kernel
theorem dX3_machineRow_23 : decode cX3_machineRow 23 = .ok (.aload_n 0, 1) := by decide +kernel
theorem dX3_machineRow_24 : decode cX3_machineRow 24 = .ok (.getfield 11, 3) := by decide +kernel
theorem dX3_machineRow_27 : decode cX3_machineRow 27 = .ok (.iload_n 1, 1) := by decide +kernel
theorem dX3_machineRow_28 : decode cX3_machineRow 28 = .ok (.aaload, 1) := by decide +kernel
theorem dX3_machineRow_29 : decode cX3_machineRow 29 = .ok (.areturn, 1) := by decide +kernel
theorem dX3_imageRow_0 : decode cX3_imageRow 0 = .ok (.iload_n 1, 1) := by decide +kernel
theorem dX3_imageRow_1 : decode cX3_imageRow 1 = .ok (.ifCond .lt 12, 3) := by decide +kernel
theorem dX3_imageRow_4 : decode cX3_imageRow 4 = .ok (.iload_n 1, 1) := by decide +kernel
theorem dX3_imageRow_5 : decode cX3_imageRow 5 = .ok (.aload_n 0, 1) := by decide +kernel
theorem dX3_imageRow_6 : decode cX3_imageRow 6 = .ok (.getfield 17, 3) := by decide +kernel
theorem dX3_imageRow_9 : decode cX3_imageRow 9 = .ok (.arraylength, 1) := by decide +kernel
theorem dX3_imageRow_10 : decode cX3_imageRow 10 = .ok (.if_icmp .lt 13, 3) := by decide +kernel
theorem dX3_imageRow_13 : decode cX3_imageRow 13 = .ok (.new 92, 3) := by decide +kernel
theorem dX3_imageRow_16 : decode cX3_imageRow 16 = .ok (.dup, 1) := by decide +kernel
theorem dX3_imageRow_17 : decode cX3_imageRow 17 = .ok (.ldc 206, 2) := by decide +kernel
theorem dX3_imageRow_19 : decode cX3_imageRow 19 = .ok (.invokespecial 96, 3) := by decide +kernel
theorem dX3_imageRow_22 : decode cX3_imageRow 22 = .ok (.athrow, 1) := by decide +kernel
theorem dX3_imageRow_23 : decode cX3_imageRow 23 = .ok (.aload_n 0, 1) := by decide +kernel
theorem dX3_imageRow_24 : decode cX3_imageRow 24 = .ok (.getfield 17, 3) := by decide +kernel
theorem dX3_imageRow_27 : decode cX3_imageRow 27 = .ok (.iload_n 1, 1) := by decide +kernel
theorem dX3_imageRow_28 : decode cX3_imageRow 28 = .ok (.aaload, 1) := by decide +kernel
theorem dX3_imageRow_29 : decode cX3_imageRow 29 = .ok (.areturn, 1) := by decide +kernel
set_option maxRecDepth 20000 in
theorem ggX3_setImageRow_X3_imageRow : GoodIn wsX3_setImageRow wsX3_imageRow := goodIn_ca (goodIn_r _ [8, 1, 2, 9, 18, 19, 20, 21, 22, 23, 24, 25, 26] (by decide +kernel) (by decide +kernel)) (goodIn_sub (fun _ h => List.mem_cons_of_mem _ (List.mem_append_right _ h)) (by decide +kernel))
set_option maxRecDepth 20000 in
theorem gX3_setImageRow_X3_imageRow : GoodIn wsX3_setImageRow (wsV RX3 52 RX3 yX3_imageRow wsX3_imageRow) := goodIn_app (goodIn_of _ (by decide +kernel)) ggX3_setImageRow_X3_imageRow
theorem dX3_setImageRow_0 : decode cX3_setImageRow 0 = .ok (.aload_n 0, 1) := by decide +kernel
theorem dX3_setImageRow_1 : decode cX3_setImageRow 1 = .ok (.iload_n 1, 1) := by decide +kernel
theorem dX3_setImageRow_2 : decode cX3_setImageRow 2 = .ok (.invokevirtual 52, 3) := by decide +kernel
theorem dX3_setImageRow_5 : decode cX3_setImageRow 5 = .ok (.astore_n 2, 1) := by decide +kernel
theorem dX3_setImageRow_6 : decode cX3_setImageRow 6 = .ok (.aload_n 2, 1) := by decide +kernel
theorem dX3_setImageRow_7 : decode cX3_setImageRow 7 = .ok (.getfield 60, 3) := by decide +kernel
theorem dX3_setImageRow_10 : decode cX3_setImageRow 10 = .ok (.ifCond .ne 13, 3) := by decide +kernel
theorem dX3_setImageRow_13 : decode cX3_setImageRow 13 = .ok (.new 92, 3) := by decide +kernel
theorem dX3_setImageRow_16 : decode cX3_setImageRow 16 = .ok (.dup, 1) := by decide +kernel
theorem dX3_setImageRow_17 : decode cX3_setImageRow 17 = .ok (.ldc 208, 2) := by decide +kernel
theorem dX3_setImageRow_19 : decode cX3_setImageRow 19 = .ok (.invokespecial 96, 3) := by decide +kernel
theorem dX3_setImageRow_22 : decode cX3_setImageRow 22 = .ok (.athrow, 1) := by decide +kernel
theorem dX3_setImageRow_23 : decode cX3_setImageRow 23 = .ok (.aload_n 2, 1) := by decide +kernel
theorem dX3_setImageRow_24 : decode cX3_setImageRow 24 = .ok (.areturn, 1) := by decide +kernel
theorem dX3_isNoRack_0 : decode cX3_isNoRack 0 = .ok (.iload_n 1, 1) := by decide +kernel
theorem dX3_isNoRack_1 : decode cX3_isNoRack 1 = .ok (.ifCond .lt 12, 3) := by decide +kernel
theorem dX3_isNoRack_4 : decode cX3_isNoRack 4 = .ok (.iload_n 1, 1) := by decide +kernel
theorem dX3_isNoRack_5 : decode cX3_isNoRack 5 = .ok (.aload_n 0, 1) := by decide +kernel
theorem dX3_isNoRack_6 : decode cX3_isNoRack 6 = .ok (.getfield 21, 3) := by decide +kernel
theorem dX3_isNoRack_9 : decode cX3_isNoRack 9 = .ok (.arraylength, 1) := by decide +kernel
theorem dX3_isNoRack_10 : decode cX3_isNoRack 10 = .ok (.if_icmp .lt 7, 3) := by decide +kernel
theorem dX3_isNoRack_13 : decode cX3_isNoRack 13 = .ok (.iconst 1, 1) := by decide +kernel
theorem dX3_isNoRack_14 : decode cX3_isNoRack 14 = .ok (.goto 4, 3) := by decide +kernel
theorem dX3_isNoRack_17 : decode cX3_isNoRack 17 = .ok (.iconst 0, 1) := by decide +kernel
theorem dX3_isNoRack_18 : decode cX3_isNoRack 18 = .ok (.ireturn, 1) := by decide +kernel
theorem dX3_refuseOutside_0 : decode cX3_refuseOutside 0 = .ok (.iload_n 0, 1) := by decide +kernel
theorem dX3_refuseOutside_1 : decode cX3_refuseOutside 1 = .ok (.iload_n 1, 1) := by decide +kernel
theorem dX3_refuseOutside_2 : decode cX3_refuseOutside 2 = .ok (.if_icmp .lt 8, 3) := by decide +kernel
theorem dX3_refuseOutside_5 : decode cX3_refuseOutside 5 = .ok (.iload_n 0, 1) := by decide +kernel
theorem dX3_refuseOutside_6 : decode cX3_refuseOutside 6 = .ok (.iload_n 2, 1) := by decide +kernel
theorem dX3_refuseOutside_7 : decode cX3_refuseOutside 7 = .ok (.if_icmp .le 13, 3) := by decide +kernel
theorem dX3_refuseOutside_10 : decode cX3_refuseOutside 10 = .ok (.new 210, 3) := by decide +kernel
theorem dX3_refuseOutside_13 : decode cX3_refuseOutside 13 = .ok (.dup, 1) := by decide +kernel
theorem dX3_refuseOutside_14 : decode cX3_refuseOutside 14 = .ok (.ldc 212, 2) := by decide +kernel
theorem dX3_refuseOutside_16 : decode cX3_refuseOutside 16 = .ok (.invokespecial 214, 3) := by decide +kernel
theorem dX3_refuseOutside_19 : decode cX3_refuseOutside 19 = .ok (.athrow, 1) := by decide +kernel
theorem dX3_refuseOutside_20 : decode cX3_refuseOutside 20 = .ok (.return_, 1) := by decide +kernel
set_option maxRecDepth 20000 in
theorem ggX3_change_X1_add : GoodIn wsX3_change wsX1_add := goodIn_r _ [8, 9, 10, 11, 31, 32, 33] (by decide +kernel) (by decide +kernel)
set_option maxRecDepth 20000 in
theorem gX3_change_X1_add : GoodIn wsX3_change (wsV RX3 215 RX1 yX1_add wsX1_add) := goodIn_app (goodIn_of _ (by decide +kernel)) ggX3_change_X1_add
theorem dX3_change_0 : decode cX3_change 0 = .ok (.aload_n 0, 1) := by decide +kernel
theorem dX3_change_1 : decode cX3_change 1 = .ok (.getfield 28, 3) := by decide +kernel
theorem dX3_change_4 : decode cX3_change 4 = .ok (.aload_n 1, 1) := by decide +kernel
theorem dX3_change_5 : decode cX3_change 5 = .ok (.getfield 191, 3) := by decide +kernel
theorem dX3_change_8 : decode cX3_change 8 = .ok (.aload_n 1, 1) := by decide +kernel
theorem dX3_change_9 : decode cX3_change 9 = .ok (.getfield 117, 3) := by decide +kernel
theorem dX3_change_12 : decode cX3_change 12 = .ok (.invokevirtual 215, 3) := by decide +kernel
theorem dX3_change_15 : decode cX3_change 15 = .ok (.aload_n 1, 1) := by decide +kernel
theorem dX3_change_16 : decode cX3_change 16 = .ok (.iload_n 2, 1) := by decide +kernel
theorem dX3_change_17 : decode cX3_change 17 = .ok (.putfield 117, 3) := by decide +kernel
theorem dX3_change_20 : decode cX3_change 20 = .ok (.return_, 1) := by decide +kernel
set_option maxRecDepth 20000 in
theorem ggX3_answerReport_X3_change : GoodIn wsX3_answerReport wsX3_change := goodIn_r _ [7, 8, 9, 1, 10, 11, 12, 13, 14, 15, 16, 17, 42, 43, 44, 45, 46, 47, 48, 49, 50, 32, 33, 34, 35, 36, 37, 38, 39, 40, 41, 51, 52, 53] (by decide +kernel) (by decide +kernel)
set_option maxRecDepth 20000 in
theorem gX3_answerReport_X3_change : GoodIn wsX3_answerReport (wsV RX3 135 RX3 yX3_change wsX3_change) := goodIn_app (goodIn_of _ (by decide +kernel)) ggX3_answerReport_X3_change
set_option maxRecDepth 20000 in
theorem ggX3_answerReport_X3_fail : GoodIn wsX3_answerReport wsX3_fail := goodIn_r _ [21, 22, 23, 24, 25, 26, 3, 4, 5, 6, 7, 8, 9, 1, 10, 11, 12, 13, 14, 15, 16, 17, 32, 33, 34, 35, 36, 37, 38, 39, 40, 41, 42, 43, 44, 45, 46, 47, 48, 49, 50, 51, 52, 53] (by decide +kernel) (by decide +kernel)
set_option maxRecDepth 20000 in
theorem gX3_answerReport_X3_fail : GoodIn wsX3_answerReport (wsV RX3 144 RX3 yX3_fail wsX3_fail) := goodIn_app (goodIn_of _ (by decide +kernel)) ggX3_answerReport_X3_fail
set_option maxRecDepth 20000 in
theorem ggX3_answerReport_X3_drawTicket : GoodIn wsX3_answerReport wsX3_drawTicket := goodIn_r _ [30, 31, 42, 43, 44, 45, 46, 47, 48, 49, 50] (by decide +kernel) (by decide +kernel)
set_option maxRecDepth 20000 in
theorem gX3_answerReport_X3_drawTicket : GoodIn wsX3_answerReport (wsV RX3 219 RX3 yX3_drawTicket wsX3_drawTicket) := goodIn_app (goodIn_of _ (by decide +kernel)) ggX3_answerReport_X3_drawTicket
theorem dX3_answerReport_0 : decode cX3_answerReport 0 = .ok (.aload_n 1, 1) := by decide +kernel
theorem dX3_answerReport_1 : decode cX3_answerReport 1 = .ok (.getfield 117, 3) := by decide +kernel
theorem dX3_answerReport_4 : decode cX3_answerReport 4 = .ok (.ifCond .ne 12, 3) := by decide +kernel
theorem dX3_answerReport_7 : decode cX3_answerReport 7 = .ok (.aload_n 0, 1) := by decide +kernel
theorem dX3_answerReport_8 : decode cX3_answerReport 8 = .ok (.aload_n 1, 1) := by decide +kernel
theorem dX3_answerReport_9 : decode cX3_answerReport 9 = .ok (.iconst 1, 1) := by decide +kernel
theorem dX3_answerReport_10 : decode cX3_answerReport 10 = .ok (.invokevirtual 135, 3) := by decide +kernel
theorem dX3_answerReport_13 : decode cX3_answerReport 13 = .ok (.goto 39, 3) := by decide +kernel
theorem dX3_answerReport_16 : decode cX3_answerReport 16 = .ok (.aload_n 1, 1) := by decide +kernel
theorem dX3_answerReport_17 : decode cX3_answerReport 17 = .ok (.getfield 117, 3) := by decide +kernel
theorem dX3_answerReport_20 : decode cX3_answerReport 20 = .ok (.iconst 3, 1) := by decide +kernel
theorem dX3_answerReport_21 : decode cX3_answerReport 21 = .ok (.if_icmp .ne 11, 3) := by decide +kernel
theorem dX3_answerReport_24 : decode cX3_answerReport 24 = .ok (.aload_n 0, 1) := by decide +kernel
theorem dX3_answerReport_25 : decode cX3_answerReport 25 = .ok (.aload_n 1, 1) := by decide +kernel
theorem dX3_answerReport_26 : decode cX3_answerReport 26 = .ok (.invokevirtual 144, 3) := by decide +kernel
theorem dX3_answerReport_29 : decode cX3_answerReport 29 = .ok (.goto 23, 3) := by decide +kernel
theorem dX3_answerReport_32 : decode cX3_answerReport 32 = .ok (.aload_n 1, 1) := by decide +kernel
theorem dX3_answerReport_33 : decode cX3_answerReport 33 = .ok (.getfield 117, 3) := by decide +kernel
theorem dX3_answerReport_36 : decode cX3_answerReport 36 = .ok (.iconst 2, 1) := by decide +kernel
theorem dX3_answerReport_37 : decode cX3_answerReport 37 = .ok (.if_icmp .ne 15, 3) := by decide +kernel
theorem dX3_answerReport_40 : decode cX3_answerReport 40 = .ok (.iload_n 2, 1) := by decide +kernel
theorem dX3_answerReport_41 : decode cX3_answerReport 41 = .ok (.ifCond .eq 11, 3) := by decide +kernel
theorem dX3_answerReport_44 : decode cX3_answerReport 44 = .ok (.aload_n 1, 1) := by decide +kernel
theorem dX3_answerReport_45 : decode cX3_answerReport 45 = .ok (.aload_n 0, 1) := by decide +kernel
theorem dX3_answerReport_46 : decode cX3_answerReport 46 = .ok (.invokevirtual 219, 3) := by decide +kernel
theorem dX3_answerReport_49 : decode cX3_answerReport 49 = .ok (.putfield 222, 3) := by decide +kernel
theorem dX3_answerReport_52 : decode cX3_answerReport 52 = .ok (.return_, 1) := by decide +kernel
set_option maxRecDepth 20000 in
theorem ggX3_enqueue_X3_drawTicket : GoodIn wsX3_enqueue wsX3_drawTicket := goodIn_r _ [6, 7, 33, 34, 35, 36, 37, 38, 39, 40, 41] (by decide +kernel) (by decide +kernel)
set_option maxRecDepth 20000 in
theorem gX3_enqueue_X3_drawTicket : GoodIn wsX3_enqueue (wsV RX3 219 RX3 yX3_drawTicket wsX3_drawTicket) := goodIn_app (goodIn_of _ (by decide +kernel)) ggX3_enqueue_X3_drawTicket
set_option maxRecDepth 20000 in
theorem ggX3_enqueue_X3_change : GoodIn wsX3_enqueue wsX3_change := goodIn_r _ [11, 12, 13, 14, 15, 16, 17, 18, 19, 20, 21, 22, 33, 34, 35, 36, 37, 38, 39, 40, 41, 23, 24, 25, 26, 27, 28, 29, 30, 31, 32, 42, 43, 44] (by decide +kernel) (by decide +kernel)
set_option maxRecDepth 20000 in
theorem gX3_enqueue_X3_change : GoodIn wsX3_enqueue (wsV RX3 135 RX3 yX3_change wsX3_change) := goodIn_app (goodIn_of _ (by decide +kernel)) ggX3_enqueue_X3_change
theorem dX3_enqueue_0 : decode cX3_enqueue 0 = .ok (.aload_n 1, 1) := by decide +kernel
theorem dX3_enqueue_1 : decode cX3_enqueue 1 = .ok (.aload_n 0, 1) := by decide +kernel
theorem dX3_enqueue_2 : decode cX3_enqueue 2 = .ok (.invokevirtual 219, 3) := by decide +kernel
theorem dX3_enqueue_5 : decode cX3_enqueue 5 = .ok (.putfield 222, 3) := by decide +kernel
theorem dX3_enqueue_8 : decode cX3_enqueue 8 = .ok (.aload_n 0, 1) := by decide +kernel
theorem dX3_enqueue_9 : decode cX3_enqueue 9 = .ok (.aload_n 1, 1) := by decide +kernel
theorem dX3_enqueue_10 : decode cX3_enqueue 10 = .ok (.iconst 2, 1) := by decide +kernel
theorem dX3_enqueue_11 : decode cX3_enqueue 11 = .ok (.invokevirtual 135, 3) := by decide +kernel
theorem dX3_enqueue_14 : decode cX3_enqueue 14 = .ok (.return_, 1) := by decide +kernel
set_option maxRecDepth 20000 in
theorem ggX3_fail_X3_change : GoodIn wsX3_fail wsX3_change := goodIn_r _ [10, 11, 12, 13, 14, 15, 16, 17, 18, 19, 20, 21, 32, 33, 34, 35, 36, 37, 38, 39, 40, 22, 23, 24, 25, 26, 27, 28, 29, 30, 31, 41, 42, 43] (by decide +kernel) (by decide +kernel)
set_option maxRecDepth 20000 in
theorem gX3_fail_X3_change : GoodIn wsX3_fail (wsV RX3 135 RX3 yX3_change wsX3_change) := goodIn_app (goodIn_of _ (by decide +kernel)) ggX3_fail_X3_change
theorem dX3_fail_0 : decode cX3_fail 0 = .ok (.aload_n 1, 1) := by decide +kernel
theorem dX3_fail_1 : decode cX3_fail 1 = .ok (.dup, 1) := by decide +kernel
theorem dX3_fail_2 : decode cX3_fail 2 = .ok (.getfield 141, 3) := by decide +kernel
theorem dX3_fail_5 : decode cX3_fail 5 = .ok (.iconst 1, 1) := by decide +kernel
theorem dX3_fail_6 : decode cX3_fail 6 = .ok (.iadd, 1) := by decide +kernel
theorem dX3_fail_7 : decode cX3_fail 7 = .ok (.putfield 141, 3) := by decide +kernel
theorem dX3_fail_10 : decode cX3_fail 10 = .ok (.aload_n 1, 1) := by decide +kernel
theorem dX3_fail_11 : decode cX3_fail 11 = .ok (.getfield 141, 3) := by decide +kernel
theorem dX3_fail_14 : decode cX3_fail 14 = .ok (.aload_n 0, 1) := by decide +kernel
theorem dX3_fail_15 : decode cX3_fail 15 = .ok (.getfield 36, 3) := by decide +kernel
theorem dX3_fail_18 : decode cX3_fail 18 = .ok (.if_icmp .lt 13, 3) := by decide +kernel
theorem dX3_fail_21 : decode cX3_fail 21 = .ok (.aload_n 0, 1) := by decide +kernel
theorem dX3_fail_22 : decode cX3_fail 22 = .ok (.aload_n 1, 1) := by decide +kernel
theorem dX3_fail_23 : decode cX3_fail 23 = .ok (.bipush 7, 2) := by decide +kernel
theorem dX3_fail_25 : decode cX3_fail 25 = .ok (.invokevirtual 135, 3) := by decide +kernel
theorem dX3_fail_28 : decode cX3_fail 28 = .ok (.goto 29, 3) := by decide +kernel
theorem dX3_fail_31 : decode cX3_fail 31 = .ok (.aload_n 1, 1) := by decide +kernel
theorem dX3_fail_32 : decode cX3_fail 32 = .ok (.aload_n 0, 1) := by decide +kernel
theorem dX3_fail_33 : decode cX3_fail 33 = .ok (.getfield 39, 3) := by decide +kernel
theorem dX3_fail_36 : decode cX3_fail 36 = .ok (.aload_n 0, 1) := by decide +kernel
theorem dX3_fail_37 : decode cX3_fail 37 = .ok (.getfield 32, 3) := by decide +kernel
theorem dX3_fail_40 : decode cX3_fail 40 = .ok (.aload_n 1, 1) := by decide +kernel
theorem dX3_fail_41 : decode cX3_fail 41 = .ok (.getfield 141, 3) := by decide +kernel
theorem dX3_fail_44 : decode cX3_fail 44 = .ok (.iconst 1, 1) := by decide +kernel
theorem dX3_fail_45 : decode cX3_fail 45 = .ok (.isub, 1) := by decide +kernel
theorem dX3_fail_46 : decode cX3_fail 46 = .ok (.ishl, 1) := by decide +kernel
theorem dX3_fail_47 : decode cX3_fail 47 = .ok (.iadd, 1) := by decide +kernel
theorem dX3_fail_48 : decode cX3_fail 48 = .ok (.putfield 152, 3) := by decide +kernel
theorem dX3_fail_51 : decode cX3_fail 51 = .ok (.aload_n 0, 1) := by decide +kernel
theorem dX3_fail_52 : decode cX3_fail 52 = .ok (.aload_n 1, 1) := by decide +kernel
theorem dX3_fail_53 : decode cX3_fail 53 = .ok (.iconst 4, 1) := by decide +kernel
theorem dX3_fail_54 : decode cX3_fail 54 = .ok (.invokevirtual 135, 3) := by decide +kernel
theorem dX3_fail_57 : decode cX3_fail 57 = .ok (.return_, 1) := by decide +kernel
set_option maxRecDepth 20000 in
theorem ggX3_wipe_X3_change : GoodIn wsX3_wipe wsX3_change := goodIn_r _ [6, 7, 8, 9, 10, 11, 12, 13, 14, 15, 16, 17, 18, 19, 20, 21, 22, 23, 24, 25, 26, 27, 28, 29, 30, 31, 32, 33, 34, 35, 36, 37, 38, 39] (by decide +kernel) (by decide +kernel)
set_option maxRecDepth 20000 in
theorem gX3_wipe_X3_change : GoodIn wsX3_wipe (wsV RX3 135 RX3 yX3_change wsX3_change) := goodIn_app (goodIn_of _ (by decide +kernel)) ggX3_wipe_X3_change
theorem dX3_wipe_0 : decode cX3_wipe 0 = .ok (.aload_n 0, 1) := by decide +kernel
theorem dX3_wipe_1 : decode cX3_wipe 1 = .ok (.dup, 1) := by decide +kernel
theorem dX3_wipe_2 : decode cX3_wipe 2 = .ok (.getfield 42, 3) := by decide +kernel
theorem dX3_wipe_5 : decode cX3_wipe 5 = .ok (.iconst 1, 1) := by decide +kernel
theorem dX3_wipe_6 : decode cX3_wipe 6 = .ok (.iadd, 1) := by decide +kernel
theorem dX3_wipe_7 : decode cX3_wipe 7 = .ok (.putfield 42, 3) := by decide +kernel
theorem dX3_wipe_10 : decode cX3_wipe 10 = .ok (.aload_n 0, 1) := by decide +kernel
theorem dX3_wipe_11 : decode cX3_wipe 11 = .ok (.aload_n 1, 1) := by decide +kernel
theorem dX3_wipe_12 : decode cX3_wipe 12 = .ok (.iconst 1, 1) := by decide +kernel
theorem dX3_wipe_13 : decode cX3_wipe 13 = .ok (.invokevirtual 135, 3) := by decide +kernel
theorem dX3_wipe_16 : decode cX3_wipe 16 = .ok (.return_, 1) := by decide +kernel
set_option maxRecDepth 20000 in
theorem ggX3_begin_X3_matchFor : GoodIn wsX3_begin wsX3_matchFor := goodIn_r _ [10, 11, 12, 13, 14, 15, 16, 17, 18, 19, 20, 21, 22, 23, 24, 25, 26, 60, 61, 62, 63, 64, 65, 66, 67, 68, 42, 43, 44, 45, 46, 47, 48, 49, 50, 51, 52, 53, 54, 55, 56, 57, 58, 59] (by decide +kernel) (by decide +kernel)
set_option maxRecDepth 20000 in
theorem gX3_begin_X3_matchFor : GoodIn wsX3_begin (wsV RX3 120 RX3 yX3_matchFor wsX3_matchFor) := goodIn_app (goodIn_of _ (by decide +kernel)) ggX3_begin_X3_matchFor
set_option maxRecDepth 20000 in
theorem ggX3_begin_X3_change : GoodIn wsX3_begin wsX3_change := goodIn_r _ [30, 31, 32, 33, 34, 35, 36, 37, 38, 39, 40, 41, 60, 61, 62, 63, 64, 65, 66, 67, 68, 50, 51, 52, 53, 54, 55, 56, 57, 58, 59, 69, 70, 71] (by decide +kernel) (by decide +kernel)
set_option maxRecDepth 20000 in
theorem gX3_begin_X3_change : GoodIn wsX3_begin (wsV RX3 135 RX3 yX3_change wsX3_change) := goodIn_app (goodIn_of _ (by decide +kernel)) ggX3_begin_X3_change
theorem dX3_begin_0 : decode cX3_begin 0 = .ok (.aload_n 0, 1) := by decide +kernel
theorem dX3_begin_1 : decode cX3_begin 1 = .ok (.aload_n 1, 1) := by decide +kernel
theorem dX3_begin_2 : decode cX3_begin 2 = .ok (.invokevirtual 120, 3) := by decide +kernel
theorem dX3_begin_5 : decode cX3_begin 5 = .ok (.astore_n 2, 1) := by decide +kernel
theorem dX3_begin_6 : decode cX3_begin 6 = .ok (.aload_n 2, 1) := by decide +kernel
theorem dX3_begin_7 : decode cX3_begin 7 = .ok (.ifnonnull 12, 3) := by decide +kernel
theorem dX3_begin_10 : decode cX3_begin 10 = .ok (.aload_n 0, 1) := by decide +kernel
theorem dX3_begin_11 : decode cX3_begin 11 = .ok (.aload_n 1, 1) := by decide +kernel
theorem dX3_begin_12 : decode cX3_begin 12 = .ok (.iconst 1, 1) := by decide +kernel
theorem dX3_begin_13 : decode cX3_begin 13 = .ok (.invokevirtual 135, 3) := by decide +kernel
theorem dX3_begin_16 : decode cX3_begin 16 = .ok (.goto 30, 3) := by decide +kernel
theorem dX3_begin_19 : decode cX3_begin 19 = .ok (.aload_n 1, 1) := by decide +kernel
theorem dX3_begin_20 : decode cX3_begin 20 = .ok (.aload_n 2, 1) := by decide +kernel
theorem dX3_begin_21 : decode cX3_begin 21 = .ok (.getfield 169, 3) := by decide +kernel
theorem dX3_begin_24 : decode cX3_begin 24 = .ok (.putfield 176, 3) := by decide +kernel
theorem dX3_begin_27 : decode cX3_begin 27 = .ok (.aload_n 1, 1) := by decide +kernel
theorem dX3_begin_28 : decode cX3_begin 28 = .ok (.aload_n 0, 1) := by decide +kernel
theorem dX3_begin_29 : decode cX3_begin 29 = .ok (.getfield 39, 3) := by decide +kernel
theorem dX3_begin_32 : decode cX3_begin 32 = .ok (.aload_n 2, 1) := by decide +kernel
theorem dX3_begin_33 : decode cX3_begin 33 = .ok (.getfield 64, 3) := by decide +kernel
theorem dX3_begin_36 : decode cX3_begin 36 = .ok (.iadd, 1) := by decide +kernel
theorem dX3_begin_37 : decode cX3_begin 37 = .ok (.putfield 152, 3) := by decide +kernel
theorem dX3_begin_40 : decode cX3_begin 40 = .ok (.aload_n 0, 1) := by decide +kernel
theorem dX3_begin_41 : decode cX3_begin 41 = .ok (.aload_n 1, 1) := by decide +kernel
theorem dX3_begin_42 : decode cX3_begin 42 = .ok (.iconst 3, 1) := by decide +kernel
theorem dX3_begin_43 : decode cX3_begin 43 = .ok (.invokevirtual 135, 3) := by decide +kernel
theorem dX3_begin_46 : decode cX3_begin 46 = .ok (.return_, 1) := by decide +kernel
set_option maxRecDepth 20000 in
theorem ggX3_passHour_X3_failOverdueInstallations : GoodIn wsX3_passHour wsX3_failOverdueInstallations := goodIn_r _ [6, 7, 1, 8, 9, 10, 11, 12, 13, 14, 15, 16, 17, 5, 18, 19, 20, 21, 22, 23, 24, 25, 26, 27, 28, 29, 30, 31, 32, 33, 34, 35, 36, 37, 115, 116, 117, 118, 119, 120, 121, 122, 123, 124, 125, 126, 127, 128, 129, 130, 131, 132, 133, 134, 135, 136] (by decide +kernel) (by decide +kernel)
set_option maxRecDepth 20000 in
theorem gX3_passHour_X3_failOverdueInstallations : GoodIn wsX3_passHour (wsV RX3 225 RX3 yX3_failOverdueInstallations wsX3_failOverdueInstallations) := goodIn_app (goodIn_of _ (by decide +kernel)) ggX3_passHour_X3_failOverdueInstallations
set_option maxRecDepth 20000 in
theorem ggX3_passHour_X3_wipeDrainedMachines : GoodIn wsX3_passHour wsX3_wipeDrainedMachines := goodIn_r _ [41, 7, 1, 8, 9, 10, 11, 12, 13, 14, 42, 43, 44, 5, 45, 46, 23, 24, 25, 26, 27, 28, 29, 30, 31, 32, 33, 34, 35, 36, 37, 115, 116, 117, 118, 119, 120, 121, 122, 123, 124, 125, 126, 127, 128, 129, 130, 131, 132, 133, 134, 135, 136] (by decide +kernel) (by decide +kernel)
set_option maxRecDepth 20000 in
theorem gX3_passHour_X3_wipeDrainedMachines : GoodIn wsX3_passHour (wsV RX3 228 RX3 yX3_wipeDrainedMachines wsX3_wipeDrainedMachines) := goodIn_app (goodIn_of _ (by decide +kernel)) ggX3_passHour_X3_wipeDrainedMachines
set_option maxRecDepth 20000 in
theorem ggX3_passHour_X3_enqueueRestedMachines : GoodIn wsX3_passHour wsX3_enqueueRestedMachines := goodIn_r _ [50, 7, 1, 8, 9, 10, 11, 12, 13, 14, 51, 52, 53, 5, 54, 55, 56, 57, 58, 59, 60, 23, 24, 25, 26, 27, 28, 29, 30, 31, 32, 33, 34, 35, 36, 37, 115, 116, 117, 118, 119, 120, 121, 122, 123, 124, 125, 126, 127, 128, 129, 130, 131, 132, 133, 134, 135, 136] (by decide +kernel) (by decide +kernel)
set_option maxRecDepth 20000 in
theorem gX3_passHour_X3_enqueueRestedMachines : GoodIn wsX3_passHour (wsV RX3 231 RX3 yX3_enqueueRestedMachines wsX3_enqueueRestedMachines) := goodIn_app (goodIn_of _ (by decide +kernel)) ggX3_passHour_X3_enqueueRestedMachines
set_option maxRecDepth 20000 in
theorem ggX3_passHour_X3_beginInstallations : GoodIn wsX3_passHour wsX3_beginInstallations := goodIn_r _ [64, 65, 66, 67, 68, 5, 69, 70, 71, 72, 73, 7, 29, 74, 75, 76, 77, 78, 79, 80, 81, 11, 82, 13, 83, 84, 85, 86, 87, 55, 88, 89, 90, 91, 92, 93, 1, 94, 22, 95, 96, 97, 98, 99, 100, 101, 102, 103, 104, 105, 106, 107, 108, 109, 110, 111, 112, 113, 114, 23, 24, 25, 26, 27, 28, 30, 31, 32, 33, 34, 35, 36, 37, 115, 116, 117, 118, 119, 120, 121, 122, 123, 124, 125, 126, 127, 128, 129, 130, 131, 132, 133, 137, 138, 139, 140, 141, 142, 143, 144, 134, 135, 136] (by decide +kernel) (by decide +kernel)
set_option maxRecDepth 20000 in
theorem gX3_passHour_X3_beginInstallations : GoodIn wsX3_passHour (wsV RX3 82 RX3 yX3_beginInstallations wsX3_beginInstallations) := goodIn_app (goodIn_of _ (by decide +kernel)) ggX3_passHour_X3_beginInstallations
theorem dX3_passHour_0 : decode cX3_passHour 0 = .ok (.aload_n 0, 1) := by decide +kernel
theorem dX3_passHour_1 : decode cX3_passHour 1 = .ok (.dup, 1) := by decide +kernel
theorem dX3_passHour_2 : decode cX3_passHour 2 = .ok (.getfield 39, 3) := by decide +kernel
theorem dX3_passHour_5 : decode cX3_passHour 5 = .ok (.iconst 1, 1) := by decide +kernel
theorem dX3_passHour_6 : decode cX3_passHour 6 = .ok (.iadd, 1) := by decide +kernel
theorem dX3_passHour_7 : decode cX3_passHour 7 = .ok (.putfield 39, 3) := by decide +kernel
theorem dX3_passHour_10 : decode cX3_passHour 10 = .ok (.aload_n 0, 1) := by decide +kernel
theorem dX3_passHour_11 : decode cX3_passHour 11 = .ok (.invokevirtual 225, 3) := by decide +kernel
theorem dX3_passHour_14 : decode cX3_passHour 14 = .ok (.aload_n 0, 1) := by decide +kernel
theorem dX3_passHour_15 : decode cX3_passHour 15 = .ok (.invokevirtual 228, 3) := by decide +kernel
theorem dX3_passHour_18 : decode cX3_passHour 18 = .ok (.aload_n 0, 1) := by decide +kernel
theorem dX3_passHour_19 : decode cX3_passHour 19 = .ok (.invokevirtual 231, 3) := by decide +kernel
theorem dX3_passHour_22 : decode cX3_passHour 22 = .ok (.aload_n 0, 1) := by decide +kernel
theorem dX3_passHour_23 : decode cX3_passHour 23 = .ok (.invokevirtual 82, 3) := by decide +kernel
theorem dX3_passHour_26 : decode cX3_passHour 26 = .ok (.return_, 1) := by decide +kernel
set_option maxRecDepth 20000 in
theorem ggX3_failOverdueInstallations_X2_isOver : GoodIn wsX3_failOverdueInstallations wsX2_isOver := goodIn_r _ [7, 8, 9, 43, 44, 45, 46, 47, 48, 49, 50, 51, 52] (by decide +kernel) (by decide +kernel)
set_option maxRecDepth 20000 in
theorem gX3_failOverdueInstallations_X2_isOver : GoodIn wsX3_failOverdueInstallations (wsV RX3 234 RX2 yX2_isOver wsX2_isOver) := goodIn_app (goodIn_of _ (by decide +kernel)) ggX3_failOverdueInstallations_X2_isOver
set_option maxRecDepth 20000 in
theorem ggX3_failOverdueInstallations_X3_fail : GoodIn wsX3_failOverdueInstallations wsX3_fail := goodIn_r _ [14, 15, 16, 2, 17, 18, 19, 20, 21, 13, 22, 23, 24, 25, 26, 27, 28, 29, 30, 31, 32, 33, 43, 44, 45, 46, 47, 48, 49, 50, 51, 52, 34, 35, 36, 37, 38, 39, 40, 41, 42, 53, 54, 55] (by decide +kernel) (by decide +kernel)
set_option maxRecDepth 20000 in
theorem gX3_failOverdueInstallations_X3_fail : GoodIn wsX3_failOverdueInstallations (wsV RX3 144 RX3 yX3_fail wsX3_fail) := goodIn_app (goodIn_of _ (by decide +kernel)) ggX3_failOverdueInstallations_X3_fail
theorem dX3_failOverdueInstallations_0 : decode cX3_failOverdueInstallations 0 = .ok (.iconst 0, 1) := by decide +kernel
theorem dX3_failOverdueInstallations_1 : decode cX3_failOverdueInstallations 1 = .ok (.istore_n 1, 1) := by decide +kernel
theorem dX3_failOverdueInstallations_2 : decode cX3_failOverdueInstallations 2 = .ok (.iload_n 1, 1) := by decide +kernel
theorem dX3_failOverdueInstallations_3 : decode cX3_failOverdueInstallations 3 = .ok (.aload_n 0, 1) := by decide +kernel
theorem dX3_failOverdueInstallations_4 : decode cX3_failOverdueInstallations 4 = .ok (.getfield 11, 3) := by decide +kernel
theorem dX3_failOverdueInstallations_7 : decode cX3_failOverdueInstallations 7 = .ok (.arraylength, 1) := by decide +kernel
theorem dX3_failOverdueInstallations_8 : decode cX3_failOverdueInstallations 8 = .ok (.if_icmp .ge 36, 3) := by decide +kernel
theorem dX3_failOverdueInstallations_11 : decode cX3_failOverdueInstallations 11 = .ok (.aload_n 0, 1) := by decide +kernel
theorem dX3_failOverdueInstallations_12 : decode cX3_failOverdueInstallations 12 = .ok (.getfield 11, 3) := by decide +kernel
theorem dX3_failOverdueInstallations_15 : decode cX3_failOverdueInstallations 15 = .ok (.iload_n 1, 1) := by decide +kernel
theorem dX3_failOverdueInstallations_16 : decode cX3_failOverdueInstallations 16 = .ok (.aaload, 1) := by decide +kernel
theorem dX3_failOverdueInstallations_17 : decode cX3_failOverdueInstallations 17 = .ok (.iconst 3, 1) := by decide +kernel
theorem dX3_failOverdueInstallations_18 : decode cX3_failOverdueInstallations 18 = .ok (.aload_n 0, 1) := by decide +kernel
theorem dX3_failOverdueInstallations_19 : decode cX3_failOverdueInstallations 19 = .ok (.getfield 39, 3) := by decide +kernel
theorem dX3_failOverdueInstallations_22 : decode cX3_failOverdueInstallations 22 = .ok (.invokevirtual 234, 3) := by decide +kernel
theorem dX3_failOverdueInstallations_25 : decode cX3_failOverdueInstallations 25 = .ok (.ifCond .eq 13, 3) := by decide +kernel
theorem dX3_failOverdueInstallations_28 : decode cX3_failOverdueInstallations 28 = .ok (.aload_n 0, 1) := by decide +kernel
theorem dX3_failOverdueInstallations_29 : decode cX3_failOverdueInstallations 29 = .ok (.aload_n 0, 1) := by decide +kernel
theorem dX3_failOverdueInstallations_30 : decode cX3_failOverdueInstallations 30 = .ok (.getfield 11, 3) := by decide +kernel
theorem dX3_failOverdueInstallations_33 : decode cX3_failOverdueInstallations 33 = .ok (.iload_n 1, 1) := by decide +kernel
theorem dX3_failOverdueInstallations_34 : decode cX3_failOverdueInstallations 34 = .ok (.aaload, 1) := by decide +kernel
theorem dX3_failOverdueInstallations_35 : decode cX3_failOverdueInstallations 35 = .ok (.invokevirtual 144, 3) := by decide +kernel
theorem dX3_failOverdueInstallations_38 : decode cX3_failOverdueInstallations 38 = .ok (.iinc 1 1, 3) := by decide +kernel
theorem dX3_failOverdueInstallations_41 : decode cX3_failOverdueInstallations 41 = .ok (.goto (-39), 3) := by decide +kernel
theorem dX3_failOverdueInstallations_44 : decode cX3_failOverdueInstallations 44 = .ok (.return_, 1) := by decide +kernel
set_option maxRecDepth 20000 in
theorem ggX3_wipeDrainedMachines_X2_isOver : GoodIn wsX3_wipeDrainedMachines wsX2_isOver := goodIn_r _ [7, 8, 9, 40, 41, 42, 43, 44, 45, 46, 47, 48, 49] (by decide +kernel) (by decide +kernel)
set_option maxRecDepth 20000 in
theorem gX3_wipeDrainedMachines_X2_isOver : GoodIn wsX3_wipeDrainedMachines (wsV RX3 234 RX2 yX2_isOver wsX2_isOver) := goodIn_app (goodIn_of _ (by decide +kernel)) ggX3_wipeDrainedMachines_X2_isOver
set_option maxRecDepth 20000 in
theorem ggX3_wipeDrainedMachines_X3_wipe : GoodIn wsX3_wipeDrainedMachines wsX3_wipe := goodIn_r _ [14, 15, 16, 17, 18, 13, 19, 20, 21, 22, 23, 24, 25, 26, 27, 28, 29, 30, 31, 32, 33, 34, 35, 36, 37, 38, 39, 40, 41, 42, 43, 44, 45, 46, 47, 48, 49, 50, 51, 52] (by decide +kernel) (by decide +kernel)
set_option maxRecDepth 20000 in
theorem gX3_wipeDrainedMachines_X3_wipe : GoodIn wsX3_wipeDrainedMachines (wsV RX3 149 RX3 yX3_wipe wsX3_wipe) := goodIn_app (goodIn_of _ (by decide +kernel)) ggX3_wipeDrainedMachines_X3_wipe
theorem dX3_wipeDrainedMachines_0 : decode cX3_wipeDrainedMachines 0 = .ok (.iconst 0, 1) := by decide +kernel
theorem dX3_wipeDrainedMachines_1 : decode cX3_wipeDrainedMachines 1 = .ok (.istore_n 1, 1) := by decide +kernel
theorem dX3_wipeDrainedMachines_2 : decode cX3_wipeDrainedMachines 2 = .ok (.iload_n 1, 1) := by decide +kernel
theorem dX3_wipeDrainedMachines_3 : decode cX3_wipeDrainedMachines 3 = .ok (.aload_n 0, 1) := by decide +kernel
theorem dX3_wipeDrainedMachines_4 : decode cX3_wipeDrainedMachines 4 = .ok (.getfield 11, 3) := by decide +kernel
theorem dX3_wipeDrainedMachines_7 : decode cX3_wipeDrainedMachines 7 = .ok (.arraylength, 1) := by decide +kernel
theorem dX3_wipeDrainedMachines_8 : decode cX3_wipeDrainedMachines 8 = .ok (.if_icmp .ge 37, 3) := by decide +kernel
theorem dX3_wipeDrainedMachines_11 : decode cX3_wipeDrainedMachines 11 = .ok (.aload_n 0, 1) := by decide +kernel
theorem dX3_wipeDrainedMachines_12 : decode cX3_wipeDrainedMachines 12 = .ok (.getfield 11, 3) := by decide +kernel
theorem dX3_wipeDrainedMachines_15 : decode cX3_wipeDrainedMachines 15 = .ok (.iload_n 1, 1) := by decide +kernel
theorem dX3_wipeDrainedMachines_16 : decode cX3_wipeDrainedMachines 16 = .ok (.aaload, 1) := by decide +kernel
theorem dX3_wipeDrainedMachines_17 : decode cX3_wipeDrainedMachines 17 = .ok (.bipush 6, 2) := by decide +kernel
theorem dX3_wipeDrainedMachines_19 : decode cX3_wipeDrainedMachines 19 = .ok (.aload_n 0, 1) := by decide +kernel
theorem dX3_wipeDrainedMachines_20 : decode cX3_wipeDrainedMachines 20 = .ok (.getfield 39, 3) := by decide +kernel
theorem dX3_wipeDrainedMachines_23 : decode cX3_wipeDrainedMachines 23 = .ok (.invokevirtual 234, 3) := by decide +kernel
theorem dX3_wipeDrainedMachines_26 : decode cX3_wipeDrainedMachines 26 = .ok (.ifCond .eq 13, 3) := by decide +kernel
theorem dX3_wipeDrainedMachines_29 : decode cX3_wipeDrainedMachines 29 = .ok (.aload_n 0, 1) := by decide +kernel
theorem dX3_wipeDrainedMachines_30 : decode cX3_wipeDrainedMachines 30 = .ok (.aload_n 0, 1) := by decide +kernel
theorem dX3_wipeDrainedMachines_31 : decode cX3_wipeDrainedMachines 31 = .ok (.getfield 11, 3) := by decide +kernel
theorem dX3_wipeDrainedMachines_34 : decode cX3_wipeDrainedMachines 34 = .ok (.iload_n 1, 1) := by decide +kernel
theorem dX3_wipeDrainedMachines_35 : decode cX3_wipeDrainedMachines 35 = .ok (.aaload, 1) := by decide +kernel
theorem dX3_wipeDrainedMachines_36 : decode cX3_wipeDrainedMachines 36 = .ok (.invokevirtual 149, 3) := by decide +kernel
theorem dX3_wipeDrainedMachines_39 : decode cX3_wipeDrainedMachines 39 = .ok (.iinc 1 1, 3) := by decide +kernel
theorem dX3_wipeDrainedMachines_42 : decode cX3_wipeDrainedMachines 42 = .ok (.goto (-40), 3) := by decide +kernel
theorem dX3_wipeDrainedMachines_45 : decode cX3_wipeDrainedMachines 45 = .ok (.return_, 1) := by decide +kernel
set_option maxRecDepth 20000 in
theorem ggX3_enqueueRestedMachines_X2_isOver : GoodIn wsX3_enqueueRestedMachines wsX2_isOver := goodIn_r _ [7, 8, 9, 45, 46, 47, 48, 49, 50, 51, 52, 53, 54] (by decide +kernel) (by decide +kernel)
set_option maxRecDepth 20000 in
theorem gX3_enqueueRestedMachines_X2_isOver : GoodIn wsX3_enqueueRestedMachines (wsV RX3 234 RX2 yX2_isOver wsX2_isOver) := goodIn_app (goodIn_of _ (by decide +kernel)) ggX3_enqueueRestedMachines_X2_isOver
set_option maxRecDepth 20000 in
theorem ggX3_enqueueRestedMachines_X3_enqueue : GoodIn wsX3_enqueueRestedMachines wsX3_enqueue := goodIn_r _ [14, 15, 16, 17, 18, 13, 19, 20, 21, 22, 23, 24, 25, 26, 27, 28, 29, 30, 31, 32, 33, 34, 35, 45, 46, 47, 48, 49, 50, 51, 52, 53, 54, 36, 37, 38, 39, 40, 41, 42, 43, 44, 55, 56, 57] (by decide +kernel) (by decide +kernel)
set_option maxRecDepth 20000 in
theorem gX3_enqueueRestedMachines_X3_enqueue : GoodIn wsX3_enqueueRestedMachines (wsV RX3 129 RX3 yX3_enqueue wsX3_enqueue) := goodIn_app (goodIn_of _ (by decide +kernel)) ggX3_enqueueRestedMachines_X3_enqueue
theorem dX3_enqueueRestedMachines_0 : decode cX3_enqueueRestedMachines 0 = .ok (.iconst 0, 1) := by decide +kernel
theorem dX3_enqueueRestedMachines_1 : decode cX3_enqueueRestedMachines 1 = .ok (.istore_n 1, 1) := by decide +kernel
theorem dX3_enqueueRestedMachines_2 : decode cX3_enqueueRestedMachines 2 = .ok (.iload_n 1, 1) := by decide +kernel
theorem dX3_enqueueRestedMachines_3 : decode cX3_enqueueRestedMachines 3 = .ok (.aload_n 0, 1) := by decide +kernel
theorem dX3_enqueueRestedMachines_4 : decode cX3_enqueueRestedMachines 4 = .ok (.getfield 11, 3) := by decide +kernel
theorem dX3_enqueueRestedMachines_7 : decode cX3_enqueueRestedMachines 7 = .ok (.arraylength, 1) := by decide +kernel
theorem dX3_enqueueRestedMachines_8 : decode cX3_enqueueRestedMachines 8 = .ok (.if_icmp .ge 36, 3) := by decide +kernel
theorem dX3_enqueueRestedMachines_11 : decode cX3_enqueueRestedMachines 11 = .ok (.aload_n 0, 1) := by decide +kernel
theorem dX3_enqueueRestedMachines_12 : decode cX3_enqueueRestedMachines 12 = .ok (.getfield 11, 3) := by decide +kernel
theorem dX3_enqueueRestedMachines_15 : decode cX3_enqueueRestedMachines 15 = .ok (.iload_n 1, 1) := by decide +kernel
theorem dX3_enqueueRestedMachines_16 : decode cX3_enqueueRestedMachines 16 = .ok (.aaload, 1) := by decide +kernel
theorem dX3_enqueueRestedMachines_17 : decode cX3_enqueueRestedMachines 17 = .ok (.iconst 4, 1) := by decide +kernel
theorem dX3_enqueueRestedMachines_18 : decode cX3_enqueueRestedMachines 18 = .ok (.aload_n 0, 1) := by decide +kernel
theorem dX3_enqueueRestedMachines_19 : decode cX3_enqueueRestedMachines 19 = .ok (.getfield 39, 3) := by decide +kernel
theorem dX3_enqueueRestedMachines_22 : decode cX3_enqueueRestedMachines 22 = .ok (.invokevirtual 234, 3) := by decide +kernel
theorem dX3_enqueueRestedMachines_25 : decode cX3_enqueueRestedMachines 25 = .ok (.ifCond .eq 13, 3) := by decide +kernel
theorem dX3_enqueueRestedMachines_28 : decode cX3_enqueueRestedMachines 28 = .ok (.aload_n 0, 1) := by decide +kernel
theorem dX3_enqueueRestedMachines_29 : decode cX3_enqueueRestedMachines 29 = .ok (.aload_n 0, 1) := by decide +kernel
theorem dX3_enqueueRestedMachines_30 : decode cX3_enqueueRestedMachines 30 = .ok (.getfield 11, 3) := by decide +kernel
theorem dX3_enqueueRestedMachines_33 : decode cX3_enqueueRestedMachines 33 = .ok (.iload_n 1, 1) := by decide +kernel
theorem dX3_enqueueRestedMachines_34 : decode cX3_enqueueRestedMachines 34 = .ok (.aaload, 1) := by decide +kernel
theorem dX3_enqueueRestedMachines_35 : decode cX3_enqueueRestedMachines 35 = .ok (.invokevirtual 129, 3) := by decide +kernel
theorem dX3_enqueueRestedMachines_38 : decode cX3_enqueueRestedMachines 38 = .ok (.iinc 1 1, 3) := by decide +kernel
theorem dX3_enqueueRestedMachines_41 : decode cX3_enqueueRestedMachines 41 = .ok (.goto (-39), 3) := by decide +kernel
theorem dX3_enqueueRestedMachines_44 : decode cX3_enqueueRestedMachines 44 = .ok (.return_, 1) := by decide +kernel
set_option maxRecDepth 20000 in
theorem ggX3_beginInstallations_X3_fillBatch : GoodIn wsX3_beginInstallations wsX3_fillBatch := goodIn_r _ [6, 7, 8, 9, 5, 10, 11, 12, 13, 14, 15, 16, 17, 18, 19, 20, 21, 22, 23, 24, 25, 26, 27, 28, 29, 30, 31, 32, 33, 34, 35, 36, 37, 38, 39, 40, 41, 42, 43, 44, 45, 46, 47, 48, 49, 50, 51, 52, 53, 54, 55, 56, 57, 58, 59, 60, 61, 62, 63, 64, 65, 66, 67, 68, 69, 70, 71, 72, 73, 74, 75, 76, 77, 78, 79, 80, 81, 82, 83, 84, 85, 86, 87, 88, 89, 90, 91, 92, 93, 94, 95, 96, 97, 98, 99, 100, 101, 102] (by decide +kernel) (by decide +kernel)
set_option maxRecDepth 20000 in
theorem gX3_beginInstallations_X3_fillBatch : GoodIn wsX3_beginInstallations (wsV RX3 238 RX3 yX3_fillBatch wsX3_fillBatch) := goodIn_app (goodIn_of _ (by decide +kernel)) ggX3_beginInstallations_X3_fillBatch
theorem dX3_beginInstallations_0 : decode cX3_beginInstallations 0 = .ok (.iconst 0, 1) := by decide +kernel
theorem dX3_beginInstallations_1 : decode cX3_beginInstallations 1 = .ok (.istore_n 1, 1) := by decide +kernel
theorem dX3_beginInstallations_2 : decode cX3_beginInstallations 2 = .ok (.iload_n 1, 1) := by decide +kernel
theorem dX3_beginInstallations_3 : decode cX3_beginInstallations 3 = .ok (.aload_n 0, 1) := by decide +kernel
theorem dX3_beginInstallations_4 : decode cX3_beginInstallations 4 = .ok (.getfield 21, 3) := by decide +kernel
theorem dX3_beginInstallations_7 : decode cX3_beginInstallations 7 = .ok (.arraylength, 1) := by decide +kernel
theorem dX3_beginInstallations_8 : decode cX3_beginInstallations 8 = .ok (.if_icmp .ge 20, 3) := by decide +kernel
theorem dX3_beginInstallations_11 : decode cX3_beginInstallations 11 = .ok (.aload_n 0, 1) := by decide +kernel
theorem dX3_beginInstallations_12 : decode cX3_beginInstallations 12 = .ok (.iload_n 1, 1) := by decide +kernel
theorem dX3_beginInstallations_13 : decode cX3_beginInstallations 13 = .ok (.aload_n 0, 1) := by decide +kernel
theorem dX3_beginInstallations_14 : decode cX3_beginInstallations 14 = .ok (.getfield 21, 3) := by decide +kernel
theorem dX3_beginInstallations_17 : decode cX3_beginInstallations 17 = .ok (.iload_n 1, 1) := by decide +kernel
theorem dX3_beginInstallations_18 : decode cX3_beginInstallations 18 = .ok (.iaload, 1) := by decide +kernel
theorem dX3_beginInstallations_19 : decode cX3_beginInstallations 19 = .ok (.invokevirtual 238, 3) := by decide +kernel
theorem dX3_beginInstallations_22 : decode cX3_beginInstallations 22 = .ok (.iinc 1 1, 3) := by decide +kernel
theorem dX3_beginInstallations_25 : decode cX3_beginInstallations 25 = .ok (.goto (-23), 3) := by decide +kernel
theorem dX3_beginInstallations_28 : decode cX3_beginInstallations 28 = .ok (.return_, 1) := by decide +kernel
set_option maxRecDepth 20000 in
theorem ggX3_fillBatch_X3_countInstalling : GoodIn wsX3_fillBatch wsX3_countInstalling := goodIn_r _ [5, 6, 7, 8, 68, 69, 70, 71, 72, 73, 74, 75, 76, 77, 78, 79, 80, 81, 82, 83, 84, 85, 86] (by decide +kernel) (by decide +kernel)
set_option maxRecDepth 20000 in
theorem gX3_fillBatch_X3_countInstalling : GoodIn wsX3_fillBatch (wsV RX3 182 RX3 yX3_countInstalling wsX3_countInstalling) := goodIn_app (goodIn_of _ (by decide +kernel)) ggX3_fillBatch_X3_countInstalling
set_option maxRecDepth 20000 in
theorem ggX3_fillBatch_X3_queuedAt : GoodIn wsX3_fillBatch wsX3_queuedAt := goodIn_r _ [12, 6, 13, 14, 15, 16, 17, 18, 19, 20, 21, 22, 4, 23, 8, 24, 68, 69, 70, 71, 72, 73, 74, 75, 76, 77, 78, 79, 80, 81, 82, 83, 84, 85, 86] (by decide +kernel) (by decide +kernel)
set_option maxRecDepth 20000 in
theorem gX3_fillBatch_X3_queuedAt : GoodIn wsX3_fillBatch (wsV RX3 187 RX3 yX3_queuedAt wsX3_queuedAt) := goodIn_app (goodIn_of _ (by decide +kernel)) ggX3_fillBatch_X3_queuedAt
set_option maxRecDepth 20000 in
theorem ggX3_fillBatch_X3_begin : GoodIn wsX3_fillBatch wsX3_begin := goodIn_r _ [28, 29, 30, 31, 32, 33, 34, 35, 36, 4, 37, 38, 39, 40, 41, 42, 43, 44, 45, 46, 47, 48, 49, 50, 51, 52, 53, 54, 55, 56, 57, 58, 59, 7, 60, 61, 62, 63, 64, 65, 66, 67, 87, 88, 89, 90, 91, 92, 93, 94, 77, 78, 79, 80, 81, 82, 83, 84, 85, 86, 68, 69, 70, 71, 72, 73, 74, 75, 76, 95, 96, 97] (by decide +kernel) (by decide +kernel)
set_option maxRecDepth 20000 in
theorem gX3_fillBatch_X3_begin : GoodIn wsX3_fillBatch (wsV RX3 241 RX3 yX3_begin wsX3_begin) := goodIn_app (goodIn_of _ (by decide +kernel)) ggX3_fillBatch_X3_begin
theorem dX3_fillBatch_0 : decode cX3_fillBatch 0 = .ok (.iconst 0, 1) := by decide +kernel
theorem dX3_fillBatch_1 : decode cX3_fillBatch 1 = .ok (.istore_n 3, 1) := by decide +kernel
theorem dX3_fillBatch_2 : decode cX3_fillBatch 2 = .ok (.iload_n 3, 1) := by decide +kernel
theorem dX3_fillBatch_3 : decode cX3_fillBatch 3 = .ok (.bipush 16, 2) := by decide +kernel
theorem dX3_fillBatch_5 : decode cX3_fillBatch 5 = .ok (.if_icmp .ge 42, 3) := by decide +kernel
theorem dX3_fillBatch_8 : decode cX3_fillBatch 8 = .ok (.aload_n 0, 1) := by decide +kernel
theorem dX3_fillBatch_9 : decode cX3_fillBatch 9 = .ok (.iload_n 1, 1) := by decide +kernel
theorem dX3_fillBatch_10 : decode cX3_fillBatch 10 = .ok (.invokevirtual 182, 3) := by decide +kernel
theorem dX3_fillBatch_13 : decode cX3_fillBatch 13 = .ok (.iload_n 2, 1) := by decide +kernel
theorem dX3_fillBatch_14 : decode cX3_fillBatch 14 = .ok (.if_icmp .ge 12, 3) := by decide +kernel
theorem dX3_fillBatch_17 : decode cX3_fillBatch 17 = .ok (.aload_n 0, 1) := by decide +kernel
theorem dX3_fillBatch_18 : decode cX3_fillBatch 18 = .ok (.iload_n 1, 1) := by decide +kernel
theorem dX3_fillBatch_19 : decode cX3_fillBatch 19 = .ok (.iconst 0, 1) := by decide +kernel
theorem dX3_fillBatch_20 : decode cX3_fillBatch 20 = .ok (.invokevirtual 187, 3) := by decide +kernel
theorem dX3_fillBatch_23 : decode cX3_fillBatch 23 = .ok (.goto 4, 3) := by decide +kernel
theorem dX3_fillBatch_26 : decode cX3_fillBatch 26 = .ok (.aconst_null, 1) := by decide +kernel
theorem dX3_fillBatch_27 : decode cX3_fillBatch 27 = .ok (.astore 4, 2) := by decide +kernel
theorem dX3_fillBatch_29 : decode cX3_fillBatch 29 = .ok (.aload 4, 2) := by decide +kernel
theorem dX3_fillBatch_31 : decode cX3_fillBatch 31 = .ok (.ifnonnull 4, 3) := by decide +kernel
theorem dX3_fillBatch_34 : decode cX3_fillBatch 34 = .ok (.return_, 1) := by decide +kernel
theorem dX3_fillBatch_35 : decode cX3_fillBatch 35 = .ok (.aload_n 0, 1) := by decide +kernel
theorem dX3_fillBatch_36 : decode cX3_fillBatch 36 = .ok (.aload 4, 2) := by decide +kernel
theorem dX3_fillBatch_38 : decode cX3_fillBatch 38 = .ok (.invokevirtual 241, 3) := by decide +kernel
theorem dX3_fillBatch_41 : decode cX3_fillBatch 41 = .ok (.iinc 3 1, 3) := by decide +kernel
theorem dX3_fillBatch_44 : decode cX3_fillBatch 44 = .ok (.goto (-42), 3) := by decide +kernel
theorem dX3_fillBatch_47 : decode cX3_fillBatch 47 = .ok (.return_, 1) := by decide +kernel
theorem dX3_countInstalling_0 : decode cX3_countInstalling 0 = .ok (.iconst 0, 1) := by decide +kernel
theorem dX3_countInstalling_1 : decode cX3_countInstalling 1 = .ok (.istore_n 2, 1) := by decide +kernel
theorem dX3_countInstalling_2 : decode cX3_countInstalling 2 = .ok (.iconst 0, 1) := by decide +kernel
theorem dX3_countInstalling_3 : decode cX3_countInstalling 3 = .ok (.istore_n 3, 1) := by decide +kernel
theorem dX3_countInstalling_4 : decode cX3_countInstalling 4 = .ok (.iload_n 3, 1) := by decide +kernel
theorem dX3_countInstalling_5 : decode cX3_countInstalling 5 = .ok (.aload_n 0, 1) := by decide +kernel
theorem dX3_countInstalling_6 : decode cX3_countInstalling 6 = .ok (.getfield 11, 3) := by decide +kernel
theorem dX3_countInstalling_9 : decode cX3_countInstalling 9 = .ok (.arraylength, 1) := by decide +kernel
theorem dX3_countInstalling_10 : decode cX3_countInstalling 10 = .ok (.if_icmp .ge 38, 3) := by decide +kernel
theorem dX3_countInstalling_13 : decode cX3_countInstalling 13 = .ok (.aload_n 0, 1) := by decide +kernel
theorem dX3_countInstalling_14 : decode cX3_countInstalling 14 = .ok (.getfield 11, 3) := by decide +kernel
theorem dX3_countInstalling_17 : decode cX3_countInstalling 17 = .ok (.iload_n 3, 1) := by decide +kernel
theorem dX3_countInstalling_18 : decode cX3_countInstalling 18 = .ok (.aaload, 1) := by decide +kernel
theorem dX3_countInstalling_19 : decode cX3_countInstalling 19 = .ok (.getfield 117, 3) := by decide +kernel
theorem dX3_countInstalling_22 : decode cX3_countInstalling 22 = .ok (.iconst 3, 1) := by decide +kernel
theorem dX3_countInstalling_23 : decode cX3_countInstalling 23 = .ok (.if_icmp .ne 19, 3) := by decide +kernel
theorem dX3_countInstalling_26 : decode cX3_countInstalling 26 = .ok (.aload_n 0, 1) := by decide +kernel
theorem dX3_countInstalling_27 : decode cX3_countInstalling 27 = .ok (.getfield 11, 3) := by decide +kernel
theorem dX3_countInstalling_30 : decode cX3_countInstalling 30 = .ok (.iload_n 3, 1) := by decide +kernel
theorem dX3_countInstalling_31 : decode cX3_countInstalling 31 = .ok (.aaload, 1) := by decide +kernel
theorem dX3_countInstalling_32 : decode cX3_countInstalling 32 = .ok (.getfield 103, 3) := by decide +kernel
theorem dX3_countInstalling_35 : decode cX3_countInstalling 35 = .ok (.iload_n 1, 1) := by decide +kernel
theorem dX3_countInstalling_36 : decode cX3_countInstalling 36 = .ok (.if_icmp .ne 6, 3) := by decide +kernel
theorem dX3_countInstalling_39 : decode cX3_countInstalling 39 = .ok (.iinc 2 1, 3) := by decide +kernel
theorem dX3_countInstalling_42 : decode cX3_countInstalling 42 = .ok (.iinc 3 1, 3) := by decide +kernel
theorem dX3_countInstalling_45 : decode cX3_countInstalling 45 = .ok (.goto (-41), 3) := by decide +kernel
theorem dX3_countInstalling_48 : decode cX3_countInstalling 48 = .ok (.iload_n 2, 1) := by decide +kernel
theorem dX3_countInstalling_49 : decode cX3_countInstalling 49 = .ok (.ireturn, 1) := by decide +kernel
theorem dX3_drawTicket_0 : decode cX3_drawTicket 0 = .ok (.aload_n 0, 1) := by decide +kernel
theorem dX3_drawTicket_1 : decode cX3_drawTicket 1 = .ok (.dup, 1) := by decide +kernel
theorem dX3_drawTicket_2 : decode cX3_drawTicket 2 = .ok (.getfield 45, 3) := by decide +kernel
theorem dX3_drawTicket_5 : decode cX3_drawTicket 5 = .ok (.iconst 1, 1) := by decide +kernel
theorem dX3_drawTicket_6 : decode cX3_drawTicket 6 = .ok (.iadd, 1) := by decide +kernel
theorem dX3_drawTicket_7 : decode cX3_drawTicket 7 = .ok (.putfield 45, 3) := by decide +kernel
theorem dX3_drawTicket_10 : decode cX3_drawTicket 10 = .ok (.aload_n 0, 1) := by decide +kernel
theorem dX3_drawTicket_11 : decode cX3_drawTicket 11 = .ok (.getfield 45, 3) := by decide +kernel
theorem dX3_drawTicket_14 : decode cX3_drawTicket 14 = .ok (.ireturn, 1) := by decide +kernel
set_option maxRecDepth 20000 in
theorem ggX3_queuedAt_X2_isQueuedAt : GoodIn wsX3_queuedAt wsX2_isQueuedAt := goodIn_r _ [6, 7, 8, 25, 26, 27, 28, 29, 30, 31, 32, 33, 34] (by decide +kernel) (by decide +kernel)
set_option maxRecDepth 20000 in
theorem gX3_queuedAt_X2_isQueuedAt : GoodIn wsX3_queuedAt (wsV RX3 244 RX2 yX2_isQueuedAt wsX2_isQueuedAt) := goodIn_app (goodIn_of _ (by decide +kernel)) ggX3_queuedAt_X2_isQueuedAt
set_option maxRecDepth 20000 in
theorem ggX3_queuedAt_X3_countAhead : GoodIn wsX3_queuedAt wsX3_countAhead := goodIn_r _ [13, 1, 14, 15, 2, 3, 4, 5, 6, 7, 8, 16, 17, 18, 19, 20, 21, 22, 23, 24, 25, 26, 27, 28, 29, 30, 31, 32, 33, 34] (by decide +kernel) (by decide +kernel)
set_option maxRecDepth 20000 in
theorem gX3_queuedAt_X3_countAhead : GoodIn wsX3_queuedAt (wsV RX3 247 RX3 yX3_countAhead wsX3_countAhead) := goodIn_app (goodIn_of _ (by decide +kernel)) ggX3_queuedAt_X3_countAhead
theorem dX3_queuedAt_0 : decode cX3_queuedAt 0 = .ok (.iconst 0, 1) := by decide +kernel
theorem dX3_queuedAt_1 : decode cX3_queuedAt 1 = .ok (.istore_n 3, 1) := by decide +kernel
theorem dX3_queuedAt_2 : decode cX3_queuedAt 2 = .ok (.iload_n 3, 1) := by decide +kernel
theorem dX3_queuedAt_3 : decode cX3_queuedAt 3 = .ok (.aload_n 0, 1) := by decide +kernel
theorem dX3_queuedAt_4 : decode cX3_queuedAt 4 = .ok (.getfield 11, 3) := by decide +kernel
theorem dX3_queuedAt_7 : decode cX3_queuedAt 7 = .ok (.arraylength, 1) := by decide +kernel
theorem dX3_queuedAt_8 : decode cX3_queuedAt 8 = .ok (.if_icmp .ge 39, 3) := by decide +kernel
theorem dX3_queuedAt_11 : decode cX3_queuedAt 11 = .ok (.aload_n 0, 1) := by decide +kernel
theorem dX3_queuedAt_12 : decode cX3_queuedAt 12 = .ok (.getfield 11, 3) := by decide +kernel
theorem dX3_queuedAt_15 : decode cX3_queuedAt 15 = .ok (.iload_n 3, 1) := by decide +kernel
theorem dX3_queuedAt_16 : decode cX3_queuedAt 16 = .ok (.aaload, 1) := by decide +kernel
theorem dX3_queuedAt_17 : decode cX3_queuedAt 17 = .ok (.astore 4, 2) := by decide +kernel
theorem dX3_queuedAt_19 : decode cX3_queuedAt 19 = .ok (.aload 4, 2) := by decide +kernel
theorem dX3_queuedAt_21 : decode cX3_queuedAt 21 = .ok (.iload_n 1, 1) := by decide +kernel
theorem dX3_queuedAt_22 : decode cX3_queuedAt 22 = .ok (.invokevirtual 244, 3) := by decide +kernel
theorem dX3_queuedAt_25 : decode cX3_queuedAt 25 = .ok (.ifCond .eq 16, 3) := by decide +kernel
theorem dX3_queuedAt_28 : decode cX3_queuedAt 28 = .ok (.aload_n 0, 1) := by decide +kernel
theorem dX3_queuedAt_29 : decode cX3_queuedAt 29 = .ok (.aload 4, 2) := by decide +kernel
theorem dX3_queuedAt_31 : decode cX3_queuedAt 31 = .ok (.invokevirtual 247, 3) := by decide +kernel
theorem dX3_queuedAt_34 : decode cX3_queuedAt 34 = .ok (.iload_n 2, 1) := by decide +kernel
theorem dX3_queuedAt_35 : decode cX3_queuedAt 35 = .ok (.if_icmp .ne 6, 3) := by decide +kernel
theorem dX3_queuedAt_38 : decode cX3_queuedAt 38 = .ok (.aload 4, 2) := by decide +kernel
theorem dX3_queuedAt_40 : decode cX3_queuedAt 40 = .ok (.areturn, 1) := by decide +kernel
theorem dX3_queuedAt_41 : decode cX3_queuedAt 41 = .ok (.iinc 3 1, 3) := by decide +kernel
theorem dX3_queuedAt_44 : decode cX3_queuedAt 44 = .ok (.goto (-42), 3) := by decide +kernel
theorem dX3_queuedAt_47 : decode cX3_queuedAt 47 = .ok (.aconst_null, 1) := by decide +kernel
theorem dX3_queuedAt_48 : decode cX3_queuedAt 48 = .ok (.areturn, 1) := by decide +kernel
set_option maxRecDepth 20000 in
theorem ggX3_countAhead_X2_isQueuedAt : GoodIn wsX3_countAhead wsX2_isQueuedAt := goodIn_r _ [8, 9, 10, 20, 21, 22, 23, 24, 25, 26, 27, 28, 29] (by decide +kernel) (by decide +kernel)
set_option maxRecDepth 20000 in
theorem gX3_countAhead_X2_isQueuedAt : GoodIn wsX3_countAhead (wsV RX3 244 RX2 yX2_isQueuedAt wsX2_isQueuedAt) := goodIn_app (goodIn_of _ (by decide +kernel)) ggX3_countAhead_X2_isQueuedAt
theorem dX3_countAhead_0 : decode cX3_countAhead 0 = .ok (.iconst 0, 1) := by decide +kernel
theorem dX3_countAhead_1 : decode cX3_countAhead 1 = .ok (.istore_n 2, 1) := by decide +kernel
theorem dX3_countAhead_2 : decode cX3_countAhead 2 = .ok (.iconst 0, 1) := by decide +kernel
theorem dX3_countAhead_3 : decode cX3_countAhead 3 = .ok (.istore_n 3, 1) := by decide +kernel
theorem dX3_countAhead_4 : decode cX3_countAhead 4 = .ok (.iload_n 3, 1) := by decide +kernel
theorem dX3_countAhead_5 : decode cX3_countAhead 5 = .ok (.aload_n 0, 1) := by decide +kernel
theorem dX3_countAhead_6 : decode cX3_countAhead 6 = .ok (.getfield 11, 3) := by decide +kernel
theorem dX3_countAhead_9 : decode cX3_countAhead 9 = .ok (.arraylength, 1) := by decide +kernel
theorem dX3_countAhead_10 : decode cX3_countAhead 10 = .ok (.if_icmp .ge 44, 3) := by decide +kernel
theorem dX3_countAhead_13 : decode cX3_countAhead 13 = .ok (.aload_n 0, 1) := by decide +kernel
theorem dX3_countAhead_14 : decode cX3_countAhead 14 = .ok (.getfield 11, 3) := by decide +kernel
theorem dX3_countAhead_17 : decode cX3_countAhead 17 = .ok (.iload_n 3, 1) := by decide +kernel
theorem dX3_countAhead_18 : decode cX3_countAhead 18 = .ok (.aaload, 1) := by decide +kernel
theorem dX3_countAhead_19 : decode cX3_countAhead 19 = .ok (.astore 4, 2) := by decide +kernel
theorem dX3_countAhead_21 : decode cX3_countAhead 21 = .ok (.aload 4, 2) := by decide +kernel
theorem dX3_countAhead_23 : decode cX3_countAhead 23 = .ok (.aload_n 1, 1) := by decide +kernel
theorem dX3_countAhead_24 : decode cX3_countAhead 24 = .ok (.getfield 103, 3) := by decide +kernel
theorem dX3_countAhead_27 : decode cX3_countAhead 27 = .ok (.invokevirtual 244, 3) := by decide +kernel
theorem dX3_countAhead_30 : decode cX3_countAhead 30 = .ok (.ifCond .eq 18, 3) := by decide +kernel
theorem dX3_countAhead_33 : decode cX3_countAhead 33 = .ok (.aload 4, 2) := by decide +kernel
theorem dX3_countAhead_35 : decode cX3_countAhead 35 = .ok (.getfield 222, 3) := by decide +kernel
theorem dX3_countAhead_38 : decode cX3_countAhead 38 = .ok (.aload_n 1, 1) := by decide +kernel
theorem dX3_countAhead_39 : decode cX3_countAhead 39 = .ok (.getfield 222, 3) := by decide +kernel
theorem dX3_countAhead_42 : decode cX3_countAhead 42 = .ok (.if_icmp .ge 6, 3) := by decide +kernel
theorem dX3_countAhead_45 : decode cX3_countAhead 45 = .ok (.iinc 2 1, 3) := by decide +kernel
theorem dX3_countAhead_48 : decode cX3_countAhead 48 = .ok (.iinc 3 1, 3) := by decide +kernel
theorem dX3_countAhead_51 : decode cX3_countAhead 51 = .ok (.goto (-47), 3) := by decide +kernel
theorem dX3_countAhead_54 : decode cX3_countAhead 54 = .ok (.iload_n 2, 1) := by decide +kernel
theorem dX3_countAhead_55 : decode cX3_countAhead 55 = .ok (.ireturn, 1) := by decide +kernel
set_option maxRecDepth 20000 in
theorem ggX3_matchFor_X0_matches : GoodIn wsX3_matchFor wsX0_matches := goodIn_r _ [7, 8, 9, 10, 11, 12, 13, 14, 15, 16, 26, 27, 28, 29, 30, 31, 32, 33, 34, 35, 36, 37, 38, 39, 40, 41, 42, 43] (by decide +kernel) (by decide +kernel)
set_option maxRecDepth 20000 in
theorem gX3_matchFor_X0_matches : GoodIn wsX3_matchFor (wsV RX3 251 RX0 yX0_matches wsX0_matches) := goodIn_app (goodIn_of _ (by decide +kernel)) ggX3_matchFor_X0_matches
theorem dX3_matchFor_0 : decode cX3_matchFor 0 = .ok (.aconst_null, 1) := by decide +kernel
theorem dX3_matchFor_1 : decode cX3_matchFor 1 = .ok (.astore_n 2, 1) := by decide +kernel
theorem dX3_matchFor_2 : decode cX3_matchFor 2 = .ok (.iconst 0, 1) := by decide +kernel
theorem dX3_matchFor_3 : decode cX3_matchFor 3 = .ok (.istore_n 3, 1) := by decide +kernel
theorem dX3_matchFor_4 : decode cX3_matchFor 4 = .ok (.iload_n 3, 1) := by decide +kernel
theorem dX3_matchFor_5 : decode cX3_matchFor 5 = .ok (.aload_n 0, 1) := by decide +kernel
theorem dX3_matchFor_6 : decode cX3_matchFor 6 = .ok (.getfield 17, 3) := by decide +kernel
theorem dX3_matchFor_9 : decode cX3_matchFor 9 = .ok (.arraylength, 1) := by decide +kernel
theorem dX3_matchFor_10 : decode cX3_matchFor 10 = .ok (.if_icmp .ge 45, 3) := by decide +kernel
theorem dX3_matchFor_13 : decode cX3_matchFor 13 = .ok (.aload_n 0, 1) := by decide +kernel
theorem dX3_matchFor_14 : decode cX3_matchFor 14 = .ok (.getfield 17, 3) := by decide +kernel
theorem dX3_matchFor_17 : decode cX3_matchFor 17 = .ok (.iload_n 3, 1) := by decide +kernel
theorem dX3_matchFor_18 : decode cX3_matchFor 18 = .ok (.aaload, 1) := by decide +kernel
theorem dX3_matchFor_19 : decode cX3_matchFor 19 = .ok (.astore 4, 2) := by decide +kernel
theorem dX3_matchFor_21 : decode cX3_matchFor 21 = .ok (.aload 4, 2) := by decide +kernel
theorem dX3_matchFor_23 : decode cX3_matchFor 23 = .ok (.aload_n 1, 1) := by decide +kernel
theorem dX3_matchFor_24 : decode cX3_matchFor 24 = .ok (.invokevirtual 251, 3) := by decide +kernel
theorem dX3_matchFor_27 : decode cX3_matchFor 27 = .ok (.ifCond .eq 22, 3) := by decide +kernel
theorem dX3_matchFor_30 : decode cX3_matchFor 30 = .ok (.aload_n 2, 1) := by decide +kernel
theorem dX3_matchFor_31 : decode cX3_matchFor 31 = .ok (.ifnull 15, 3) := by decide +kernel
theorem dX3_matchFor_34 : decode cX3_matchFor 34 = .ok (.aload 4, 2) := by decide +kernel
theorem dX3_matchFor_36 : decode cX3_matchFor 36 = .ok (.getfield 67, 3) := by decide +kernel
theorem dX3_matchFor_39 : decode cX3_matchFor 39 = .ok (.aload_n 2, 1) := by decide +kernel
theorem dX3_matchFor_40 : decode cX3_matchFor 40 = .ok (.getfield 67, 3) := by decide +kernel
theorem dX3_matchFor_43 : decode cX3_matchFor 43 = .ok (.if_icmp .le 6, 3) := by decide +kernel
theorem dX3_matchFor_46 : decode cX3_matchFor 46 = .ok (.aload 4, 2) := by decide +kernel
theorem dX3_matchFor_48 : decode cX3_matchFor 48 = .ok (.astore_n 2, 1) := by decide +kernel
theorem dX3_matchFor_49 : decode cX3_matchFor 49 = .ok (.iinc 3 1, 3) := by decide +kernel
theorem dX3_matchFor_52 : decode cX3_matchFor 52 = .ok (.goto (-48), 3) := by decide +kernel
theorem dX3_matchFor_55 : decode cX3_matchFor 55 = .ok (.aload_n 2, 1) := by decide +kernel
theorem dX3_matchFor_56 : decode cX3_matchFor 56 = .ok (.areturn, 1) := by decide +kernel
theorem dX3_reasonOfState_0 : decode cX3_reasonOfState 0 = .ok (.iload_n 0, 1) := by decide +kernel
theorem dX3_reasonOfState_1 : decode cX3_reasonOfState 1 = .ok (.tableswitch 64 0 7 #[47, 49, 51, 53, 55, 64, 58, 61], 47) := by decide +kernel
theorem dX3_reasonOfState_48 : decode cX3_reasonOfState 48 = .ok (.iconst 1, 1) := by decide +kernel
theorem dX3_reasonOfState_49 : decode cX3_reasonOfState 49 = .ok (.ireturn, 1) := by decide +kernel
theorem dX3_reasonOfState_50 : decode cX3_reasonOfState 50 = .ok (.iconst 3, 1) := by decide +kernel
theorem dX3_reasonOfState_51 : decode cX3_reasonOfState 51 = .ok (.ireturn, 1) := by decide +kernel
theorem dX3_reasonOfState_52 : decode cX3_reasonOfState 52 = .ok (.iconst 4, 1) := by decide +kernel
theorem dX3_reasonOfState_53 : decode cX3_reasonOfState 53 = .ok (.ireturn, 1) := by decide +kernel
theorem dX3_reasonOfState_54 : decode cX3_reasonOfState 54 = .ok (.iconst 5, 1) := by decide +kernel
theorem dX3_reasonOfState_55 : decode cX3_reasonOfState 55 = .ok (.ireturn, 1) := by decide +kernel
theorem dX3_reasonOfState_56 : decode cX3_reasonOfState 56 = .ok (.bipush 6, 2) := by decide +kernel
theorem dX3_reasonOfState_58 : decode cX3_reasonOfState 58 = .ok (.ireturn, 1) := by decide +kernel
theorem dX3_reasonOfState_59 : decode cX3_reasonOfState 59 = .ok (.bipush 7, 2) := by decide +kernel
theorem dX3_reasonOfState_61 : decode cX3_reasonOfState 61 = .ok (.ireturn, 1) := by decide +kernel
theorem dX3_reasonOfState_62 : decode cX3_reasonOfState 62 = .ok (.bipush 8, 2) := by decide +kernel
theorem dX3_reasonOfState_64 : decode cX3_reasonOfState 64 = .ok (.ireturn, 1) := by decide +kernel
theorem dX3_reasonOfState_65 : decode cX3_reasonOfState 65 = .ok (.iconst 0, 1) := by decide +kernel
theorem dX3_reasonOfState_66 : decode cX3_reasonOfState 66 = .ok (.ireturn, 1) := by decide +kernel
theorem dJ9_min_7cf53_0 : decode cJ9_min_7cf53 0 = .ok (.iload_n 0, 1) := by decide +kernel
theorem dJ9_min_7cf53_1 : decode cJ9_min_7cf53 1 = .ok (.iload_n 1, 1) := by decide +kernel
theorem dJ9_min_7cf53_2 : decode cJ9_min_7cf53 2 = .ok (.if_icmp .gt 7, 3) := by decide +kernel
theorem dJ9_min_7cf53_5 : decode cJ9_min_7cf53 5 = .ok (.iload_n 0, 1) := by decide +kernel
theorem dJ9_min_7cf53_6 : decode cJ9_min_7cf53 6 = .ok (.goto 4, 3) := by decide +kernel
theorem dJ9_min_7cf53_9 : decode cJ9_min_7cf53 9 = .ok (.iload_n 1, 1) := by decide +kernel
theorem dJ9_min_7cf53_10 : decode cJ9_min_7cf53 10 = .ok (.ireturn, 1) := by decide +kernel
