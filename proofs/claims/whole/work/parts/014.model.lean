theorem dX4_init_0 : decode cX4_init 0 = .ok (.aload_n 0, 1) := by decide +kernel
theorem dX4_init_1 : decode cX4_init 1 = .ok (.invokespecial 1, 3) := by decide +kernel
theorem dX4_init_4 : decode cX4_init 4 = .ok (.aload_n 0, 1) := by decide +kernel
theorem dX4_init_5 : decode cX4_init 5 = .ok (.iconst 1, 1) := by decide +kernel
theorem dX4_init_6 : decode cX4_init 6 = .ok (.putfield 7, 3) := by decide +kernel
theorem dX4_init_9 : decode cX4_init 9 = .ok (.aload_n 0, 1) := by decide +kernel
theorem dX4_init_10 : decode cX4_init 10 = .ok (.iconst 3, 1) := by decide +kernel
theorem dX4_init_11 : decode cX4_init 11 = .ok (.putfield 13, 3) := by decide +kernel
theorem dX4_init_14 : decode cX4_init 14 = .ok (.aload_n 0, 1) := by decide +kernel
theorem dX4_init_15 : decode cX4_init 15 = .ok (.bipush 16, 2) := by decide +kernel
theorem dX4_init_17 : decode cX4_init 17 = .ok (.newarray .int, 2) := by decide +kernel
theorem dX4_init_19 : decode cX4_init 19 = .ok (.putfield 16, 3) := by decide +kernel
theorem dX4_init_22 : decode cX4_init 22 = .ok (.aload_n 0, 1) := by decide +kernel
theorem dX4_init_23 : decode cX4_init 23 = .ok (.bipush 16, 2) := by decide +kernel
theorem dX4_init_25 : decode cX4_init 25 = .ok (.newarray .int, 2) := by decide +kernel
theorem dX4_init_27 : decode cX4_init 27 = .ok (.putfield 20, 3) := by decide +kernel
theorem dX4_init_30 : decode cX4_init 30 = .ok (.aload_n 0, 1) := by decide +kernel
theorem dX4_init_31 : decode cX4_init 31 = .ok (.bipush 16, 2) := by decide +kernel
theorem dX4_init_33 : decode cX4_init 33 = .ok (.newarray .int, 2) := by decide +kernel
theorem dX4_init_35 : decode cX4_init 35 = .ok (.putfield 23, 3) := by decide +kernel
theorem dX4_init_38 : decode cX4_init 38 = .ok (.aload_n 0, 1) := by decide +kernel
theorem dX4_init_39 : decode cX4_init 39 = .ok (.bipush 16, 2) := by decide +kernel
theorem dX4_init_41 : decode cX4_init 41 = .ok (.newarray .int, 2) := by decide +kernel
theorem dX4_init_43 : decode cX4_init 43 = .ok (.putfield 26, 3) := by decide +kernel
theorem dX4_init_46 : decode cX4_init 46 = .ok (.aload_n 0, 1) := by decide +kernel
theorem dX4_init_47 : decode cX4_init 47 = .ok (.bipush 16, 2) := by decide +kernel
theorem dX4_init_49 : decode cX4_init 49 = .ok (.newarray .int, 2) := by decide +kernel
theorem dX4_init_51 : decode cX4_init 51 = .ok (.putfield 29, 3) := by decide +kernel
theorem dX4_init_54 : decode cX4_init 54 = .ok (.aload_n 0, 1) := by decide +kernel
theorem dX4_init_55 : decode cX4_init 55 = .ok (.bipush 16, 2) := by decide +kernel
theorem dX4_init_57 : decode cX4_init 57 = .ok (.newarray .int, 2) := by decide +kernel
theorem dX4_init_59 : decode cX4_init 59 = .ok (.putfield 32, 3) := by decide +kernel
theorem dX4_init_62 : decode cX4_init 62 = .ok (.aload_n 0, 1) := by decide +kernel
theorem dX4_init_63 : decode cX4_init 63 = .ok (.bipush 16, 2) := by decide +kernel
theorem dX4_init_65 : decode cX4_init 65 = .ok (.newarray .int, 2) := by decide +kernel
theorem dX4_init_67 : decode cX4_init 67 = .ok (.putfield 35, 3) := by decide +kernel
theorem dX4_init_70 : decode cX4_init 70 = .ok (.aload_n 0, 1) := by decide +kernel
theorem dX4_init_71 : decode cX4_init 71 = .ok (.bipush 16, 2) := by decide +kernel
theorem dX4_init_73 : decode cX4_init 73 = .ok (.newarray .int, 2) := by decide +kernel
theorem dX4_init_75 : decode cX4_init 75 = .ok (.putfield 38, 3) := by decide +kernel
theorem dX4_init_78 : decode cX4_init 78 = .ok (.aload_n 0, 1) := by decide +kernel
theorem dX4_init_79 : decode cX4_init 79 = .ok (.bipush 16, 2) := by decide +kernel
theorem dX4_init_81 : decode cX4_init 81 = .ok (.newarray .int, 2) := by decide +kernel
theorem dX4_init_83 : decode cX4_init 83 = .ok (.putfield 41, 3) := by decide +kernel
theorem dX4_init_86 : decode cX4_init 86 = .ok (.aload_n 0, 1) := by decide +kernel
theorem dX4_init_87 : decode cX4_init 87 = .ok (.bipush 8, 2) := by decide +kernel
theorem dX4_init_89 : decode cX4_init 89 = .ok (.newarray .boolean, 2) := by decide +kernel
theorem dX4_init_91 : decode cX4_init 91 = .ok (.putfield 44, 3) := by decide +kernel
theorem dX4_init_94 : decode cX4_init 94 = .ok (.aload_n 0, 1) := by decide +kernel
theorem dX4_init_95 : decode cX4_init 95 = .ok (.bipush 8, 2) := by decide +kernel
theorem dX4_init_97 : decode cX4_init 97 = .ok (.newarray .int, 2) := by decide +kernel
theorem dX4_init_99 : decode cX4_init 99 = .ok (.putfield 48, 3) := by decide +kernel
theorem dX4_init_102 : decode cX4_init 102 = .ok (.aload_n 0, 1) := by decide +kernel
theorem dX4_init_103 : decode cX4_init 103 = .ok (.bipush 8, 2) := by decide +kernel
theorem dX4_init_105 : decode cX4_init 105 = .ok (.newarray .int, 2) := by decide +kernel
theorem dX4_init_107 : decode cX4_init 107 = .ok (.putfield 51, 3) := by decide +kernel
theorem dX4_init_110 : decode cX4_init 110 = .ok (.aload_n 0, 1) := by decide +kernel
theorem dX4_init_111 : decode cX4_init 111 = .ok (.bipush 8, 2) := by decide +kernel
theorem dX4_init_113 : decode cX4_init 113 = .ok (.newarray .int, 2) := by decide +kernel
theorem dX4_init_115 : decode cX4_init 115 = .ok (.putfield 54, 3) := by decide +kernel
theorem dX4_init_118 : decode cX4_init 118 = .ok (.aload_n 0, 1) := by decide +kernel
theorem dX4_init_119 : decode cX4_init 119 = .ok (.bipush 8, 2) := by decide +kernel
theorem dX4_init_121 : decode cX4_init 121 = .ok (.newarray .int, 2) := by decide +kernel
theorem dX4_init_123 : decode cX4_init 123 = .ok (.putfield 57, 3) := by decide +kernel
theorem dX4_init_126 : decode cX4_init 126 = .ok (.aload_n 0, 1) := by decide +kernel
theorem dX4_init_127 : decode cX4_init 127 = .ok (.bipush 8, 2) := by decide +kernel
theorem dX4_init_129 : decode cX4_init 129 = .ok (.newarray .int, 2) := by decide +kernel
theorem dX4_init_131 : decode cX4_init 131 = .ok (.putfield 60, 3) := by decide +kernel
theorem dX4_init_134 : decode cX4_init 134 = .ok (.aload_n 0, 1) := by decide +kernel
theorem dX4_init_135 : decode cX4_init 135 = .ok (.bipush 8, 2) := by decide +kernel
theorem dX4_init_137 : decode cX4_init 137 = .ok (.newarray .int, 2) := by decide +kernel
theorem dX4_init_139 : decode cX4_init 139 = .ok (.putfield 63, 3) := by decide +kernel
theorem dX4_init_142 : decode cX4_init 142 = .ok (.aload_n 0, 1) := by decide +kernel
theorem dX4_init_143 : decode cX4_init 143 = .ok (.iconst 4, 1) := by decide +kernel
theorem dX4_init_144 : decode cX4_init 144 = .ok (.newarray .int, 2) := by decide +kernel
theorem dX4_init_146 : decode cX4_init 146 = .ok (.putfield 66, 3) := by decide +kernel
theorem dX4_init_149 : decode cX4_init 149 = .ok (.aload_n 0, 1) := by decide +kernel
theorem dX4_init_150 : decode cX4_init 150 = .ok (.bipush 40, 2) := by decide +kernel
theorem dX4_init_152 : decode cX4_init 152 = .ok (.newarray .int, 2) := by decide +kernel
theorem dX4_init_154 : decode cX4_init 154 = .ok (.putfield 69, 3) := by decide +kernel
theorem dX4_init_157 : decode cX4_init 157 = .ok (.aload_n 0, 1) := by decide +kernel
theorem dX4_init_158 : decode cX4_init 158 = .ok (.bipush 40, 2) := by decide +kernel
theorem dX4_init_160 : decode cX4_init 160 = .ok (.newarray .int, 2) := by decide +kernel
theorem dX4_init_162 : decode cX4_init 162 = .ok (.putfield 72, 3) := by decide +kernel
theorem dX4_init_165 : decode cX4_init 165 = .ok (.iconst 0, 1) := by decide +kernel
theorem dX4_init_166 : decode cX4_init 166 = .ok (.istore_n 1, 1) := by decide +kernel
theorem dX4_init_167 : decode cX4_init 167 = .ok (.iload_n 1, 1) := by decide +kernel
theorem dX4_init_168 : decode cX4_init 168 = .ok (.iconst 4, 1) := by decide +kernel
theorem dX4_init_169 : decode cX4_init 169 = .ok (.if_icmp .ge 16, 3) := by decide +kernel
theorem dX4_init_172 : decode cX4_init 172 = .ok (.aload_n 0, 1) := by decide +kernel
theorem dX4_init_173 : decode cX4_init 173 = .ok (.getfield 66, 3) := by decide +kernel
theorem dX4_init_176 : decode cX4_init 176 = .ok (.iload_n 1, 1) := by decide +kernel
theorem dX4_init_177 : decode cX4_init 177 = .ok (.iconst 2, 1) := by decide +kernel
theorem dX4_init_178 : decode cX4_init 178 = .ok (.iastore, 1) := by decide +kernel
theorem dX4_init_179 : decode cX4_init 179 = .ok (.iinc 1 1, 3) := by decide +kernel
theorem dX4_init_182 : decode cX4_init 182 = .ok (.goto (-15), 3) := by decide +kernel
theorem dX4_init_185 : decode cX4_init 185 = .ok (.return_, 1) := by decide +kernel
theorem dX4_thrown_0 : decode cX4_thrown 0 = .ok (.aload_n 0, 1) := by decide +kernel
theorem dX4_thrown_1 : decode cX4_thrown 1 = .ok (.getfield 75, 3) := by decide +kernel
theorem dX4_thrown_4 : decode cX4_thrown 4 = .ok (.ireturn, 1) := by decide +kernel
theorem dX4_in_0 : decode cX4_in 0 = .ok (.iload_n 0, 1) := by decide +kernel
theorem dX4_in_1 : decode cX4_in 1 = .ok (.iload_n 1, 1) := by decide +kernel
theorem dX4_in_2 : decode cX4_in 2 = .ok (.if_icmp .lt 12, 3) := by decide +kernel
theorem dX4_in_5 : decode cX4_in 5 = .ok (.iload_n 0, 1) := by decide +kernel
theorem dX4_in_6 : decode cX4_in 6 = .ok (.iload_n 2, 1) := by decide +kernel
theorem dX4_in_7 : decode cX4_in 7 = .ok (.if_icmp .gt 7, 3) := by decide +kernel
theorem dX4_in_10 : decode cX4_in 10 = .ok (.iconst 1, 1) := by decide +kernel
theorem dX4_in_11 : decode cX4_in 11 = .ok (.goto 4, 3) := by decide +kernel
theorem dX4_in_14 : decode cX4_in 14 = .ok (.iconst 0, 1) := by decide +kernel
theorem dX4_in_15 : decode cX4_in 15 = .ok (.ireturn, 1) := by decide +kernel
theorem dX4_goes_0 : decode cX4_goes 0 = .ok (.aload_n 0, 1) := by decide +kernel
theorem dX4_goes_1 : decode cX4_goes 1 = .ok (.iload_n 1, 1) := by decide +kernel
theorem dX4_goes_2 : decode cX4_goes 2 = .ok (.ifCond .ne 7, 3) := by decide +kernel
theorem dX4_goes_5 : decode cX4_goes 5 = .ok (.iconst 1, 1) := by decide +kernel
theorem dX4_goes_6 : decode cX4_goes 6 = .ok (.goto 20, 3) := by decide +kernel
theorem dX4_goes_9 : decode cX4_goes 9 = .ok (.iload_n 2, 1) := by decide +kernel
theorem dX4_goes_10 : decode cX4_goes 10 = .ok (.ifCond .ne 7, 3) := by decide +kernel
theorem dX4_goes_13 : decode cX4_goes 13 = .ok (.iconst 2, 1) := by decide +kernel
theorem dX4_goes_14 : decode cX4_goes 14 = .ok (.goto 12, 3) := by decide +kernel
theorem dX4_goes_17 : decode cX4_goes 17 = .ok (.iload_n 3, 1) := by decide +kernel
theorem dX4_goes_18 : decode cX4_goes 18 = .ok (.ifCond .ne 7, 3) := by decide +kernel
theorem dX4_goes_21 : decode cX4_goes 21 = .ok (.iconst 3, 1) := by decide +kernel
theorem dX4_goes_22 : decode cX4_goes 22 = .ok (.goto 4, 3) := by decide +kernel
theorem dX4_goes_25 : decode cX4_goes 25 = .ok (.iconst 0, 1) := by decide +kernel
theorem dX4_goes_26 : decode cX4_goes 26 = .ok (.putfield 75, 3) := by decide +kernel
theorem dX4_goes_29 : decode cX4_goes 29 = .ok (.aload_n 0, 1) := by decide +kernel
theorem dX4_goes_30 : decode cX4_goes 30 = .ok (.getfield 75, 3) := by decide +kernel
theorem dX4_goes_33 : decode cX4_goes 33 = .ok (.ifCond .ne 7, 3) := by decide +kernel
theorem dX4_goes_36 : decode cX4_goes 36 = .ok (.iconst 1, 1) := by decide +kernel
theorem dX4_goes_37 : decode cX4_goes 37 = .ok (.goto 4, 3) := by decide +kernel
theorem dX4_goes_40 : decode cX4_goes 40 = .ok (.iconst 0, 1) := by decide +kernel
theorem dX4_goes_41 : decode cX4_goes 41 = .ok (.ireturn, 1) := by decide +kernel
theorem dX4_told_0 : decode cX4_told 0 = .ok (.aload_n 0, 1) := by decide +kernel
theorem dX4_told_1 : decode cX4_told 1 = .ok (.iconst 0, 1) := by decide +kernel
theorem dX4_told_2 : decode cX4_told 2 = .ok (.putfield 75, 3) := by decide +kernel
theorem dX4_told_5 : decode cX4_told 5 = .ok (.iload_n 1, 1) := by decide +kernel
theorem dX4_told_6 : decode cX4_told 6 = .ok (.ireturn, 1) := by decide +kernel
set_option maxRecDepth 20000 in
theorem ggX4_isMachine_X4_in : GoodIn wsX4_isMachine wsX4_in := goodIn_r _ [4] (by decide +kernel) (by decide +kernel)
set_option maxRecDepth 20000 in
theorem gX4_isMachine_X4_in : GoodIn wsX4_isMachine (va_wsS RX4 78 yX4_in wsX4_in) := goodIn_app (goodIn_of _ (by decide +kernel)) ggX4_isMachine_X4_in
theorem dX4_isMachine_0 : decode cX4_isMachine 0 = .ok (.iload_n 0, 1) := by decide +kernel
theorem dX4_isMachine_1 : decode cX4_isMachine 1 = .ok (.iconst 0, 1) := by decide +kernel
theorem dX4_isMachine_2 : decode cX4_isMachine 2 = .ok (.bipush 15, 2) := by decide +kernel
theorem dX4_isMachine_4 : decode cX4_isMachine 4 = .ok (.invokestatic 78, 3) := by decide +kernel
theorem dX4_isMachine_7 : decode cX4_isMachine 7 = .ok (.ireturn, 1) := by decide +kernel
set_option maxRecDepth 20000 in
theorem ggX4_isRack_X4_in : GoodIn wsX4_isRack wsX4_in := goodIn_r _ [4] (by decide +kernel) (by decide +kernel)
set_option maxRecDepth 20000 in
theorem gX4_isRack_X4_in : GoodIn wsX4_isRack (va_wsS RX4 78 yX4_in wsX4_in) := goodIn_app (goodIn_of _ (by decide +kernel)) ggX4_isRack_X4_in
theorem dX4_isRack_0 : decode cX4_isRack 0 = .ok (.iload_n 0, 1) := by decide +kernel
theorem dX4_isRack_1 : decode cX4_isRack 1 = .ok (.iconst 0, 1) := by decide +kernel
theorem dX4_isRack_2 : decode cX4_isRack 2 = .ok (.iconst 3, 1) := by decide +kernel
theorem dX4_isRack_3 : decode cX4_isRack 3 = .ok (.invokestatic 78, 3) := by decide +kernel
theorem dX4_isRack_6 : decode cX4_isRack 6 = .ok (.ireturn, 1) := by decide +kernel
set_option maxRecDepth 20000 in
theorem ggX4_isImage_X4_in : GoodIn wsX4_isImage wsX4_in := goodIn_r _ [5] (by decide +kernel) (by decide +kernel)
set_option maxRecDepth 20000 in
theorem gX4_isImage_X4_in : GoodIn wsX4_isImage (va_wsS RX4 78 yX4_in wsX4_in) := goodIn_app (goodIn_of _ (by decide +kernel)) ggX4_isImage_X4_in
theorem dX4_isImage_0 : decode cX4_isImage 0 = .ok (.iload_n 1, 1) := by decide +kernel
theorem dX4_isImage_1 : decode cX4_isImage 1 = .ok (.iconst 0, 1) := by decide +kernel
theorem dX4_isImage_2 : decode cX4_isImage 2 = .ok (.bipush 7, 2) := by decide +kernel
theorem dX4_isImage_4 : decode cX4_isImage 4 = .ok (.invokestatic 78, 3) := by decide +kernel
theorem dX4_isImage_7 : decode cX4_isImage 7 = .ok (.ifCond .eq 16, 3) := by decide +kernel
theorem dX4_isImage_10 : decode cX4_isImage 10 = .ok (.aload_n 0, 1) := by decide +kernel
theorem dX4_isImage_11 : decode cX4_isImage 11 = .ok (.getfield 44, 3) := by decide +kernel
theorem dX4_isImage_14 : decode cX4_isImage 14 = .ok (.iload_n 1, 1) := by decide +kernel
theorem dX4_isImage_15 : decode cX4_isImage 15 = .ok (.baload, 1) := by decide +kernel
theorem dX4_isImage_16 : decode cX4_isImage 16 = .ok (.ifCond .eq 7, 3) := by decide +kernel
theorem dX4_isImage_19 : decode cX4_isImage 19 = .ok (.iconst 1, 1) := by decide +kernel
theorem dX4_isImage_20 : decode cX4_isImage 20 = .ok (.goto 4, 3) := by decide +kernel
theorem dX4_isImage_23 : decode cX4_isImage 23 = .ok (.iconst 0, 1) := by decide +kernel
theorem dX4_isImage_24 : decode cX4_isImage 24 = .ok (.ireturn, 1) := by decide +kernel
theorem dX4_turns_0 : decode cX4_turns 0 = .ok (.aload_n 0, 1) := by decide +kernel
theorem dX4_turns_1 : decode cX4_turns 1 = .ok (.getfield 69, 3) := by decide +kernel
theorem dX4_turns_4 : decode cX4_turns 4 = .ok (.aload_n 0, 1) := by decide +kernel
theorem dX4_turns_5 : decode cX4_turns 5 = .ok (.getfield 82, 3) := by decide +kernel
theorem dX4_turns_8 : decode cX4_turns 8 = .ok (.bipush 40, 2) := by decide +kernel
theorem dX4_turns_10 : decode cX4_turns 10 = .ok (.irem, 1) := by decide +kernel
theorem dX4_turns_11 : decode cX4_turns 11 = .ok (.iload_n 1, 1) := by decide +kernel
theorem dX4_turns_12 : decode cX4_turns 12 = .ok (.iastore, 1) := by decide +kernel
theorem dX4_turns_13 : decode cX4_turns 13 = .ok (.aload_n 0, 1) := by decide +kernel
theorem dX4_turns_14 : decode cX4_turns 14 = .ok (.getfield 72, 3) := by decide +kernel
theorem dX4_turns_17 : decode cX4_turns 17 = .ok (.aload_n 0, 1) := by decide +kernel
theorem dX4_turns_18 : decode cX4_turns 18 = .ok (.getfield 82, 3) := by decide +kernel
theorem dX4_turns_21 : decode cX4_turns 21 = .ok (.bipush 40, 2) := by decide +kernel
theorem dX4_turns_23 : decode cX4_turns 23 = .ok (.irem, 1) := by decide +kernel
theorem dX4_turns_24 : decode cX4_turns 24 = .ok (.aload_n 0, 1) := by decide +kernel
theorem dX4_turns_25 : decode cX4_turns 25 = .ok (.getfield 16, 3) := by decide +kernel
theorem dX4_turns_28 : decode cX4_turns 28 = .ok (.iload_n 1, 1) := by decide +kernel
theorem dX4_turns_29 : decode cX4_turns 29 = .ok (.iaload, 1) := by decide +kernel
theorem dX4_turns_30 : decode cX4_turns 30 = .ok (.iastore, 1) := by decide +kernel
theorem dX4_turns_31 : decode cX4_turns 31 = .ok (.aload_n 0, 1) := by decide +kernel
theorem dX4_turns_32 : decode cX4_turns 32 = .ok (.dup, 1) := by decide +kernel
theorem dX4_turns_33 : decode cX4_turns 33 = .ok (.getfield 82, 3) := by decide +kernel
theorem dX4_turns_36 : decode cX4_turns 36 = .ok (.iconst 1, 1) := by decide +kernel
theorem dX4_turns_37 : decode cX4_turns 37 = .ok (.iadd, 1) := by decide +kernel
theorem dX4_turns_38 : decode cX4_turns 38 = .ok (.putfield 82, 3) := by decide +kernel
theorem dX4_turns_41 : decode cX4_turns 41 = .ok (.aload_n 0, 1) := by decide +kernel
theorem dX4_turns_42 : decode cX4_turns 42 = .ok (.getfield 16, 3) := by decide +kernel
theorem dX4_turns_45 : decode cX4_turns 45 = .ok (.iload_n 1, 1) := by decide +kernel
theorem dX4_turns_46 : decode cX4_turns 46 = .ok (.iload_n 2, 1) := by decide +kernel
theorem dX4_turns_47 : decode cX4_turns 47 = .ok (.iastore, 1) := by decide +kernel
theorem dX4_turns_48 : decode cX4_turns 48 = .ok (.return_, 1) := by decide +kernel
theorem dX4_stands_0 : decode cX4_stands 0 = .ok (.aload_n 0, 1) := by decide +kernel
theorem dX4_stands_1 : decode cX4_stands 1 = .ok (.getfield 32, 3) := by decide +kernel
theorem dX4_stands_4 : decode cX4_stands 4 = .ok (.iload_n 1, 1) := by decide +kernel
theorem dX4_stands_5 : decode cX4_stands 5 = .ok (.aload_n 0, 1) := by decide +kernel
theorem dX4_stands_6 : decode cX4_stands 6 = .ok (.getfield 85, 3) := by decide +kernel
theorem dX4_stands_9 : decode cX4_stands 9 = .ok (.iastore, 1) := by decide +kernel
theorem dX4_stands_10 : decode cX4_stands 10 = .ok (.aload_n 0, 1) := by decide +kernel
theorem dX4_stands_11 : decode cX4_stands 11 = .ok (.dup, 1) := by decide +kernel
theorem dX4_stands_12 : decode cX4_stands 12 = .ok (.getfield 85, 3) := by decide +kernel
theorem dX4_stands_15 : decode cX4_stands 15 = .ok (.iconst 1, 1) := by decide +kernel
theorem dX4_stands_16 : decode cX4_stands 16 = .ok (.iadd, 1) := by decide +kernel
theorem dX4_stands_17 : decode cX4_stands 17 = .ok (.putfield 85, 3) := by decide +kernel
theorem dX4_stands_20 : decode cX4_stands 20 = .ok (.return_, 1) := by decide +kernel
set_option maxRecDepth 20000 in
theorem ggX4_queues_X4_turns : GoodIn wsX4_queues wsX4_turns := goodIn_r _ [5, 6, 7, 8, 9, 16, 17, 18, 19, 20, 21, 22, 23, 24, 25, 26, 27, 28, 29, 30, 31, 32, 33, 34, 35, 36, 37, 38, 39, 40, 41] (by decide +kernel) (by decide +kernel)
set_option maxRecDepth 20000 in
theorem gX4_queues_X4_turns : GoodIn wsX4_queues (wsV RX4 88 RX4 yX4_turns wsX4_turns) := goodIn_app (goodIn_of _ (by decide +kernel)) ggX4_queues_X4_turns
set_option maxRecDepth 20000 in
theorem ggX4_queues_X4_stands : GoodIn wsX4_queues wsX4_stands := goodIn_r _ [13, 14, 15, 16, 17, 18, 19, 20, 21, 22, 23, 24, 25, 26, 27, 28, 29, 30, 31, 32, 33, 34, 35, 36, 37, 38, 39, 40, 41] (by decide +kernel) (by decide +kernel)
set_option maxRecDepth 20000 in
theorem gX4_queues_X4_stands : GoodIn wsX4_queues (wsV RX4 92 RX4 yX4_stands wsX4_stands) := goodIn_app (goodIn_of _ (by decide +kernel)) ggX4_queues_X4_stands
theorem dX4_queues_0 : decode cX4_queues 0 = .ok (.aload_n 0, 1) := by decide +kernel
theorem dX4_queues_1 : decode cX4_queues 1 = .ok (.iload_n 1, 1) := by decide +kernel
theorem dX4_queues_2 : decode cX4_queues 2 = .ok (.iconst 2, 1) := by decide +kernel
theorem dX4_queues_3 : decode cX4_queues 3 = .ok (.invokevirtual 88, 3) := by decide +kernel
theorem dX4_queues_6 : decode cX4_queues 6 = .ok (.aload_n 0, 1) := by decide +kernel
theorem dX4_queues_7 : decode cX4_queues 7 = .ok (.iload_n 1, 1) := by decide +kernel
theorem dX4_queues_8 : decode cX4_queues 8 = .ok (.invokevirtual 92, 3) := by decide +kernel
theorem dX4_queues_11 : decode cX4_queues 11 = .ok (.return_, 1) := by decide +kernel
set_option maxRecDepth 20000 in
theorem ggX4_fails_X4_turns : GoodIn wsX4_fails wsX4_turns := goodIn_r _ [10, 11, 12, 13, 14, 15, 16, 17, 18, 19, 20, 21, 22, 23, 24, 25, 26, 27, 28, 29, 30, 31, 32, 33, 34, 35, 36, 37, 38, 39, 40] (by decide +kernel) (by decide +kernel)
set_option maxRecDepth 20000 in
theorem gX4_fails_X4_turns : GoodIn wsX4_fails (wsV RX4 88 RX4 yX4_turns wsX4_turns) := goodIn_app (goodIn_of _ (by decide +kernel)) ggX4_fails_X4_turns
theorem dX4_fails_0 : decode cX4_fails 0 = .ok (.aload_n 0, 1) := by decide +kernel
theorem dX4_fails_1 : decode cX4_fails 1 = .ok (.getfield 41, 3) := by decide +kernel
theorem dX4_fails_4 : decode cX4_fails 4 = .ok (.iload_n 1, 1) := by decide +kernel
theorem dX4_fails_5 : decode cX4_fails 5 = .ok (.dup2, 1) := by decide +kernel
theorem dX4_fails_6 : decode cX4_fails 6 = .ok (.iaload, 1) := by decide +kernel
theorem dX4_fails_7 : decode cX4_fails 7 = .ok (.iconst 1, 1) := by decide +kernel
theorem dX4_fails_8 : decode cX4_fails 8 = .ok (.iadd, 1) := by decide +kernel
theorem dX4_fails_9 : decode cX4_fails 9 = .ok (.iastore, 1) := by decide +kernel
theorem dX4_fails_10 : decode cX4_fails 10 = .ok (.aload_n 0, 1) := by decide +kernel
theorem dX4_fails_11 : decode cX4_fails 11 = .ok (.getfield 41, 3) := by decide +kernel
theorem dX4_fails_14 : decode cX4_fails 14 = .ok (.iload_n 1, 1) := by decide +kernel
theorem dX4_fails_15 : decode cX4_fails 15 = .ok (.iaload, 1) := by decide +kernel
theorem dX4_fails_16 : decode cX4_fails 16 = .ok (.aload_n 0, 1) := by decide +kernel
theorem dX4_fails_17 : decode cX4_fails 17 = .ok (.getfield 13, 3) := by decide +kernel
theorem dX4_fails_20 : decode cX4_fails 20 = .ok (.if_icmp .lt 7, 3) := by decide +kernel
theorem dX4_fails_23 : decode cX4_fails 23 = .ok (.iconst 1, 1) := by decide +kernel
theorem dX4_fails_24 : decode cX4_fails 24 = .ok (.goto 4, 3) := by decide +kernel
theorem dX4_fails_27 : decode cX4_fails 27 = .ok (.iconst 0, 1) := by decide +kernel
theorem dX4_fails_28 : decode cX4_fails 28 = .ok (.istore_n 2, 1) := by decide +kernel
theorem dX4_fails_29 : decode cX4_fails 29 = .ok (.aload_n 0, 1) := by decide +kernel
theorem dX4_fails_30 : decode cX4_fails 30 = .ok (.iload_n 1, 1) := by decide +kernel
theorem dX4_fails_31 : decode cX4_fails 31 = .ok (.iload_n 2, 1) := by decide +kernel
theorem dX4_fails_32 : decode cX4_fails 32 = .ok (.ifCond .eq 8, 3) := by decide +kernel
theorem dX4_fails_35 : decode cX4_fails 35 = .ok (.bipush 7, 2) := by decide +kernel
theorem dX4_fails_37 : decode cX4_fails 37 = .ok (.goto 4, 3) := by decide +kernel
theorem dX4_fails_40 : decode cX4_fails 40 = .ok (.iconst 4, 1) := by decide +kernel
theorem dX4_fails_41 : decode cX4_fails 41 = .ok (.invokevirtual 88, 3) := by decide +kernel
theorem dX4_fails_44 : decode cX4_fails 44 = .ok (.iload_n 2, 1) := by decide +kernel
theorem dX4_fails_45 : decode cX4_fails 45 = .ok (.ifCond .ne 44, 3) := by decide +kernel
theorem dX4_fails_48 : decode cX4_fails 48 = .ok (.aload_n 0, 1) := by decide +kernel
theorem dX4_fails_49 : decode cX4_fails 49 = .ok (.getfield 7, 3) := by decide +kernel
theorem dX4_fails_52 : decode cX4_fails 52 = .ok (.istore_n 3, 1) := by decide +kernel
theorem dX4_fails_53 : decode cX4_fails 53 = .ok (.iconst 1, 1) := by decide +kernel
theorem dX4_fails_54 : decode cX4_fails 54 = .ok (.istore 4, 2) := by decide +kernel
theorem dX4_fails_56 : decode cX4_fails 56 = .ok (.iload 4, 2) := by decide +kernel
theorem dX4_fails_58 : decode cX4_fails 58 = .ok (.aload_n 0, 1) := by decide +kernel
theorem dX4_fails_59 : decode cX4_fails 59 = .ok (.getfield 41, 3) := by decide +kernel
theorem dX4_fails_62 : decode cX4_fails 62 = .ok (.iload_n 1, 1) := by decide +kernel
theorem dX4_fails_63 : decode cX4_fails 63 = .ok (.iaload, 1) := by decide +kernel
theorem dX4_fails_64 : decode cX4_fails 64 = .ok (.if_icmp .ge 13, 3) := by decide +kernel
theorem dX4_fails_67 : decode cX4_fails 67 = .ok (.iload_n 3, 1) := by decide +kernel
theorem dX4_fails_68 : decode cX4_fails 68 = .ok (.iconst 2, 1) := by decide +kernel
theorem dX4_fails_69 : decode cX4_fails 69 = .ok (.imul, 1) := by decide +kernel
theorem dX4_fails_70 : decode cX4_fails 70 = .ok (.istore_n 3, 1) := by decide +kernel
theorem dX4_fails_71 : decode cX4_fails 71 = .ok (.iinc 4 1, 3) := by decide +kernel
theorem dX4_fails_74 : decode cX4_fails 74 = .ok (.goto (-18), 3) := by decide +kernel
theorem dX4_fails_77 : decode cX4_fails 77 = .ok (.aload_n 0, 1) := by decide +kernel
theorem dX4_fails_78 : decode cX4_fails 78 = .ok (.getfield 38, 3) := by decide +kernel
theorem dX4_fails_81 : decode cX4_fails 81 = .ok (.iload_n 1, 1) := by decide +kernel
theorem dX4_fails_82 : decode cX4_fails 82 = .ok (.aload_n 0, 1) := by decide +kernel
theorem dX4_fails_83 : decode cX4_fails 83 = .ok (.getfield 96, 3) := by decide +kernel
theorem dX4_fails_86 : decode cX4_fails 86 = .ok (.iload_n 3, 1) := by decide +kernel
theorem dX4_fails_87 : decode cX4_fails 87 = .ok (.iadd, 1) := by decide +kernel
theorem dX4_fails_88 : decode cX4_fails 88 = .ok (.iastore, 1) := by decide +kernel
theorem dX4_fails_89 : decode cX4_fails 89 = .ok (.return_, 1) := by decide +kernel
set_option maxRecDepth 20000 in
theorem ggX4_wiped_X4_turns : GoodIn wsX4_wiped wsX4_turns := goodIn_r _ [6, 7, 8, 9, 10, 11, 12, 13, 14, 15, 16, 17, 18, 19, 20, 21, 22, 23, 24, 25, 26, 27, 28, 29, 30, 31, 32, 33, 34, 35, 36] (by decide +kernel) (by decide +kernel)
set_option maxRecDepth 20000 in
theorem gX4_wiped_X4_turns : GoodIn wsX4_wiped (wsV RX4 88 RX4 yX4_turns wsX4_turns) := goodIn_app (goodIn_of _ (by decide +kernel)) ggX4_wiped_X4_turns
theorem dX4_wiped_0 : decode cX4_wiped 0 = .ok (.aload_n 0, 1) := by decide +kernel
theorem dX4_wiped_1 : decode cX4_wiped 1 = .ok (.iload_n 1, 1) := by decide +kernel
theorem dX4_wiped_2 : decode cX4_wiped 2 = .ok (.iconst 1, 1) := by decide +kernel
theorem dX4_wiped_3 : decode cX4_wiped 3 = .ok (.invokevirtual 88, 3) := by decide +kernel
theorem dX4_wiped_6 : decode cX4_wiped 6 = .ok (.aload_n 0, 1) := by decide +kernel
theorem dX4_wiped_7 : decode cX4_wiped 7 = .ok (.dup, 1) := by decide +kernel
theorem dX4_wiped_8 : decode cX4_wiped 8 = .ok (.getfield 99, 3) := by decide +kernel
theorem dX4_wiped_11 : decode cX4_wiped 11 = .ok (.iconst 1, 1) := by decide +kernel
theorem dX4_wiped_12 : decode cX4_wiped 12 = .ok (.iadd, 1) := by decide +kernel
theorem dX4_wiped_13 : decode cX4_wiped 13 = .ok (.putfield 99, 3) := by decide +kernel
theorem dX4_wiped_16 : decode cX4_wiped 16 = .ok (.return_, 1) := by decide +kernel
theorem dX4_matches_0 : decode cX4_matches 0 = .ok (.aload_n 0, 1) := by decide +kernel
theorem dX4_matches_1 : decode cX4_matches 1 = .ok (.getfield 44, 3) := by decide +kernel
theorem dX4_matches_4 : decode cX4_matches 4 = .ok (.iload_n 1, 1) := by decide +kernel
theorem dX4_matches_5 : decode cX4_matches 5 = .ok (.baload, 1) := by decide +kernel
theorem dX4_matches_6 : decode cX4_matches 6 = .ok (.ifCond .eq 50, 3) := by decide +kernel
theorem dX4_matches_9 : decode cX4_matches 9 = .ok (.aload_n 0, 1) := by decide +kernel
theorem dX4_matches_10 : decode cX4_matches 10 = .ok (.getfield 16, 3) := by decide +kernel
theorem dX4_matches_13 : decode cX4_matches 13 = .ok (.iload_n 2, 1) := by decide +kernel
theorem dX4_matches_14 : decode cX4_matches 14 = .ok (.iaload, 1) := by decide +kernel
theorem dX4_matches_15 : decode cX4_matches 15 = .ok (.ifCond .eq 41, 3) := by decide +kernel
theorem dX4_matches_18 : decode cX4_matches 18 = .ok (.aload_n 0, 1) := by decide +kernel
theorem dX4_matches_19 : decode cX4_matches 19 = .ok (.getfield 23, 3) := by decide +kernel
theorem dX4_matches_22 : decode cX4_matches 22 = .ok (.iload_n 2, 1) := by decide +kernel
theorem dX4_matches_23 : decode cX4_matches 23 = .ok (.iaload, 1) := by decide +kernel
theorem dX4_matches_24 : decode cX4_matches 24 = .ok (.aload_n 0, 1) := by decide +kernel
theorem dX4_matches_25 : decode cX4_matches 25 = .ok (.getfield 51, 3) := by decide +kernel
theorem dX4_matches_28 : decode cX4_matches 28 = .ok (.iload_n 1, 1) := by decide +kernel
theorem dX4_matches_29 : decode cX4_matches 29 = .ok (.iaload, 1) := by decide +kernel
theorem dX4_matches_30 : decode cX4_matches 30 = .ok (.if_icmp .lt 26, 3) := by decide +kernel
theorem dX4_matches_33 : decode cX4_matches 33 = .ok (.aload_n 0, 1) := by decide +kernel
theorem dX4_matches_34 : decode cX4_matches 34 = .ok (.getfield 54, 3) := by decide +kernel
theorem dX4_matches_37 : decode cX4_matches 37 = .ok (.iload_n 1, 1) := by decide +kernel
theorem dX4_matches_38 : decode cX4_matches 38 = .ok (.iaload, 1) := by decide +kernel
theorem dX4_matches_39 : decode cX4_matches 39 = .ok (.aload_n 0, 1) := by decide +kernel
theorem dX4_matches_40 : decode cX4_matches 40 = .ok (.getfield 26, 3) := by decide +kernel
theorem dX4_matches_43 : decode cX4_matches 43 = .ok (.iload_n 2, 1) := by decide +kernel
theorem dX4_matches_44 : decode cX4_matches 44 = .ok (.iaload, 1) := by decide +kernel
theorem dX4_matches_45 : decode cX4_matches 45 = .ok (.ishr, 1) := by decide +kernel
theorem dX4_matches_46 : decode cX4_matches 46 = .ok (.iconst 1, 1) := by decide +kernel
theorem dX4_matches_47 : decode cX4_matches 47 = .ok (.iand, 1) := by decide +kernel
theorem dX4_matches_48 : decode cX4_matches 48 = .ok (.iconst 1, 1) := by decide +kernel
theorem dX4_matches_49 : decode cX4_matches 49 = .ok (.if_icmp .ne 7, 3) := by decide +kernel
theorem dX4_matches_52 : decode cX4_matches 52 = .ok (.iconst 1, 1) := by decide +kernel
theorem dX4_matches_53 : decode cX4_matches 53 = .ok (.goto 4, 3) := by decide +kernel
theorem dX4_matches_56 : decode cX4_matches 56 = .ok (.iconst 0, 1) := by decide +kernel
theorem dX4_matches_57 : decode cX4_matches 57 = .ok (.istore_n 3, 1) := by decide +kernel
theorem dX4_matches_58 : decode cX4_matches 58 = .ok (.iload_n 3, 1) := by decide +kernel
theorem dX4_matches_59 : decode cX4_matches 59 = .ok (.ifCond .eq 45, 3) := by decide +kernel
theorem dX4_matches_62 : decode cX4_matches 62 = .ok (.aload_n 0, 1) := by decide +kernel
theorem dX4_matches_63 : decode cX4_matches 63 = .ok (.getfield 29, 3) := by decide +kernel
theorem dX4_matches_66 : decode cX4_matches 66 = .ok (.iload_n 2, 1) := by decide +kernel
theorem dX4_matches_67 : decode cX4_matches 67 = .ok (.iaload, 1) := by decide +kernel
theorem dX4_matches_68 : decode cX4_matches 68 = .ok (.aload_n 0, 1) := by decide +kernel
theorem dX4_matches_69 : decode cX4_matches 69 = .ok (.getfield 57, 3) := by decide +kernel
theorem dX4_matches_72 : decode cX4_matches 72 = .ok (.iload_n 1, 1) := by decide +kernel
theorem dX4_matches_73 : decode cX4_matches 73 = .ok (.iaload, 1) := by decide +kernel
theorem dX4_matches_74 : decode cX4_matches 74 = .ok (.iand, 1) := by decide +kernel
theorem dX4_matches_75 : decode cX4_matches 75 = .ok (.aload_n 0, 1) := by decide +kernel
theorem dX4_matches_76 : decode cX4_matches 76 = .ok (.getfield 57, 3) := by decide +kernel
theorem dX4_matches_79 : decode cX4_matches 79 = .ok (.iload_n 1, 1) := by decide +kernel
theorem dX4_matches_80 : decode cX4_matches 80 = .ok (.iaload, 1) := by decide +kernel
theorem dX4_matches_81 : decode cX4_matches 81 = .ok (.if_icmp .ne 23, 3) := by decide +kernel
theorem dX4_matches_84 : decode cX4_matches 84 = .ok (.aload_n 0, 1) := by decide +kernel
theorem dX4_matches_85 : decode cX4_matches 85 = .ok (.getfield 29, 3) := by decide +kernel
theorem dX4_matches_88 : decode cX4_matches 88 = .ok (.iload_n 2, 1) := by decide +kernel
theorem dX4_matches_89 : decode cX4_matches 89 = .ok (.iaload, 1) := by decide +kernel
theorem dX4_matches_90 : decode cX4_matches 90 = .ok (.aload_n 0, 1) := by decide +kernel
theorem dX4_matches_91 : decode cX4_matches 91 = .ok (.getfield 60, 3) := by decide +kernel
theorem dX4_matches_94 : decode cX4_matches 94 = .ok (.iload_n 1, 1) := by decide +kernel
theorem dX4_matches_95 : decode cX4_matches 95 = .ok (.iaload, 1) := by decide +kernel
theorem dX4_matches_96 : decode cX4_matches 96 = .ok (.iand, 1) := by decide +kernel
theorem dX4_matches_97 : decode cX4_matches 97 = .ok (.ifCond .ne 7, 3) := by decide +kernel
theorem dX4_matches_100 : decode cX4_matches 100 = .ok (.iconst 1, 1) := by decide +kernel
theorem dX4_matches_101 : decode cX4_matches 101 = .ok (.goto 4, 3) := by decide +kernel
theorem dX4_matches_104 : decode cX4_matches 104 = .ok (.iconst 0, 1) := by decide +kernel
theorem dX4_matches_105 : decode cX4_matches 105 = .ok (.ireturn, 1) := by decide +kernel
set_option maxRecDepth 20000 in
theorem ggX4_match_X4_matches : GoodIn wsX4_match wsX4_matches := goodIn_r _ [6, 7, 8, 9, 10, 11, 12, 13, 14, 15, 16, 17, 18, 19, 20, 21, 22, 23, 24, 25, 26, 27, 28, 29, 30, 31, 32, 33, 34, 35, 36, 37, 38, 39, 40, 41] (by decide +kernel) (by decide +kernel)
set_option maxRecDepth 20000 in
theorem gX4_match_X4_matches : GoodIn wsX4_match (wsV RX4 102 RX4 yX4_matches wsX4_matches) := goodIn_app (goodIn_of _ (by decide +kernel)) ggX4_match_X4_matches
theorem dX4_match_0 : decode cX4_match 0 = .ok (.iconst (-1), 1) := by decide +kernel
theorem dX4_match_1 : decode cX4_match 1 = .ok (.istore_n 2, 1) := by decide +kernel
theorem dX4_match_2 : decode cX4_match 2 = .ok (.iconst 0, 1) := by decide +kernel
theorem dX4_match_3 : decode cX4_match 3 = .ok (.istore_n 3, 1) := by decide +kernel
theorem dX4_match_4 : decode cX4_match 4 = .ok (.iload_n 3, 1) := by decide +kernel
theorem dX4_match_5 : decode cX4_match 5 = .ok (.bipush 8, 2) := by decide +kernel
theorem dX4_match_7 : decode cX4_match 7 = .ok (.if_icmp .ge 44, 3) := by decide +kernel
theorem dX4_match_10 : decode cX4_match 10 = .ok (.aload_n 0, 1) := by decide +kernel
theorem dX4_match_11 : decode cX4_match 11 = .ok (.iload_n 3, 1) := by decide +kernel
theorem dX4_match_12 : decode cX4_match 12 = .ok (.iload_n 1, 1) := by decide +kernel
theorem dX4_match_13 : decode cX4_match 13 = .ok (.invokevirtual 102, 3) := by decide +kernel
theorem dX4_match_16 : decode cX4_match 16 = .ok (.ifCond .eq 27, 3) := by decide +kernel
theorem dX4_match_19 : decode cX4_match 19 = .ok (.iload_n 2, 1) := by decide +kernel
theorem dX4_match_20 : decode cX4_match 20 = .ok (.iconst (-1), 1) := by decide +kernel
theorem dX4_match_21 : decode cX4_match 21 = .ok (.if_icmp .eq 18, 3) := by decide +kernel
theorem dX4_match_24 : decode cX4_match 24 = .ok (.aload_n 0, 1) := by decide +kernel
theorem dX4_match_25 : decode cX4_match 25 = .ok (.getfield 48, 3) := by decide +kernel
theorem dX4_match_28 : decode cX4_match 28 = .ok (.iload_n 3, 1) := by decide +kernel
theorem dX4_match_29 : decode cX4_match 29 = .ok (.iaload, 1) := by decide +kernel
theorem dX4_match_30 : decode cX4_match 30 = .ok (.aload_n 0, 1) := by decide +kernel
theorem dX4_match_31 : decode cX4_match 31 = .ok (.getfield 48, 3) := by decide +kernel
theorem dX4_match_34 : decode cX4_match 34 = .ok (.iload_n 2, 1) := by decide +kernel
theorem dX4_match_35 : decode cX4_match 35 = .ok (.iaload, 1) := by decide +kernel
theorem dX4_match_36 : decode cX4_match 36 = .ok (.if_icmp .le 7, 3) := by decide +kernel
theorem dX4_match_39 : decode cX4_match 39 = .ok (.iload_n 3, 1) := by decide +kernel
theorem dX4_match_40 : decode cX4_match 40 = .ok (.goto 4, 3) := by decide +kernel
theorem dX4_match_43 : decode cX4_match 43 = .ok (.iload_n 2, 1) := by decide +kernel
theorem dX4_match_44 : decode cX4_match 44 = .ok (.istore_n 2, 1) := by decide +kernel
theorem dX4_match_45 : decode cX4_match 45 = .ok (.iinc 3 1, 3) := by decide +kernel
theorem dX4_match_48 : decode cX4_match 48 = .ok (.goto (-44), 3) := by decide +kernel
theorem dX4_match_51 : decode cX4_match 51 = .ok (.iload_n 2, 1) := by decide +kernel
theorem dX4_match_52 : decode cX4_match 52 = .ok (.ireturn, 1) := by decide +kernel
theorem dX4_atWork_0 : decode cX4_atWork 0 = .ok (.iconst 0, 1) := by decide +kernel
theorem dX4_atWork_1 : decode cX4_atWork 1 = .ok (.istore_n 2, 1) := by decide +kernel
theorem dX4_atWork_2 : decode cX4_atWork 2 = .ok (.iconst 0, 1) := by decide +kernel
theorem dX4_atWork_3 : decode cX4_atWork 3 = .ok (.istore_n 3, 1) := by decide +kernel
theorem dX4_atWork_4 : decode cX4_atWork 4 = .ok (.iload_n 3, 1) := by decide +kernel
theorem dX4_atWork_5 : decode cX4_atWork 5 = .ok (.bipush 16, 2) := by decide +kernel
theorem dX4_atWork_7 : decode cX4_atWork 7 = .ok (.if_icmp .ge 37, 3) := by decide +kernel
theorem dX4_atWork_10 : decode cX4_atWork 10 = .ok (.iload_n 2, 1) := by decide +kernel
theorem dX4_atWork_11 : decode cX4_atWork 11 = .ok (.aload_n 0, 1) := by decide +kernel
theorem dX4_atWork_12 : decode cX4_atWork 12 = .ok (.getfield 16, 3) := by decide +kernel
theorem dX4_atWork_15 : decode cX4_atWork 15 = .ok (.iload_n 3, 1) := by decide +kernel
theorem dX4_atWork_16 : decode cX4_atWork 16 = .ok (.iaload, 1) := by decide +kernel
theorem dX4_atWork_17 : decode cX4_atWork 17 = .ok (.iconst 3, 1) := by decide +kernel
theorem dX4_atWork_18 : decode cX4_atWork 18 = .ok (.if_icmp .ne 17, 3) := by decide +kernel
theorem dX4_atWork_21 : decode cX4_atWork 21 = .ok (.aload_n 0, 1) := by decide +kernel
theorem dX4_atWork_22 : decode cX4_atWork 22 = .ok (.getfield 20, 3) := by decide +kernel
theorem dX4_atWork_25 : decode cX4_atWork 25 = .ok (.iload_n 3, 1) := by decide +kernel
theorem dX4_atWork_26 : decode cX4_atWork 26 = .ok (.iaload, 1) := by decide +kernel
theorem dX4_atWork_27 : decode cX4_atWork 27 = .ok (.iload_n 1, 1) := by decide +kernel
theorem dX4_atWork_28 : decode cX4_atWork 28 = .ok (.if_icmp .ne 7, 3) := by decide +kernel
theorem dX4_atWork_31 : decode cX4_atWork 31 = .ok (.iconst 1, 1) := by decide +kernel
theorem dX4_atWork_32 : decode cX4_atWork 32 = .ok (.goto 4, 3) := by decide +kernel
theorem dX4_atWork_35 : decode cX4_atWork 35 = .ok (.iconst 0, 1) := by decide +kernel
theorem dX4_atWork_36 : decode cX4_atWork 36 = .ok (.iadd, 1) := by decide +kernel
theorem dX4_atWork_37 : decode cX4_atWork 37 = .ok (.istore_n 2, 1) := by decide +kernel
theorem dX4_atWork_38 : decode cX4_atWork 38 = .ok (.iinc 3 1, 3) := by decide +kernel
theorem dX4_atWork_41 : decode cX4_atWork 41 = .ok (.goto (-37), 3) := by decide +kernel
theorem dX4_atWork_44 : decode cX4_atWork 44 = .ok (.iload_n 2, 1) := by decide +kernel
theorem dX4_atWork_45 : decode cX4_atWork 45 = .ok (.ireturn, 1) := by decide +kernel
theorem dX4_queued_0 : decode cX4_queued 0 = .ok (.iconst (-1), 1) := by decide +kernel
theorem dX4_queued_1 : decode cX4_queued 1 = .ok (.istore_n 3, 1) := by decide +kernel
theorem dX4_queued_2 : decode cX4_queued 2 = .ok (.iconst 0, 1) := by decide +kernel
theorem dX4_queued_3 : decode cX4_queued 3 = .ok (.istore 4, 2) := by decide +kernel
theorem dX4_queued_5 : decode cX4_queued 5 = .ok (.iload 4, 2) := by decide +kernel
theorem dX4_queued_7 : decode cX4_queued 7 = .ok (.bipush 16, 2) := by decide +kernel
theorem dX4_queued_9 : decode cX4_queued 9 = .ok (.if_icmp .ge 112, 3) := by decide +kernel
theorem dX4_queued_12 : decode cX4_queued 12 = .ok (.iconst 0, 1) := by decide +kernel
theorem dX4_queued_13 : decode cX4_queued 13 = .ok (.istore 5, 2) := by decide +kernel
theorem dX4_queued_15 : decode cX4_queued 15 = .ok (.iconst 0, 1) := by decide +kernel
theorem dX4_queued_16 : decode cX4_queued 16 = .ok (.istore 6, 2) := by decide +kernel
theorem dX4_queued_18 : decode cX4_queued 18 = .ok (.iload 6, 2) := by decide +kernel
theorem dX4_queued_20 : decode cX4_queued 20 = .ok (.bipush 16, 2) := by decide +kernel
theorem dX4_queued_22 : decode cX4_queued 22 = .ok (.if_icmp .ge 58, 3) := by decide +kernel
theorem dX4_queued_25 : decode cX4_queued 25 = .ok (.iload 5, 2) := by decide +kernel
theorem dX4_queued_27 : decode cX4_queued 27 = .ok (.aload_n 0, 1) := by decide +kernel
theorem dX4_queued_28 : decode cX4_queued 28 = .ok (.getfield 16, 3) := by decide +kernel
theorem dX4_queued_31 : decode cX4_queued 31 = .ok (.iload 6, 2) := by decide +kernel
theorem dX4_queued_33 : decode cX4_queued 33 = .ok (.iaload, 1) := by decide +kernel
theorem dX4_queued_34 : decode cX4_queued 34 = .ok (.iconst 2, 1) := by decide +kernel
theorem dX4_queued_35 : decode cX4_queued 35 = .ok (.if_icmp .ne 35, 3) := by decide +kernel
theorem dX4_queued_38 : decode cX4_queued 38 = .ok (.aload_n 0, 1) := by decide +kernel
theorem dX4_queued_39 : decode cX4_queued 39 = .ok (.getfield 20, 3) := by decide +kernel
theorem dX4_queued_42 : decode cX4_queued 42 = .ok (.iload 6, 2) := by decide +kernel
theorem dX4_queued_44 : decode cX4_queued 44 = .ok (.iaload, 1) := by decide +kernel
theorem dX4_queued_45 : decode cX4_queued 45 = .ok (.iload_n 1, 1) := by decide +kernel
theorem dX4_queued_46 : decode cX4_queued 46 = .ok (.if_icmp .ne 24, 3) := by decide +kernel
theorem dX4_queued_49 : decode cX4_queued 49 = .ok (.aload_n 0, 1) := by decide +kernel
theorem dX4_queued_50 : decode cX4_queued 50 = .ok (.getfield 32, 3) := by decide +kernel
theorem dX4_queued_53 : decode cX4_queued 53 = .ok (.iload 6, 2) := by decide +kernel
theorem dX4_queued_55 : decode cX4_queued 55 = .ok (.iaload, 1) := by decide +kernel
theorem dX4_queued_56 : decode cX4_queued 56 = .ok (.aload_n 0, 1) := by decide +kernel
theorem dX4_queued_57 : decode cX4_queued 57 = .ok (.getfield 32, 3) := by decide +kernel
theorem dX4_queued_60 : decode cX4_queued 60 = .ok (.iload 4, 2) := by decide +kernel
theorem dX4_queued_62 : decode cX4_queued 62 = .ok (.iaload, 1) := by decide +kernel
theorem dX4_queued_63 : decode cX4_queued 63 = .ok (.if_icmp .ge 7, 3) := by decide +kernel
theorem dX4_queued_66 : decode cX4_queued 66 = .ok (.iconst 1, 1) := by decide +kernel
theorem dX4_queued_67 : decode cX4_queued 67 = .ok (.goto 4, 3) := by decide +kernel
theorem dX4_queued_70 : decode cX4_queued 70 = .ok (.iconst 0, 1) := by decide +kernel
theorem dX4_queued_71 : decode cX4_queued 71 = .ok (.iadd, 1) := by decide +kernel
theorem dX4_queued_72 : decode cX4_queued 72 = .ok (.istore 5, 2) := by decide +kernel
theorem dX4_queued_74 : decode cX4_queued 74 = .ok (.iinc 6 1, 3) := by decide +kernel
theorem dX4_queued_77 : decode cX4_queued 77 = .ok (.goto (-59), 3) := by decide +kernel
theorem dX4_queued_80 : decode cX4_queued 80 = .ok (.aload_n 0, 1) := by decide +kernel
theorem dX4_queued_81 : decode cX4_queued 81 = .ok (.getfield 16, 3) := by decide +kernel
theorem dX4_queued_84 : decode cX4_queued 84 = .ok (.iload 4, 2) := by decide +kernel
theorem dX4_queued_86 : decode cX4_queued 86 = .ok (.iaload, 1) := by decide +kernel
theorem dX4_queued_87 : decode cX4_queued 87 = .ok (.iconst 2, 1) := by decide +kernel
theorem dX4_queued_88 : decode cX4_queued 88 = .ok (.if_icmp .ne 25, 3) := by decide +kernel
theorem dX4_queued_91 : decode cX4_queued 91 = .ok (.aload_n 0, 1) := by decide +kernel
theorem dX4_queued_92 : decode cX4_queued 92 = .ok (.getfield 20, 3) := by decide +kernel
theorem dX4_queued_95 : decode cX4_queued 95 = .ok (.iload 4, 2) := by decide +kernel
theorem dX4_queued_97 : decode cX4_queued 97 = .ok (.iaload, 1) := by decide +kernel
theorem dX4_queued_98 : decode cX4_queued 98 = .ok (.iload_n 1, 1) := by decide +kernel
theorem dX4_queued_99 : decode cX4_queued 99 = .ok (.if_icmp .ne 14, 3) := by decide +kernel
theorem dX4_queued_102 : decode cX4_queued 102 = .ok (.iload 5, 2) := by decide +kernel
theorem dX4_queued_104 : decode cX4_queued 104 = .ok (.iload_n 2, 1) := by decide +kernel
theorem dX4_queued_105 : decode cX4_queued 105 = .ok (.if_icmp .ne 8, 3) := by decide +kernel
theorem dX4_queued_108 : decode cX4_queued 108 = .ok (.iload 4, 2) := by decide +kernel
theorem dX4_queued_110 : decode cX4_queued 110 = .ok (.goto 4, 3) := by decide +kernel
theorem dX4_queued_113 : decode cX4_queued 113 = .ok (.iload_n 3, 1) := by decide +kernel
theorem dX4_queued_114 : decode cX4_queued 114 = .ok (.istore_n 3, 1) := by decide +kernel
theorem dX4_queued_115 : decode cX4_queued 115 = .ok (.iinc 4 1, 3) := by decide +kernel
theorem dX4_queued_118 : decode cX4_queued 118 = .ok (.goto (-113), 3) := by decide +kernel
theorem dX4_queued_121 : decode cX4_queued 121 = .ok (.iload_n 3, 1) := by decide +kernel
theorem dX4_queued_122 : decode cX4_queued 122 = .ok (.ireturn, 1) := by decide +kernel
set_option maxRecDepth 20000 in
theorem ggX4_begins_X4_queued : GoodIn wsX4_begins wsX4_queued := goodIn_r _ [10, 11, 12, 13, 42, 43, 44, 45, 46, 47, 48, 49, 50, 51, 52, 53, 54, 55, 56, 57, 58, 59, 60, 61, 62, 63, 64, 65, 66, 67] (by decide +kernel) (by decide +kernel)
set_option maxRecDepth 20000 in
theorem gX4_begins_X4_queued : GoodIn wsX4_begins (wsV RX4 106 RX4 yX4_queued wsX4_queued) := goodIn_app (goodIn_of _ (by decide +kernel)) ggX4_begins_X4_queued
set_option maxRecDepth 20000 in
theorem ggX4_begins_X4_atWork : GoodIn wsX4_begins wsX4_atWork := goodIn_r _ [17, 11, 12, 42, 43, 44, 45, 46, 47, 48, 49, 50, 51, 52, 53, 54, 55, 56, 57, 58, 59, 60, 61, 62, 63, 64, 65, 66, 67] (by decide +kernel) (by decide +kernel)
set_option maxRecDepth 20000 in
theorem gX4_begins_X4_atWork : GoodIn wsX4_begins (wsV RX4 110 RX4 yX4_atWork wsX4_atWork) := goodIn_app (goodIn_of _ (by decide +kernel)) ggX4_begins_X4_atWork
set_option maxRecDepth 20000 in
theorem ggX4_begins_X4_match : GoodIn wsX4_begins wsX4_match := goodIn_r _ [21, 22, 23, 24, 25, 9, 26, 27, 11, 28, 29, 30, 31, 32, 33, 34, 42, 43, 44, 45, 46, 47, 48, 49, 50, 51, 52, 53, 54, 55, 56, 57, 58, 59, 60, 61, 62, 63, 64, 65, 66, 67] (by decide +kernel) (by decide +kernel)
set_option maxRecDepth 20000 in
theorem gX4_begins_X4_match : GoodIn wsX4_begins (wsV RX4 114 RX4 yX4_match wsX4_match) := goodIn_app (goodIn_of _ (by decide +kernel)) ggX4_begins_X4_match
set_option maxRecDepth 20000 in
theorem ggX4_begins_X4_turns : GoodIn wsX4_begins wsX4_turns := goodIn_r _ [38, 39, 40, 41, 11, 42, 43, 44, 45, 46, 47, 48, 49, 50, 51, 52, 53, 54, 55, 56, 57, 58, 59, 60, 61, 62, 63, 64, 65, 66, 67] (by decide +kernel) (by decide +kernel)
set_option maxRecDepth 20000 in
theorem gX4_begins_X4_turns : GoodIn wsX4_begins (wsV RX4 88 RX4 yX4_turns wsX4_turns) := goodIn_app (goodIn_of _ (by decide +kernel)) ggX4_begins_X4_turns
theorem dX4_begins_0 : decode cX4_begins 0 = .ok (.iconst 0, 1) := by decide +kernel
theorem dX4_begins_1 : decode cX4_begins 1 = .ok (.istore_n 1, 1) := by decide +kernel
theorem dX4_begins_2 : decode cX4_begins 2 = .ok (.iload_n 1, 1) := by decide +kernel
theorem dX4_begins_3 : decode cX4_begins 3 = .ok (.iconst 4, 1) := by decide +kernel
theorem dX4_begins_4 : decode cX4_begins 4 = .ok (.if_icmp .ge 99, 3) := by decide +kernel
theorem dX4_begins_7 : decode cX4_begins 7 = .ok (.aload_n 0, 1) := by decide +kernel
theorem dX4_begins_8 : decode cX4_begins 8 = .ok (.iload_n 1, 1) := by decide +kernel
theorem dX4_begins_9 : decode cX4_begins 9 = .ok (.iconst 0, 1) := by decide +kernel
theorem dX4_begins_10 : decode cX4_begins 10 = .ok (.invokevirtual 106, 3) := by decide +kernel
theorem dX4_begins_13 : decode cX4_begins 13 = .ok (.istore_n 2, 1) := by decide +kernel
theorem dX4_begins_14 : decode cX4_begins 14 = .ok (.iload_n 2, 1) := by decide +kernel
theorem dX4_begins_15 : decode cX4_begins 15 = .ok (.iconst (-1), 1) := by decide +kernel
theorem dX4_begins_16 : decode cX4_begins 16 = .ok (.if_icmp .eq 81, 3) := by decide +kernel
theorem dX4_begins_19 : decode cX4_begins 19 = .ok (.aload_n 0, 1) := by decide +kernel
theorem dX4_begins_20 : decode cX4_begins 20 = .ok (.iload_n 1, 1) := by decide +kernel
theorem dX4_begins_21 : decode cX4_begins 21 = .ok (.invokevirtual 110, 3) := by decide +kernel
theorem dX4_begins_24 : decode cX4_begins 24 = .ok (.aload_n 0, 1) := by decide +kernel
theorem dX4_begins_25 : decode cX4_begins 25 = .ok (.getfield 66, 3) := by decide +kernel
theorem dX4_begins_28 : decode cX4_begins 28 = .ok (.iload_n 1, 1) := by decide +kernel
theorem dX4_begins_29 : decode cX4_begins 29 = .ok (.iaload, 1) := by decide +kernel
theorem dX4_begins_30 : decode cX4_begins 30 = .ok (.if_icmp .ge 67, 3) := by decide +kernel
theorem dX4_begins_33 : decode cX4_begins 33 = .ok (.aload_n 0, 1) := by decide +kernel
theorem dX4_begins_34 : decode cX4_begins 34 = .ok (.iload_n 2, 1) := by decide +kernel
theorem dX4_begins_35 : decode cX4_begins 35 = .ok (.invokevirtual 114, 3) := by decide +kernel
theorem dX4_begins_38 : decode cX4_begins 38 = .ok (.istore_n 3, 1) := by decide +kernel
theorem dX4_begins_39 : decode cX4_begins 39 = .ok (.aload_n 0, 1) := by decide +kernel
theorem dX4_begins_40 : decode cX4_begins 40 = .ok (.iload_n 2, 1) := by decide +kernel
theorem dX4_begins_41 : decode cX4_begins 41 = .ok (.iload_n 3, 1) := by decide +kernel
theorem dX4_begins_42 : decode cX4_begins 42 = .ok (.iconst (-1), 1) := by decide +kernel
theorem dX4_begins_43 : decode cX4_begins 43 = .ok (.if_icmp .ne 7, 3) := by decide +kernel
theorem dX4_begins_46 : decode cX4_begins 46 = .ok (.iconst 1, 1) := by decide +kernel
theorem dX4_begins_47 : decode cX4_begins 47 = .ok (.goto 4, 3) := by decide +kernel
theorem dX4_begins_50 : decode cX4_begins 50 = .ok (.iconst 3, 1) := by decide +kernel
theorem dX4_begins_51 : decode cX4_begins 51 = .ok (.invokevirtual 88, 3) := by decide +kernel
theorem dX4_begins_54 : decode cX4_begins 54 = .ok (.aload_n 0, 1) := by decide +kernel
theorem dX4_begins_55 : decode cX4_begins 55 = .ok (.getfield 35, 3) := by decide +kernel
theorem dX4_begins_58 : decode cX4_begins 58 = .ok (.iload_n 2, 1) := by decide +kernel
theorem dX4_begins_59 : decode cX4_begins 59 = .ok (.iload_n 3, 1) := by decide +kernel
theorem dX4_begins_60 : decode cX4_begins 60 = .ok (.iastore, 1) := by decide +kernel
theorem dX4_begins_61 : decode cX4_begins 61 = .ok (.aload_n 0, 1) := by decide +kernel
theorem dX4_begins_62 : decode cX4_begins 62 = .ok (.getfield 38, 3) := by decide +kernel
theorem dX4_begins_65 : decode cX4_begins 65 = .ok (.iload_n 2, 1) := by decide +kernel
theorem dX4_begins_66 : decode cX4_begins 66 = .ok (.iload_n 3, 1) := by decide +kernel
theorem dX4_begins_67 : decode cX4_begins 67 = .ok (.iconst (-1), 1) := by decide +kernel
theorem dX4_begins_68 : decode cX4_begins 68 = .ok (.if_icmp .ne 7, 3) := by decide +kernel
theorem dX4_begins_71 : decode cX4_begins 71 = .ok (.iconst (-1), 1) := by decide +kernel
theorem dX4_begins_72 : decode cX4_begins 72 = .ok (.goto 14, 3) := by decide +kernel
theorem dX4_begins_75 : decode cX4_begins 75 = .ok (.aload_n 0, 1) := by decide +kernel
theorem dX4_begins_76 : decode cX4_begins 76 = .ok (.getfield 96, 3) := by decide +kernel
theorem dX4_begins_79 : decode cX4_begins 79 = .ok (.aload_n 0, 1) := by decide +kernel
theorem dX4_begins_80 : decode cX4_begins 80 = .ok (.getfield 63, 3) := by decide +kernel
theorem dX4_begins_83 : decode cX4_begins 83 = .ok (.iload_n 3, 1) := by decide +kernel
theorem dX4_begins_84 : decode cX4_begins 84 = .ok (.iaload, 1) := by decide +kernel
theorem dX4_begins_85 : decode cX4_begins 85 = .ok (.iadd, 1) := by decide +kernel
theorem dX4_begins_86 : decode cX4_begins 86 = .ok (.iastore, 1) := by decide +kernel
theorem dX4_begins_87 : decode cX4_begins 87 = .ok (.aload_n 0, 1) := by decide +kernel
theorem dX4_begins_88 : decode cX4_begins 88 = .ok (.iload_n 1, 1) := by decide +kernel
theorem dX4_begins_89 : decode cX4_begins 89 = .ok (.iconst 0, 1) := by decide +kernel
theorem dX4_begins_90 : decode cX4_begins 90 = .ok (.invokevirtual 106, 3) := by decide +kernel
theorem dX4_begins_93 : decode cX4_begins 93 = .ok (.istore_n 2, 1) := by decide +kernel
theorem dX4_begins_94 : decode cX4_begins 94 = .ok (.goto (-80), 3) := by decide +kernel
theorem dX4_begins_97 : decode cX4_begins 97 = .ok (.iinc 1 1, 3) := by decide +kernel
theorem dX4_begins_100 : decode cX4_begins 100 = .ok (.goto (-98), 3) := by decide +kernel
theorem dX4_begins_103 : decode cX4_begins 103 = .ok (.return_, 1) := by decide +kernel
set_option maxRecDepth 20000 in
theorem ggX4_ends_X4_begins : GoodIn wsX4_ends wsX4_begins := goodIn_r _ [6, 7, 8, 9, 10, 11, 12, 13, 14, 5, 15, 1, 16, 17, 18, 19, 20, 21, 22, 23, 24, 25, 26, 27, 28, 29, 30, 31, 32, 33, 34, 35, 36, 37, 38, 39, 40, 41, 42, 43, 44, 45, 46, 47, 48, 49, 50, 51, 52, 53, 54, 55, 56, 57, 58, 59, 60, 61, 62, 63, 64, 65, 66, 67, 68, 69, 70, 71] (by decide +kernel) (by decide +kernel)
set_option maxRecDepth 20000 in
theorem gX4_ends_X4_begins : GoodIn wsX4_ends (wsV RX4 117 RX4 yX4_begins wsX4_begins) := goodIn_app (goodIn_of _ (by decide +kernel)) ggX4_ends_X4_begins
theorem dX4_ends_0 : decode cX4_ends 0 = .ok (.aload_n 0, 1) := by decide +kernel
theorem dX4_ends_1 : decode cX4_ends 1 = .ok (.invokevirtual 117, 3) := by decide +kernel
theorem dX4_ends_4 : decode cX4_ends 4 = .ok (.aload_n 0, 1) := by decide +kernel
theorem dX4_ends_5 : decode cX4_ends 5 = .ok (.getfield 16, 3) := by decide +kernel
theorem dX4_ends_8 : decode cX4_ends 8 = .ok (.iload_n 1, 1) := by decide +kernel
theorem dX4_ends_9 : decode cX4_ends 9 = .ok (.iaload, 1) := by decide +kernel
theorem dX4_ends_10 : decode cX4_ends 10 = .ok (.ireturn, 1) := by decide +kernel
set_option maxRecDepth 20000 in
theorem ggX4_setImage_X4_in : GoodIn wsX4_setImage wsX4_in := goodIn_r _ [11] (by decide +kernel) (by decide +kernel)
set_option maxRecDepth 20000 in
theorem gX4_setImage_X4_in : GoodIn wsX4_setImage (va_wsS RX4 78 yX4_in wsX4_in) := goodIn_app (goodIn_of _ (by decide +kernel)) ggX4_setImage_X4_in
set_option maxRecDepth 20000 in
theorem ggX4_setImage_X4_goes : GoodIn wsX4_setImage wsX4_goes := goodIn_r _ [15, 16, 54, 55, 56, 57, 58, 59, 60, 61, 62, 63, 64, 65, 66, 67, 68, 69, 70, 71, 72, 73, 74, 75, 76, 77, 78, 79] (by decide +kernel) (by decide +kernel)
set_option maxRecDepth 20000 in
theorem gX4_setImage_X4_goes : GoodIn wsX4_setImage (wsV RX4 120 RX4 yX4_goes wsX4_goes) := goodIn_app (goodIn_of _ (by decide +kernel)) ggX4_setImage_X4_goes
set_option maxRecDepth 20000 in
theorem ggX4_setImage_X4_begins : GoodIn wsX4_setImage wsX4_begins := goodIn_r _ [20, 21, 22, 23, 24, 1, 25, 26, 27, 10, 28, 29, 30, 31, 32, 33, 34, 35, 36, 37, 38, 39, 3, 40, 41, 42, 43, 2, 44, 4, 5, 45, 46, 6, 7, 47, 48, 49, 50, 51, 52, 53, 54, 55, 56, 57, 58, 59, 60, 61, 62, 63, 64, 65, 66, 67, 68, 69, 70, 71, 72, 73, 74, 75, 76, 77, 78, 79] (by decide +kernel) (by decide +kernel)
set_option maxRecDepth 20000 in
theorem gX4_setImage_X4_begins : GoodIn wsX4_setImage (wsV RX4 117 RX4 yX4_begins wsX4_begins) := goodIn_app (goodIn_of _ (by decide +kernel)) ggX4_setImage_X4_begins
theorem dX4_setImage_0 : decode cX4_setImage 0 = .ok (.iload_n 2, 1) := by decide +kernel
theorem dX4_setImage_1 : decode cX4_setImage 1 = .ok (.iconst 0, 1) := by decide +kernel
theorem dX4_setImage_2 : decode cX4_setImage 2 = .ok (.bipush 9, 2) := by decide +kernel
theorem dX4_setImage_4 : decode cX4_setImage 4 = .ok (.invokestatic 78, 3) := by decide +kernel
theorem dX4_setImage_7 : decode cX4_setImage 7 = .ok (.ifCond .eq 50, 3) := by decide +kernel
theorem dX4_setImage_10 : decode cX4_setImage 10 = .ok (.iload_n 3, 1) := by decide +kernel
theorem dX4_setImage_11 : decode cX4_setImage 11 = .ok (.iconst 0, 1) := by decide +kernel
theorem dX4_setImage_12 : decode cX4_setImage 12 = .ok (.bipush 99, 2) := by decide +kernel
theorem dX4_setImage_14 : decode cX4_setImage 14 = .ok (.invokestatic 78, 3) := by decide +kernel
theorem dX4_setImage_17 : decode cX4_setImage 17 = .ok (.ifCond .eq 40, 3) := by decide +kernel
theorem dX4_setImage_20 : decode cX4_setImage 20 = .ok (.iload 4, 2) := by decide +kernel
theorem dX4_setImage_22 : decode cX4_setImage 22 = .ok (.iconst 0, 1) := by decide +kernel
theorem dX4_setImage_23 : decode cX4_setImage 23 = .ok (.bipush 15, 2) := by decide +kernel
theorem dX4_setImage_25 : decode cX4_setImage 25 = .ok (.invokestatic 78, 3) := by decide +kernel
theorem dX4_setImage_28 : decode cX4_setImage 28 = .ok (.ifCond .eq 29, 3) := by decide +kernel
theorem dX4_setImage_31 : decode cX4_setImage 31 = .ok (.iload 5, 2) := by decide +kernel
theorem dX4_setImage_33 : decode cX4_setImage 33 = .ok (.iconst 0, 1) := by decide +kernel
theorem dX4_setImage_34 : decode cX4_setImage 34 = .ok (.bipush 15, 2) := by decide +kernel
theorem dX4_setImage_36 : decode cX4_setImage 36 = .ok (.invokestatic 78, 3) := by decide +kernel
theorem dX4_setImage_39 : decode cX4_setImage 39 = .ok (.ifCond .eq 18, 3) := by decide +kernel
theorem dX4_setImage_42 : decode cX4_setImage 42 = .ok (.iload 6, 2) := by decide +kernel
theorem dX4_setImage_44 : decode cX4_setImage 44 = .ok (.iconst 0, 1) := by decide +kernel
theorem dX4_setImage_45 : decode cX4_setImage 45 = .ok (.bipush 15, 2) := by decide +kernel
theorem dX4_setImage_47 : decode cX4_setImage 47 = .ok (.invokestatic 78, 3) := by decide +kernel
theorem dX4_setImage_50 : decode cX4_setImage 50 = .ok (.ifCond .eq 7, 3) := by decide +kernel
theorem dX4_setImage_53 : decode cX4_setImage 53 = .ok (.iconst 1, 1) := by decide +kernel
theorem dX4_setImage_54 : decode cX4_setImage 54 = .ok (.goto 4, 3) := by decide +kernel
theorem dX4_setImage_57 : decode cX4_setImage 57 = .ok (.iconst 0, 1) := by decide +kernel
theorem dX4_setImage_58 : decode cX4_setImage 58 = .ok (.istore 7, 2) := by decide +kernel
theorem dX4_setImage_60 : decode cX4_setImage 60 = .ok (.aload_n 0, 1) := by decide +kernel
theorem dX4_setImage_61 : decode cX4_setImage 61 = .ok (.iload_n 1, 1) := by decide +kernel
theorem dX4_setImage_62 : decode cX4_setImage 62 = .ok (.iconst 0, 1) := by decide +kernel
theorem dX4_setImage_63 : decode cX4_setImage 63 = .ok (.bipush 7, 2) := by decide +kernel
theorem dX4_setImage_65 : decode cX4_setImage 65 = .ok (.invokestatic 78, 3) := by decide +kernel
theorem dX4_setImage_68 : decode cX4_setImage 68 = .ok (.iload 7, 2) := by decide +kernel
theorem dX4_setImage_70 : decode cX4_setImage 70 = .ok (.iconst 1, 1) := by decide +kernel
theorem dX4_setImage_71 : decode cX4_setImage 71 = .ok (.invokevirtual 120, 3) := by decide +kernel
theorem dX4_setImage_74 : decode cX4_setImage 74 = .ok (.ifCond .ne 4, 3) := by decide +kernel
theorem dX4_setImage_77 : decode cX4_setImage 77 = .ok (.return_, 1) := by decide +kernel
theorem dX4_setImage_78 : decode cX4_setImage 78 = .ok (.aload_n 0, 1) := by decide +kernel
theorem dX4_setImage_79 : decode cX4_setImage 79 = .ok (.getfield 63, 3) := by decide +kernel
theorem dX4_setImage_82 : decode cX4_setImage 82 = .ok (.iload_n 1, 1) := by decide +kernel
theorem dX4_setImage_83 : decode cX4_setImage 83 = .ok (.aload_n 0, 1) := by decide +kernel
theorem dX4_setImage_84 : decode cX4_setImage 84 = .ok (.getfield 44, 3) := by decide +kernel
theorem dX4_setImage_87 : decode cX4_setImage 87 = .ok (.iload_n 1, 1) := by decide +kernel
theorem dX4_setImage_88 : decode cX4_setImage 88 = .ok (.baload, 1) := by decide +kernel
theorem dX4_setImage_89 : decode cX4_setImage 89 = .ok (.ifCond .eq 12, 3) := by decide +kernel
theorem dX4_setImage_92 : decode cX4_setImage 92 = .ok (.aload_n 0, 1) := by decide +kernel
theorem dX4_setImage_93 : decode cX4_setImage 93 = .ok (.getfield 63, 3) := by decide +kernel
theorem dX4_setImage_96 : decode cX4_setImage 96 = .ok (.iload_n 1, 1) := by decide +kernel
theorem dX4_setImage_97 : decode cX4_setImage 97 = .ok (.iaload, 1) := by decide +kernel
theorem dX4_setImage_98 : decode cX4_setImage 98 = .ok (.goto 4, 3) := by decide +kernel
theorem dX4_setImage_101 : decode cX4_setImage 101 = .ok (.iconst 2, 1) := by decide +kernel
theorem dX4_setImage_102 : decode cX4_setImage 102 = .ok (.iastore, 1) := by decide +kernel
theorem dX4_setImage_103 : decode cX4_setImage 103 = .ok (.aload_n 0, 1) := by decide +kernel
theorem dX4_setImage_104 : decode cX4_setImage 104 = .ok (.getfield 44, 3) := by decide +kernel
theorem dX4_setImage_107 : decode cX4_setImage 107 = .ok (.iload_n 1, 1) := by decide +kernel
theorem dX4_setImage_108 : decode cX4_setImage 108 = .ok (.iconst 1, 1) := by decide +kernel
theorem dX4_setImage_109 : decode cX4_setImage 109 = .ok (.bastore, 1) := by decide +kernel
theorem dX4_setImage_110 : decode cX4_setImage 110 = .ok (.aload_n 0, 1) := by decide +kernel
theorem dX4_setImage_111 : decode cX4_setImage 111 = .ok (.getfield 48, 3) := by decide +kernel
theorem dX4_setImage_114 : decode cX4_setImage 114 = .ok (.iload_n 1, 1) := by decide +kernel
theorem dX4_setImage_115 : decode cX4_setImage 115 = .ok (.iload_n 2, 1) := by decide +kernel
theorem dX4_setImage_116 : decode cX4_setImage 116 = .ok (.iastore, 1) := by decide +kernel
theorem dX4_setImage_117 : decode cX4_setImage 117 = .ok (.aload_n 0, 1) := by decide +kernel
theorem dX4_setImage_118 : decode cX4_setImage 118 = .ok (.getfield 51, 3) := by decide +kernel
theorem dX4_setImage_121 : decode cX4_setImage 121 = .ok (.iload_n 1, 1) := by decide +kernel
theorem dX4_setImage_122 : decode cX4_setImage 122 = .ok (.iload_n 3, 1) := by decide +kernel
theorem dX4_setImage_123 : decode cX4_setImage 123 = .ok (.iastore, 1) := by decide +kernel
theorem dX4_setImage_124 : decode cX4_setImage 124 = .ok (.aload_n 0, 1) := by decide +kernel
theorem dX4_setImage_125 : decode cX4_setImage 125 = .ok (.getfield 54, 3) := by decide +kernel
theorem dX4_setImage_128 : decode cX4_setImage 128 = .ok (.iload_n 1, 1) := by decide +kernel
theorem dX4_setImage_129 : decode cX4_setImage 129 = .ok (.iload 4, 2) := by decide +kernel
theorem dX4_setImage_131 : decode cX4_setImage 131 = .ok (.iastore, 1) := by decide +kernel
theorem dX4_setImage_132 : decode cX4_setImage 132 = .ok (.aload_n 0, 1) := by decide +kernel
theorem dX4_setImage_133 : decode cX4_setImage 133 = .ok (.getfield 57, 3) := by decide +kernel
theorem dX4_setImage_136 : decode cX4_setImage 136 = .ok (.iload_n 1, 1) := by decide +kernel
theorem dX4_setImage_137 : decode cX4_setImage 137 = .ok (.iload 5, 2) := by decide +kernel
theorem dX4_setImage_139 : decode cX4_setImage 139 = .ok (.iastore, 1) := by decide +kernel
theorem dX4_setImage_140 : decode cX4_setImage 140 = .ok (.aload_n 0, 1) := by decide +kernel
theorem dX4_setImage_141 : decode cX4_setImage 141 = .ok (.getfield 60, 3) := by decide +kernel
theorem dX4_setImage_144 : decode cX4_setImage 144 = .ok (.iload_n 1, 1) := by decide +kernel
theorem dX4_setImage_145 : decode cX4_setImage 145 = .ok (.iload 6, 2) := by decide +kernel
theorem dX4_setImage_147 : decode cX4_setImage 147 = .ok (.iastore, 1) := by decide +kernel
theorem dX4_setImage_148 : decode cX4_setImage 148 = .ok (.aload_n 0, 1) := by decide +kernel
theorem dX4_setImage_149 : decode cX4_setImage 149 = .ok (.invokevirtual 117, 3) := by decide +kernel
theorem dX4_setImage_152 : decode cX4_setImage 152 = .ok (.return_, 1) := by decide +kernel
set_option maxRecDepth 20000 in
theorem ggX4_setTime_X4_isImage : GoodIn wsX4_setTime wsX4_isImage := goodIn_r _ [6, 7, 8, 9, 5, 10, 58, 59, 60, 61, 62, 63, 64, 65, 66, 67, 68, 69, 70, 71, 72, 73, 74, 75, 76, 77, 78, 79, 80, 81, 82, 83] (by decide +kernel) (by decide +kernel)
set_option maxRecDepth 20000 in
theorem gX4_setTime_X4_isImage : GoodIn wsX4_setTime (wsV RX4 124 RX4 yX4_isImage wsX4_isImage) := goodIn_app (goodIn_of _ (by decide +kernel)) ggX4_setTime_X4_isImage
set_option maxRecDepth 20000 in
theorem ggX4_setTime_X4_in : GoodIn wsX4_setTime wsX4_in := goodIn_r _ [10] (by decide +kernel) (by decide +kernel)
set_option maxRecDepth 20000 in
theorem gX4_setTime_X4_in : GoodIn wsX4_setTime (va_wsS RX4 78 yX4_in wsX4_in) := goodIn_app (goodIn_of _ (by decide +kernel)) ggX4_setTime_X4_in
set_option maxRecDepth 20000 in
theorem ggX4_setTime_X4_goes : GoodIn wsX4_setTime wsX4_goes := goodIn_r _ [14, 15, 58, 59, 60, 61, 62, 63, 64, 65, 66, 67, 68, 69, 70, 71, 72, 73, 74, 75, 76, 77, 78, 79, 80, 81, 82, 83] (by decide +kernel) (by decide +kernel)
set_option maxRecDepth 20000 in
theorem gX4_setTime_X4_goes : GoodIn wsX4_setTime (wsV RX4 120 RX4 yX4_goes wsX4_goes) := goodIn_app (goodIn_of _ (by decide +kernel)) ggX4_setTime_X4_goes
set_option maxRecDepth 20000 in
theorem ggX4_setTime_X4_begins : GoodIn wsX4_setTime wsX4_begins := goodIn_r _ [19, 20, 21, 22, 23, 1, 24, 25, 26, 5, 27, 28, 29, 30, 31, 32, 33, 34, 35, 36, 37, 38, 39, 40, 41, 42, 43, 7, 44, 45, 46, 47, 48, 49, 50, 51, 52, 53, 54, 55, 56, 57, 58, 59, 60, 61, 62, 63, 64, 65, 66, 67, 68, 69, 70, 71, 72, 73, 74, 75, 76, 77, 78, 79, 80, 81, 82, 83] (by decide +kernel) (by decide +kernel)
set_option maxRecDepth 20000 in
theorem gX4_setTime_X4_begins : GoodIn wsX4_setTime (wsV RX4 117 RX4 yX4_begins wsX4_begins) := goodIn_app (goodIn_of _ (by decide +kernel)) ggX4_setTime_X4_begins
theorem dX4_setTime_0 : decode cX4_setTime 0 = .ok (.aload_n 0, 1) := by decide +kernel
theorem dX4_setTime_1 : decode cX4_setTime 1 = .ok (.aload_n 0, 1) := by decide +kernel
theorem dX4_setTime_2 : decode cX4_setTime 2 = .ok (.iload_n 1, 1) := by decide +kernel
theorem dX4_setTime_3 : decode cX4_setTime 3 = .ok (.invokevirtual 124, 3) := by decide +kernel
theorem dX4_setTime_6 : decode cX4_setTime 6 = .ok (.iload_n 2, 1) := by decide +kernel
theorem dX4_setTime_7 : decode cX4_setTime 7 = .ok (.iconst 1, 1) := by decide +kernel
theorem dX4_setTime_8 : decode cX4_setTime 8 = .ok (.bipush 24, 2) := by decide +kernel
theorem dX4_setTime_10 : decode cX4_setTime 10 = .ok (.invokestatic 78, 3) := by decide +kernel
theorem dX4_setTime_13 : decode cX4_setTime 13 = .ok (.iconst 1, 1) := by decide +kernel
theorem dX4_setTime_14 : decode cX4_setTime 14 = .ok (.invokevirtual 120, 3) := by decide +kernel
theorem dX4_setTime_17 : decode cX4_setTime 17 = .ok (.ifCond .ne 5, 3) := by decide +kernel
theorem dX4_setTime_20 : decode cX4_setTime 20 = .ok (.iconst 0, 1) := by decide +kernel
theorem dX4_setTime_21 : decode cX4_setTime 21 = .ok (.ireturn, 1) := by decide +kernel
theorem dX4_setTime_22 : decode cX4_setTime 22 = .ok (.aload_n 0, 1) := by decide +kernel
theorem dX4_setTime_23 : decode cX4_setTime 23 = .ok (.getfield 63, 3) := by decide +kernel
theorem dX4_setTime_26 : decode cX4_setTime 26 = .ok (.iload_n 1, 1) := by decide +kernel
theorem dX4_setTime_27 : decode cX4_setTime 27 = .ok (.iaload, 1) := by decide +kernel
theorem dX4_setTime_28 : decode cX4_setTime 28 = .ok (.istore_n 3, 1) := by decide +kernel
theorem dX4_setTime_29 : decode cX4_setTime 29 = .ok (.aload_n 0, 1) := by decide +kernel
theorem dX4_setTime_30 : decode cX4_setTime 30 = .ok (.getfield 63, 3) := by decide +kernel
theorem dX4_setTime_33 : decode cX4_setTime 33 = .ok (.iload_n 1, 1) := by decide +kernel
theorem dX4_setTime_34 : decode cX4_setTime 34 = .ok (.iload_n 2, 1) := by decide +kernel
theorem dX4_setTime_35 : decode cX4_setTime 35 = .ok (.iastore, 1) := by decide +kernel
theorem dX4_setTime_36 : decode cX4_setTime 36 = .ok (.aload_n 0, 1) := by decide +kernel
theorem dX4_setTime_37 : decode cX4_setTime 37 = .ok (.invokevirtual 117, 3) := by decide +kernel
theorem dX4_setTime_40 : decode cX4_setTime 40 = .ok (.iload_n 3, 1) := by decide +kernel
theorem dX4_setTime_41 : decode cX4_setTime 41 = .ok (.ireturn, 1) := by decide +kernel
set_option maxRecDepth 20000 in
theorem ggX4_dropImage_X4_isImage : GoodIn wsX4_dropImage wsX4_isImage := goodIn_r _ [6, 1, 7, 8, 5, 9, 58, 59, 60, 61, 62, 63, 64, 65, 66, 67, 68, 69, 70, 71, 72, 73, 74, 75, 76, 77, 78, 79, 80, 81, 82, 83] (by decide +kernel) (by decide +kernel)
set_option maxRecDepth 20000 in
theorem gX4_dropImage_X4_isImage : GoodIn wsX4_dropImage (wsV RX4 124 RX4 yX4_isImage wsX4_isImage) := goodIn_app (goodIn_of _ (by decide +kernel)) ggX4_dropImage_X4_isImage
set_option maxRecDepth 20000 in
theorem ggX4_dropImage_X4_goes : GoodIn wsX4_dropImage wsX4_goes := goodIn_r _ [13, 14, 58, 59, 60, 61, 62, 63, 64, 65, 66, 67, 68, 69, 70, 71, 72, 73, 74, 75, 76, 77, 78, 79, 80, 81, 82, 83] (by decide +kernel) (by decide +kernel)
set_option maxRecDepth 20000 in
theorem gX4_dropImage_X4_goes : GoodIn wsX4_dropImage (wsV RX4 120 RX4 yX4_goes wsX4_goes) := goodIn_app (goodIn_of _ (by decide +kernel)) ggX4_dropImage_X4_goes
set_option maxRecDepth 20000 in
theorem ggX4_dropImage_X4_begins : GoodIn wsX4_dropImage wsX4_begins := goodIn_r _ [18, 19, 20, 21, 22, 23, 24, 25, 26, 5, 27, 28, 29, 30, 31, 32, 33, 34, 35, 36, 37, 38, 39, 40, 41, 42, 43, 1, 44, 45, 46, 47, 48, 49, 50, 51, 52, 53, 54, 55, 56, 57, 58, 59, 60, 61, 62, 63, 64, 65, 66, 67, 68, 69, 70, 71, 72, 73, 74, 75, 76, 77, 78, 79, 80, 81, 82, 83] (by decide +kernel) (by decide +kernel)
set_option maxRecDepth 20000 in
theorem gX4_dropImage_X4_begins : GoodIn wsX4_dropImage (wsV RX4 117 RX4 yX4_begins wsX4_begins) := goodIn_app (goodIn_of _ (by decide +kernel)) ggX4_dropImage_X4_begins
theorem dX4_dropImage_0 : decode cX4_dropImage 0 = .ok (.aload_n 0, 1) := by decide +kernel
theorem dX4_dropImage_1 : decode cX4_dropImage 1 = .ok (.aload_n 0, 1) := by decide +kernel
theorem dX4_dropImage_2 : decode cX4_dropImage 2 = .ok (.iload_n 1, 1) := by decide +kernel
theorem dX4_dropImage_3 : decode cX4_dropImage 3 = .ok (.invokevirtual 124, 3) := by decide +kernel
theorem dX4_dropImage_6 : decode cX4_dropImage 6 = .ok (.iconst 1, 1) := by decide +kernel
theorem dX4_dropImage_7 : decode cX4_dropImage 7 = .ok (.iconst 1, 1) := by decide +kernel
theorem dX4_dropImage_8 : decode cX4_dropImage 8 = .ok (.invokevirtual 120, 3) := by decide +kernel
theorem dX4_dropImage_11 : decode cX4_dropImage 11 = .ok (.ifCond .eq 14, 3) := by decide +kernel
theorem dX4_dropImage_14 : decode cX4_dropImage 14 = .ok (.aload_n 0, 1) := by decide +kernel
theorem dX4_dropImage_15 : decode cX4_dropImage 15 = .ok (.getfield 44, 3) := by decide +kernel
theorem dX4_dropImage_18 : decode cX4_dropImage 18 = .ok (.iload_n 1, 1) := by decide +kernel
theorem dX4_dropImage_19 : decode cX4_dropImage 19 = .ok (.iconst 0, 1) := by decide +kernel
theorem dX4_dropImage_20 : decode cX4_dropImage 20 = .ok (.bastore, 1) := by decide +kernel
theorem dX4_dropImage_21 : decode cX4_dropImage 21 = .ok (.aload_n 0, 1) := by decide +kernel
theorem dX4_dropImage_22 : decode cX4_dropImage 22 = .ok (.invokevirtual 117, 3) := by decide +kernel
theorem dX4_dropImage_25 : decode cX4_dropImage 25 = .ok (.return_, 1) := by decide +kernel
set_option maxRecDepth 20000 in
theorem ggX4_setBatch_X4_isRack : GoodIn wsX4_setBatch wsX4_isRack := goodIn_r _ [5, 6, 7, 4, 8] (by decide +kernel) (by decide +kernel)
set_option maxRecDepth 20000 in
theorem gX4_setBatch_X4_isRack : GoodIn wsX4_setBatch (va_wsS RX4 128 yX4_isRack wsX4_isRack) := goodIn_app (goodIn_of _ (by decide +kernel)) ggX4_setBatch_X4_isRack
set_option maxRecDepth 20000 in
theorem ggX4_setBatch_X4_in : GoodIn wsX4_setBatch wsX4_in := goodIn_r _ [8] (by decide +kernel) (by decide +kernel)
set_option maxRecDepth 20000 in
theorem gX4_setBatch_X4_in : GoodIn wsX4_setBatch (va_wsS RX4 78 yX4_in wsX4_in) := goodIn_app (goodIn_of _ (by decide +kernel)) ggX4_setBatch_X4_in
set_option maxRecDepth 20000 in
theorem ggX4_setBatch_X4_goes : GoodIn wsX4_setBatch wsX4_goes := goodIn_r _ [12, 13, 57, 58, 59, 60, 61, 62, 63, 64, 65, 66, 67, 68, 69, 70, 71, 72, 73, 74, 75, 76, 77, 78, 79, 80, 81, 82] (by decide +kernel) (by decide +kernel)
set_option maxRecDepth 20000 in
theorem gX4_setBatch_X4_goes : GoodIn wsX4_setBatch (wsV RX4 120 RX4 yX4_goes wsX4_goes) := goodIn_app (goodIn_of _ (by decide +kernel)) ggX4_setBatch_X4_goes
set_option maxRecDepth 20000 in
theorem ggX4_setBatch_X4_begins : GoodIn wsX4_setBatch wsX4_begins := goodIn_r _ [17, 1, 18, 19, 20, 21, 22, 23, 24, 4, 25, 26, 27, 28, 29, 30, 31, 32, 33, 34, 35, 36, 37, 38, 39, 40, 41, 42, 43, 44, 45, 46, 47, 48, 49, 50, 51, 52, 53, 54, 55, 56, 57, 58, 59, 60, 61, 62, 63, 64, 65, 66, 67, 68, 69, 70, 71, 72, 73, 74, 75, 76, 77, 78, 79, 80, 81, 82] (by decide +kernel) (by decide +kernel)
set_option maxRecDepth 20000 in
theorem gX4_setBatch_X4_begins : GoodIn wsX4_setBatch (wsV RX4 117 RX4 yX4_begins wsX4_begins) := goodIn_app (goodIn_of _ (by decide +kernel)) ggX4_setBatch_X4_begins
theorem dX4_setBatch_0 : decode cX4_setBatch 0 = .ok (.aload_n 0, 1) := by decide +kernel
theorem dX4_setBatch_1 : decode cX4_setBatch 1 = .ok (.iload_n 1, 1) := by decide +kernel
theorem dX4_setBatch_2 : decode cX4_setBatch 2 = .ok (.invokestatic 128, 3) := by decide +kernel
theorem dX4_setBatch_5 : decode cX4_setBatch 5 = .ok (.iload_n 2, 1) := by decide +kernel
theorem dX4_setBatch_6 : decode cX4_setBatch 6 = .ok (.iconst 0, 1) := by decide +kernel
theorem dX4_setBatch_7 : decode cX4_setBatch 7 = .ok (.iconst 4, 1) := by decide +kernel
theorem dX4_setBatch_8 : decode cX4_setBatch 8 = .ok (.invokestatic 78, 3) := by decide +kernel
theorem dX4_setBatch_11 : decode cX4_setBatch 11 = .ok (.iconst 1, 1) := by decide +kernel
theorem dX4_setBatch_12 : decode cX4_setBatch 12 = .ok (.invokevirtual 120, 3) := by decide +kernel
theorem dX4_setBatch_15 : decode cX4_setBatch 15 = .ok (.ifCond .ne 5, 3) := by decide +kernel
theorem dX4_setBatch_18 : decode cX4_setBatch 18 = .ok (.iconst 0, 1) := by decide +kernel
theorem dX4_setBatch_19 : decode cX4_setBatch 19 = .ok (.ireturn, 1) := by decide +kernel
theorem dX4_setBatch_20 : decode cX4_setBatch 20 = .ok (.aload_n 0, 1) := by decide +kernel
theorem dX4_setBatch_21 : decode cX4_setBatch 21 = .ok (.getfield 66, 3) := by decide +kernel
theorem dX4_setBatch_24 : decode cX4_setBatch 24 = .ok (.iload_n 1, 1) := by decide +kernel
theorem dX4_setBatch_25 : decode cX4_setBatch 25 = .ok (.iaload, 1) := by decide +kernel
theorem dX4_setBatch_26 : decode cX4_setBatch 26 = .ok (.istore_n 3, 1) := by decide +kernel
theorem dX4_setBatch_27 : decode cX4_setBatch 27 = .ok (.aload_n 0, 1) := by decide +kernel
theorem dX4_setBatch_28 : decode cX4_setBatch 28 = .ok (.getfield 66, 3) := by decide +kernel
theorem dX4_setBatch_31 : decode cX4_setBatch 31 = .ok (.iload_n 1, 1) := by decide +kernel
theorem dX4_setBatch_32 : decode cX4_setBatch 32 = .ok (.iload_n 2, 1) := by decide +kernel
theorem dX4_setBatch_33 : decode cX4_setBatch 33 = .ok (.iastore, 1) := by decide +kernel
theorem dX4_setBatch_34 : decode cX4_setBatch 34 = .ok (.aload_n 0, 1) := by decide +kernel
theorem dX4_setBatch_35 : decode cX4_setBatch 35 = .ok (.invokevirtual 117, 3) := by decide +kernel
theorem dX4_setBatch_38 : decode cX4_setBatch 38 = .ok (.iload_n 3, 1) := by decide +kernel
theorem dX4_setBatch_39 : decode cX4_setBatch 39 = .ok (.ireturn, 1) := by decide +kernel
set_option maxRecDepth 20000 in
theorem ggX4_setRetries_X4_in : GoodIn wsX4_setRetries wsX4_in := goodIn_r _ [6] (by decide +kernel) (by decide +kernel)
set_option maxRecDepth 20000 in
theorem gX4_setRetries_X4_in : GoodIn wsX4_setRetries (va_wsS RX4 78 yX4_in wsX4_in) := goodIn_app (goodIn_of _ (by decide +kernel)) ggX4_setRetries_X4_in
set_option maxRecDepth 20000 in
theorem ggX4_setRetries_X4_goes : GoodIn wsX4_setRetries wsX4_goes := goodIn_r _ [10, 11, 56, 57, 58, 59, 60, 61, 62, 63, 64, 65, 66, 67, 68, 69, 70, 71, 72, 73, 74, 75, 76, 77, 78, 79, 80, 81] (by decide +kernel) (by decide +kernel)
set_option maxRecDepth 20000 in
theorem gX4_setRetries_X4_goes : GoodIn wsX4_setRetries (wsV RX4 120 RX4 yX4_goes wsX4_goes) := goodIn_app (goodIn_of _ (by decide +kernel)) ggX4_setRetries_X4_goes
set_option maxRecDepth 20000 in
theorem ggX4_setRetries_X4_begins : GoodIn wsX4_setRetries wsX4_begins := goodIn_r _ [15, 16, 17, 18, 19, 20, 21, 22, 23, 5, 24, 25, 26, 27, 28, 29, 30, 31, 32, 33, 34, 35, 36, 37, 38, 39, 40, 41, 42, 43, 44, 45, 46, 47, 48, 49, 50, 51, 52, 53, 54, 55, 56, 57, 58, 59, 60, 61, 62, 63, 64, 65, 66, 67, 68, 69, 70, 71, 72, 73, 74, 75, 76, 77, 78, 79, 80, 81] (by decide +kernel) (by decide +kernel)
set_option maxRecDepth 20000 in
theorem gX4_setRetries_X4_begins : GoodIn wsX4_setRetries (wsV RX4 117 RX4 yX4_begins wsX4_begins) := goodIn_app (goodIn_of _ (by decide +kernel)) ggX4_setRetries_X4_begins
theorem dX4_setRetries_0 : decode cX4_setRetries 0 = .ok (.aload_n 0, 1) := by decide +kernel
theorem dX4_setRetries_1 : decode cX4_setRetries 1 = .ok (.iload_n 1, 1) := by decide +kernel
theorem dX4_setRetries_2 : decode cX4_setRetries 2 = .ok (.iconst 1, 1) := by decide +kernel
theorem dX4_setRetries_3 : decode cX4_setRetries 3 = .ok (.bipush 24, 2) := by decide +kernel
theorem dX4_setRetries_5 : decode cX4_setRetries 5 = .ok (.invokestatic 78, 3) := by decide +kernel
theorem dX4_setRetries_8 : decode cX4_setRetries 8 = .ok (.ifCond .eq 17, 3) := by decide +kernel
theorem dX4_setRetries_11 : decode cX4_setRetries 11 = .ok (.iload_n 2, 1) := by decide +kernel
theorem dX4_setRetries_12 : decode cX4_setRetries 12 = .ok (.iconst 1, 1) := by decide +kernel
theorem dX4_setRetries_13 : decode cX4_setRetries 13 = .ok (.bipush 9, 2) := by decide +kernel
theorem dX4_setRetries_15 : decode cX4_setRetries 15 = .ok (.invokestatic 78, 3) := by decide +kernel
theorem dX4_setRetries_18 : decode cX4_setRetries 18 = .ok (.ifCond .eq 7, 3) := by decide +kernel
theorem dX4_setRetries_21 : decode cX4_setRetries 21 = .ok (.iconst 1, 1) := by decide +kernel
theorem dX4_setRetries_22 : decode cX4_setRetries 22 = .ok (.goto 4, 3) := by decide +kernel
theorem dX4_setRetries_25 : decode cX4_setRetries 25 = .ok (.iconst 0, 1) := by decide +kernel
theorem dX4_setRetries_26 : decode cX4_setRetries 26 = .ok (.iconst 1, 1) := by decide +kernel
theorem dX4_setRetries_27 : decode cX4_setRetries 27 = .ok (.iconst 1, 1) := by decide +kernel
theorem dX4_setRetries_28 : decode cX4_setRetries 28 = .ok (.invokevirtual 120, 3) := by decide +kernel
theorem dX4_setRetries_31 : decode cX4_setRetries 31 = .ok (.ifCond .eq 17, 3) := by decide +kernel
theorem dX4_setRetries_34 : decode cX4_setRetries 34 = .ok (.aload_n 0, 1) := by decide +kernel
theorem dX4_setRetries_35 : decode cX4_setRetries 35 = .ok (.iload_n 1, 1) := by decide +kernel
theorem dX4_setRetries_36 : decode cX4_setRetries 36 = .ok (.putfield 7, 3) := by decide +kernel
theorem dX4_setRetries_39 : decode cX4_setRetries 39 = .ok (.aload_n 0, 1) := by decide +kernel
theorem dX4_setRetries_40 : decode cX4_setRetries 40 = .ok (.iload_n 2, 1) := by decide +kernel
theorem dX4_setRetries_41 : decode cX4_setRetries 41 = .ok (.putfield 13, 3) := by decide +kernel
theorem dX4_setRetries_44 : decode cX4_setRetries 44 = .ok (.aload_n 0, 1) := by decide +kernel
theorem dX4_setRetries_45 : decode cX4_setRetries 45 = .ok (.invokevirtual 117, 3) := by decide +kernel
theorem dX4_setRetries_48 : decode cX4_setRetries 48 = .ok (.return_, 1) := by decide +kernel
set_option maxRecDepth 20000 in
theorem ggX4_report_X4_isMachine : GoodIn wsX4_report wsX4_isMachine := goodIn_r _ [9, 10, 11, 8, 12] (by decide +kernel) (by decide +kernel)
set_option maxRecDepth 20000 in
theorem gX4_report_X4_isMachine : GoodIn wsX4_report (va_wsS RX4 131 yX4_isMachine wsX4_isMachine) := goodIn_app (goodIn_of _ (by decide +kernel)) ggX4_report_X4_isMachine
set_option maxRecDepth 20000 in
theorem ggX4_report_X4_isRack : GoodIn wsX4_report wsX4_isRack := goodIn_r _ [15, 10, 11, 8, 12] (by decide +kernel) (by decide +kernel)
set_option maxRecDepth 20000 in
theorem gX4_report_X4_isRack : GoodIn wsX4_report (va_wsS RX4 128 yX4_isRack wsX4_isRack) := goodIn_app (goodIn_of _ (by decide +kernel)) ggX4_report_X4_isRack
set_option maxRecDepth 20000 in
theorem ggX4_report_X4_in : GoodIn wsX4_report wsX4_in := goodIn_r _ [12] (by decide +kernel) (by decide +kernel)
set_option maxRecDepth 20000 in
theorem gX4_report_X4_in : GoodIn wsX4_report (va_wsS RX4 78 yX4_in wsX4_in) := goodIn_app (goodIn_of _ (by decide +kernel)) ggX4_report_X4_in
set_option maxRecDepth 20000 in
theorem ggX4_report_X4_goes : GoodIn wsX4_report wsX4_goes := goodIn_r _ [19, 20, 76, 77, 78, 79, 80, 81, 82, 83, 84, 85, 86, 87, 88, 89, 90, 91, 92, 93, 94, 95, 96, 97, 98, 99, 100, 101] (by decide +kernel) (by decide +kernel)
set_option maxRecDepth 20000 in
theorem gX4_report_X4_goes : GoodIn wsX4_report (wsV RX4 120 RX4 yX4_goes wsX4_goes) := goodIn_app (goodIn_of _ (by decide +kernel)) ggX4_report_X4_goes
set_option maxRecDepth 20000 in
theorem ggX4_report_X4_turns : GoodIn wsX4_report wsX4_turns := goodIn_r _ [24, 25, 26, 27, 5, 76, 77, 78, 79, 80, 81, 82, 83, 84, 85, 86, 87, 88, 89, 90, 91, 92, 93, 94, 95, 96, 97, 98, 99, 100, 101] (by decide +kernel) (by decide +kernel)
set_option maxRecDepth 20000 in
theorem gX4_report_X4_turns : GoodIn wsX4_report (wsV RX4 88 RX4 yX4_turns wsX4_turns) := goodIn_app (goodIn_of _ (by decide +kernel)) ggX4_report_X4_turns
set_option maxRecDepth 20000 in
theorem ggX4_report_X4_stands : GoodIn wsX4_report wsX4_stands := goodIn_r _ [31, 32, 33, 76, 77, 78, 79, 80, 81, 82, 83, 84, 85, 86, 87, 88, 89, 90, 91, 92, 93, 94, 95, 96, 97, 98, 99, 100, 101] (by decide +kernel) (by decide +kernel)
set_option maxRecDepth 20000 in
theorem gX4_report_X4_stands : GoodIn wsX4_report (wsV RX4 92 RX4 yX4_stands wsX4_stands) := goodIn_app (goodIn_of _ (by decide +kernel)) ggX4_report_X4_stands
set_option maxRecDepth 20000 in
theorem ggX4_report_X4_fails : GoodIn wsX4_report wsX4_fails := goodIn_r _ [37, 38, 39, 40, 41, 42, 21, 22, 23, 8, 24, 25, 26, 27, 5, 76, 77, 78, 79, 80, 81, 82, 83, 84, 85, 86, 87, 88, 89, 90, 91, 92, 93, 94, 95, 96, 97, 98, 99, 100, 101] (by decide +kernel) (by decide +kernel)
set_option maxRecDepth 20000 in
theorem gX4_report_X4_fails : GoodIn wsX4_report (wsV RX4 134 RX4 yX4_fails wsX4_fails) := goodIn_app (goodIn_of _ (by decide +kernel)) ggX4_report_X4_fails
set_option maxRecDepth 20000 in
theorem ggX4_report_X4_ends : GoodIn wsX4_report wsX4_ends := goodIn_r _ [46, 5, 47, 48, 49, 8, 50, 51, 52, 41, 42, 53, 54, 55, 56, 57, 1, 32, 58, 59, 60, 61, 62, 63, 64, 65, 66, 67, 68, 69, 70, 71, 2, 72, 73, 3, 4, 74, 75, 21, 22, 23, 24, 25, 26, 27, 76, 77, 78, 79, 80, 81, 82, 83, 84, 85, 86, 87, 88, 89, 90, 91, 92, 93, 94, 95, 96, 97, 98, 99, 100, 101] (by decide +kernel) (by decide +kernel)
set_option maxRecDepth 20000 in
theorem gX4_report_X4_ends : GoodIn wsX4_report (wsV RX4 137 RX4 yX4_ends wsX4_ends) := goodIn_app (goodIn_of _ (by decide +kernel)) ggX4_report_X4_ends
theorem dX4_report_0 : decode cX4_report 0 = .ok (.aload_n 0, 1) := by decide +kernel
theorem dX4_report_1 : decode cX4_report 1 = .ok (.iload_n 1, 1) := by decide +kernel
theorem dX4_report_2 : decode cX4_report 2 = .ok (.invokestatic 131, 3) := by decide +kernel
theorem dX4_report_5 : decode cX4_report 5 = .ok (.ifCond .eq 14, 3) := by decide +kernel
theorem dX4_report_8 : decode cX4_report 8 = .ok (.iload_n 2, 1) := by decide +kernel
theorem dX4_report_9 : decode cX4_report 9 = .ok (.invokestatic 128, 3) := by decide +kernel
theorem dX4_report_12 : decode cX4_report 12 = .ok (.ifCond .eq 7, 3) := by decide +kernel
theorem dX4_report_15 : decode cX4_report 15 = .ok (.iconst 1, 1) := by decide +kernel
theorem dX4_report_16 : decode cX4_report 16 = .ok (.goto 4, 3) := by decide +kernel
theorem dX4_report_19 : decode cX4_report 19 = .ok (.iconst 0, 1) := by decide +kernel
theorem dX4_report_20 : decode cX4_report 20 = .ok (.iload_n 3, 1) := by decide +kernel
theorem dX4_report_21 : decode cX4_report 21 = .ok (.iconst 0, 1) := by decide +kernel
theorem dX4_report_22 : decode cX4_report 22 = .ok (.bipush 99, 2) := by decide +kernel
theorem dX4_report_24 : decode cX4_report 24 = .ok (.invokestatic 78, 3) := by decide +kernel
theorem dX4_report_27 : decode cX4_report 27 = .ok (.ifCond .eq 28, 3) := by decide +kernel
theorem dX4_report_30 : decode cX4_report 30 = .ok (.iload 4, 2) := by decide +kernel
theorem dX4_report_32 : decode cX4_report 32 = .ok (.iconst 0, 1) := by decide +kernel
theorem dX4_report_33 : decode cX4_report 33 = .ok (.iconst 3, 1) := by decide +kernel
theorem dX4_report_34 : decode cX4_report 34 = .ok (.invokestatic 78, 3) := by decide +kernel
theorem dX4_report_37 : decode cX4_report 37 = .ok (.ifCond .eq 18, 3) := by decide +kernel
theorem dX4_report_40 : decode cX4_report 40 = .ok (.iload 5, 2) := by decide +kernel
theorem dX4_report_42 : decode cX4_report 42 = .ok (.iconst 0, 1) := by decide +kernel
theorem dX4_report_43 : decode cX4_report 43 = .ok (.bipush 15, 2) := by decide +kernel
theorem dX4_report_45 : decode cX4_report 45 = .ok (.invokestatic 78, 3) := by decide +kernel
theorem dX4_report_48 : decode cX4_report 48 = .ok (.ifCond .eq 7, 3) := by decide +kernel
theorem dX4_report_51 : decode cX4_report 51 = .ok (.iconst 1, 1) := by decide +kernel
theorem dX4_report_52 : decode cX4_report 52 = .ok (.goto 4, 3) := by decide +kernel
theorem dX4_report_55 : decode cX4_report 55 = .ok (.iconst 0, 1) := by decide +kernel
theorem dX4_report_56 : decode cX4_report 56 = .ok (.iconst 1, 1) := by decide +kernel
theorem dX4_report_57 : decode cX4_report 57 = .ok (.invokevirtual 120, 3) := by decide +kernel
theorem dX4_report_60 : decode cX4_report 60 = .ok (.ifCond .ne 5, 3) := by decide +kernel
theorem dX4_report_63 : decode cX4_report 63 = .ok (.iconst 0, 1) := by decide +kernel
theorem dX4_report_64 : decode cX4_report 64 = .ok (.ireturn, 1) := by decide +kernel
theorem dX4_report_65 : decode cX4_report 65 = .ok (.aload_n 0, 1) := by decide +kernel
theorem dX4_report_66 : decode cX4_report 66 = .ok (.getfield 20, 3) := by decide +kernel
theorem dX4_report_69 : decode cX4_report 69 = .ok (.iload_n 1, 1) := by decide +kernel
theorem dX4_report_70 : decode cX4_report 70 = .ok (.iaload, 1) := by decide +kernel
theorem dX4_report_71 : decode cX4_report 71 = .ok (.iload_n 2, 1) := by decide +kernel
theorem dX4_report_72 : decode cX4_report 72 = .ok (.if_icmp .eq 7, 3) := by decide +kernel
theorem dX4_report_75 : decode cX4_report 75 = .ok (.iconst 1, 1) := by decide +kernel
theorem dX4_report_76 : decode cX4_report 76 = .ok (.goto 4, 3) := by decide +kernel
theorem dX4_report_79 : decode cX4_report 79 = .ok (.iconst 0, 1) := by decide +kernel
theorem dX4_report_80 : decode cX4_report 80 = .ok (.istore 6, 2) := by decide +kernel
theorem dX4_report_82 : decode cX4_report 82 = .ok (.aload_n 0, 1) := by decide +kernel
theorem dX4_report_83 : decode cX4_report 83 = .ok (.getfield 20, 3) := by decide +kernel
theorem dX4_report_86 : decode cX4_report 86 = .ok (.iload_n 1, 1) := by decide +kernel
theorem dX4_report_87 : decode cX4_report 87 = .ok (.iload_n 2, 1) := by decide +kernel
theorem dX4_report_88 : decode cX4_report 88 = .ok (.iastore, 1) := by decide +kernel
theorem dX4_report_89 : decode cX4_report 89 = .ok (.aload_n 0, 1) := by decide +kernel
theorem dX4_report_90 : decode cX4_report 90 = .ok (.getfield 23, 3) := by decide +kernel
theorem dX4_report_93 : decode cX4_report 93 = .ok (.iload_n 1, 1) := by decide +kernel
theorem dX4_report_94 : decode cX4_report 94 = .ok (.iload_n 3, 1) := by decide +kernel
theorem dX4_report_95 : decode cX4_report 95 = .ok (.iastore, 1) := by decide +kernel
theorem dX4_report_96 : decode cX4_report 96 = .ok (.aload_n 0, 1) := by decide +kernel
theorem dX4_report_97 : decode cX4_report 97 = .ok (.getfield 26, 3) := by decide +kernel
theorem dX4_report_100 : decode cX4_report 100 = .ok (.iload_n 1, 1) := by decide +kernel
theorem dX4_report_101 : decode cX4_report 101 = .ok (.iload 4, 2) := by decide +kernel
theorem dX4_report_103 : decode cX4_report 103 = .ok (.iastore, 1) := by decide +kernel
theorem dX4_report_104 : decode cX4_report 104 = .ok (.aload_n 0, 1) := by decide +kernel
theorem dX4_report_105 : decode cX4_report 105 = .ok (.getfield 29, 3) := by decide +kernel
theorem dX4_report_108 : decode cX4_report 108 = .ok (.iload_n 1, 1) := by decide +kernel
theorem dX4_report_109 : decode cX4_report 109 = .ok (.iload 5, 2) := by decide +kernel
theorem dX4_report_111 : decode cX4_report 111 = .ok (.iastore, 1) := by decide +kernel
theorem dX4_report_112 : decode cX4_report 112 = .ok (.aload_n 0, 1) := by decide +kernel
theorem dX4_report_113 : decode cX4_report 113 = .ok (.getfield 16, 3) := by decide +kernel
theorem dX4_report_116 : decode cX4_report 116 = .ok (.iload_n 1, 1) := by decide +kernel
theorem dX4_report_117 : decode cX4_report 117 = .ok (.iaload, 1) := by decide +kernel
theorem dX4_report_118 : decode cX4_report 118 = .ok (.ifCond .ne 12, 3) := by decide +kernel
theorem dX4_report_121 : decode cX4_report 121 = .ok (.aload_n 0, 1) := by decide +kernel
theorem dX4_report_122 : decode cX4_report 122 = .ok (.iload_n 1, 1) := by decide +kernel
theorem dX4_report_123 : decode cX4_report 123 = .ok (.iconst 1, 1) := by decide +kernel
theorem dX4_report_124 : decode cX4_report 124 = .ok (.invokevirtual 88, 3) := by decide +kernel
theorem dX4_report_127 : decode cX4_report 127 = .ok (.goto 41, 3) := by decide +kernel
theorem dX4_report_130 : decode cX4_report 130 = .ok (.aload_n 0, 1) := by decide +kernel
theorem dX4_report_131 : decode cX4_report 131 = .ok (.getfield 16, 3) := by decide +kernel
theorem dX4_report_134 : decode cX4_report 134 = .ok (.iload_n 1, 1) := by decide +kernel
theorem dX4_report_135 : decode cX4_report 135 = .ok (.iaload, 1) := by decide +kernel
theorem dX4_report_136 : decode cX4_report 136 = .ok (.iconst 2, 1) := by decide +kernel
theorem dX4_report_137 : decode cX4_report 137 = .ok (.if_icmp .ne 16, 3) := by decide +kernel
theorem dX4_report_140 : decode cX4_report 140 = .ok (.iload 6, 2) := by decide +kernel
theorem dX4_report_142 : decode cX4_report 142 = .ok (.ifCond .eq 11, 3) := by decide +kernel
theorem dX4_report_145 : decode cX4_report 145 = .ok (.aload_n 0, 1) := by decide +kernel
theorem dX4_report_146 : decode cX4_report 146 = .ok (.iload_n 1, 1) := by decide +kernel
theorem dX4_report_147 : decode cX4_report 147 = .ok (.invokevirtual 92, 3) := by decide +kernel
theorem dX4_report_150 : decode cX4_report 150 = .ok (.goto 18, 3) := by decide +kernel
theorem dX4_report_153 : decode cX4_report 153 = .ok (.aload_n 0, 1) := by decide +kernel
theorem dX4_report_154 : decode cX4_report 154 = .ok (.getfield 16, 3) := by decide +kernel
theorem dX4_report_157 : decode cX4_report 157 = .ok (.iload_n 1, 1) := by decide +kernel
theorem dX4_report_158 : decode cX4_report 158 = .ok (.iaload, 1) := by decide +kernel
theorem dX4_report_159 : decode cX4_report 159 = .ok (.iconst 3, 1) := by decide +kernel
theorem dX4_report_160 : decode cX4_report 160 = .ok (.if_icmp .ne 8, 3) := by decide +kernel
theorem dX4_report_163 : decode cX4_report 163 = .ok (.aload_n 0, 1) := by decide +kernel
theorem dX4_report_164 : decode cX4_report 164 = .ok (.iload_n 1, 1) := by decide +kernel
theorem dX4_report_165 : decode cX4_report 165 = .ok (.invokevirtual 134, 3) := by decide +kernel
theorem dX4_report_168 : decode cX4_report 168 = .ok (.aload_n 0, 1) := by decide +kernel
theorem dX4_report_169 : decode cX4_report 169 = .ok (.iload_n 1, 1) := by decide +kernel
theorem dX4_report_170 : decode cX4_report 170 = .ok (.invokevirtual 137, 3) := by decide +kernel
theorem dX4_report_173 : decode cX4_report 173 = .ok (.ireturn, 1) := by decide +kernel
set_option maxRecDepth 20000 in
theorem ggX4_order_X4_isMachine : GoodIn wsX4_order wsX4_isMachine := goodIn_r _ [5, 6, 7, 4, 8] (by decide +kernel) (by decide +kernel)
set_option maxRecDepth 20000 in
theorem gX4_order_X4_isMachine : GoodIn wsX4_order (va_wsS RX4 131 yX4_isMachine wsX4_isMachine) := goodIn_app (goodIn_of _ (by decide +kernel)) ggX4_order_X4_isMachine
set_option maxRecDepth 20000 in
theorem ggX4_order_X4_match : GoodIn wsX4_order wsX4_match := goodIn_r _ [12, 13, 14, 15, 16, 4, 17, 18, 1, 19, 20, 21, 22, 23, 24, 25, 70, 71, 72, 73, 74, 75, 76, 77, 78, 79, 80, 81, 82, 83, 84, 85, 86, 87, 88, 89, 90, 91, 92, 93, 94, 95] (by decide +kernel) (by decide +kernel)
set_option maxRecDepth 20000 in
theorem gX4_order_X4_match : GoodIn wsX4_order (wsV RX4 114 RX4 yX4_match wsX4_match) := goodIn_app (goodIn_of _ (by decide +kernel)) ggX4_order_X4_match
set_option maxRecDepth 20000 in
theorem ggX4_order_X4_goes : GoodIn wsX4_order wsX4_goes := goodIn_r _ [29, 30, 70, 71, 72, 73, 74, 75, 76, 77, 78, 79, 80, 81, 82, 83, 84, 85, 86, 87, 88, 89, 90, 91, 92, 93, 94, 95] (by decide +kernel) (by decide +kernel)
set_option maxRecDepth 20000 in
theorem gX4_order_X4_goes : GoodIn wsX4_order (wsV RX4 120 RX4 yX4_goes wsX4_goes) := goodIn_app (goodIn_of _ (by decide +kernel)) ggX4_order_X4_goes
set_option maxRecDepth 20000 in
theorem ggX4_order_X4_queues : GoodIn wsX4_order wsX4_queues := goodIn_r _ [34, 35, 36, 37, 4, 38, 39, 40, 41, 1, 42, 43, 44, 45, 46, 47, 70, 71, 72, 73, 74, 75, 76, 77, 78, 79, 80, 81, 82, 83, 84, 85, 86, 87, 88, 89, 90, 91, 92, 93, 94, 95] (by decide +kernel) (by decide +kernel)
set_option maxRecDepth 20000 in
theorem gX4_order_X4_queues : GoodIn wsX4_order (wsV RX4 140 RX4 yX4_queues wsX4_queues) := goodIn_app (goodIn_of _ (by decide +kernel)) ggX4_order_X4_queues
set_option maxRecDepth 20000 in
theorem ggX4_order_X4_ends : GoodIn wsX4_order wsX4_ends := goodIn_r _ [51, 1, 52, 53, 54, 4, 55, 56, 57, 58, 59, 60, 61, 62, 63, 64, 65, 46, 66, 67, 68, 69, 9, 10, 11, 12, 13, 14, 15, 16, 17, 18, 19, 20, 21, 22, 23, 24, 25, 35, 36, 37, 38, 39, 40, 41, 70, 71, 72, 73, 74, 75, 76, 77, 78, 79, 80, 81, 82, 83, 84, 85, 86, 87, 88, 89, 90, 91, 92, 93, 94, 95] (by decide +kernel) (by decide +kernel)
set_option maxRecDepth 20000 in
theorem gX4_order_X4_ends : GoodIn wsX4_order (wsV RX4 137 RX4 yX4_ends wsX4_ends) := goodIn_app (goodIn_of _ (by decide +kernel)) ggX4_order_X4_ends
theorem dX4_order_0 : decode cX4_order 0 = .ok (.iload_n 1, 1) := by decide +kernel
theorem dX4_order_1 : decode cX4_order 1 = .ok (.invokestatic 131, 3) := by decide +kernel
theorem dX4_order_4 : decode cX4_order 4 = .ok (.istore_n 2, 1) := by decide +kernel
theorem dX4_order_5 : decode cX4_order 5 = .ok (.aload_n 0, 1) := by decide +kernel
theorem dX4_order_6 : decode cX4_order 6 = .ok (.iload_n 2, 1) := by decide +kernel
theorem dX4_order_7 : decode cX4_order 7 = .ok (.iload_n 2, 1) := by decide +kernel
theorem dX4_order_8 : decode cX4_order 8 = .ok (.ifCond .eq 26, 3) := by decide +kernel
theorem dX4_order_11 : decode cX4_order 11 = .ok (.aload_n 0, 1) := by decide +kernel
theorem dX4_order_12 : decode cX4_order 12 = .ok (.getfield 16, 3) := by decide +kernel
theorem dX4_order_15 : decode cX4_order 15 = .ok (.iload_n 1, 1) := by decide +kernel
theorem dX4_order_16 : decode cX4_order 16 = .ok (.iaload, 1) := by decide +kernel
theorem dX4_order_17 : decode cX4_order 17 = .ok (.iconst 1, 1) := by decide +kernel
theorem dX4_order_18 : decode cX4_order 18 = .ok (.if_icmp .ne 16, 3) := by decide +kernel
theorem dX4_order_21 : decode cX4_order 21 = .ok (.aload_n 0, 1) := by decide +kernel
theorem dX4_order_22 : decode cX4_order 22 = .ok (.iload_n 1, 1) := by decide +kernel
theorem dX4_order_23 : decode cX4_order 23 = .ok (.invokevirtual 114, 3) := by decide +kernel
theorem dX4_order_26 : decode cX4_order 26 = .ok (.iconst (-1), 1) := by decide +kernel
theorem dX4_order_27 : decode cX4_order 27 = .ok (.if_icmp .eq 7, 3) := by decide +kernel
theorem dX4_order_30 : decode cX4_order 30 = .ok (.iconst 1, 1) := by decide +kernel
theorem dX4_order_31 : decode cX4_order 31 = .ok (.goto 4, 3) := by decide +kernel
theorem dX4_order_34 : decode cX4_order 34 = .ok (.iconst 0, 1) := by decide +kernel
theorem dX4_order_35 : decode cX4_order 35 = .ok (.iconst 1, 1) := by decide +kernel
theorem dX4_order_36 : decode cX4_order 36 = .ok (.invokevirtual 120, 3) := by decide +kernel
theorem dX4_order_39 : decode cX4_order 39 = .ok (.ifCond .ne 5, 3) := by decide +kernel
theorem dX4_order_42 : decode cX4_order 42 = .ok (.iconst 0, 1) := by decide +kernel
theorem dX4_order_43 : decode cX4_order 43 = .ok (.ireturn, 1) := by decide +kernel
theorem dX4_order_44 : decode cX4_order 44 = .ok (.aload_n 0, 1) := by decide +kernel
theorem dX4_order_45 : decode cX4_order 45 = .ok (.iload_n 1, 1) := by decide +kernel
theorem dX4_order_46 : decode cX4_order 46 = .ok (.invokevirtual 140, 3) := by decide +kernel
theorem dX4_order_49 : decode cX4_order 49 = .ok (.aload_n 0, 1) := by decide +kernel
theorem dX4_order_50 : decode cX4_order 50 = .ok (.iload_n 1, 1) := by decide +kernel
theorem dX4_order_51 : decode cX4_order 51 = .ok (.invokevirtual 137, 3) := by decide +kernel
theorem dX4_order_54 : decode cX4_order 54 = .ok (.ireturn, 1) := by decide +kernel
set_option maxRecDepth 20000 in
theorem ggX4_cancel_X4_isMachine : GoodIn wsX4_cancel wsX4_isMachine := goodIn_r _ [5, 6, 7, 4, 8] (by decide +kernel) (by decide +kernel)
set_option maxRecDepth 20000 in
theorem gX4_cancel_X4_isMachine : GoodIn wsX4_cancel (va_wsS RX4 131 yX4_isMachine wsX4_isMachine) := goodIn_app (goodIn_of _ (by decide +kernel)) ggX4_cancel_X4_isMachine
set_option maxRecDepth 20000 in
theorem ggX4_cancel_X4_goes : GoodIn wsX4_cancel wsX4_goes := goodIn_r _ [12, 13, 57, 58, 59, 60, 61, 62, 63, 64, 65, 66, 67, 68, 69, 70, 71, 72, 73, 74, 75, 76, 77, 78, 79, 80, 81, 82] (by decide +kernel) (by decide +kernel)
set_option maxRecDepth 20000 in
theorem gX4_cancel_X4_goes : GoodIn wsX4_cancel (wsV RX4 120 RX4 yX4_goes wsX4_goes) := goodIn_app (goodIn_of _ (by decide +kernel)) ggX4_cancel_X4_goes
set_option maxRecDepth 20000 in
theorem ggX4_cancel_X4_turns : GoodIn wsX4_cancel wsX4_turns := goodIn_r _ [17, 18, 19, 20, 1, 57, 58, 59, 60, 61, 62, 63, 64, 65, 66, 67, 68, 69, 70, 71, 72, 73, 74, 75, 76, 77, 78, 79, 80, 81, 82] (by decide +kernel) (by decide +kernel)
set_option maxRecDepth 20000 in
theorem gX4_cancel_X4_turns : GoodIn wsX4_cancel (wsV RX4 88 RX4 yX4_turns wsX4_turns) := goodIn_app (goodIn_of _ (by decide +kernel)) ggX4_cancel_X4_turns
set_option maxRecDepth 20000 in
theorem ggX4_cancel_X4_begins : GoodIn wsX4_cancel wsX4_begins := goodIn_r _ [24, 25, 26, 27, 28, 29, 30, 31, 32, 4, 33, 1, 34, 35, 36, 37, 38, 39, 40, 41, 42, 43, 44, 45, 46, 47, 48, 49, 50, 51, 52, 53, 54, 55, 56, 14, 15, 16, 17, 18, 19, 20, 57, 58, 59, 60, 61, 62, 63, 64, 65, 66, 67, 68, 69, 70, 71, 72, 73, 74, 75, 76, 77, 78, 79, 80, 81, 82] (by decide +kernel) (by decide +kernel)
set_option maxRecDepth 20000 in
theorem gX4_cancel_X4_begins : GoodIn wsX4_cancel (wsV RX4 117 RX4 yX4_begins wsX4_begins) := goodIn_app (goodIn_of _ (by decide +kernel)) ggX4_cancel_X4_begins
theorem dX4_cancel_0 : decode cX4_cancel 0 = .ok (.iload_n 1, 1) := by decide +kernel
theorem dX4_cancel_1 : decode cX4_cancel 1 = .ok (.invokestatic 131, 3) := by decide +kernel
theorem dX4_cancel_4 : decode cX4_cancel 4 = .ok (.istore_n 2, 1) := by decide +kernel
theorem dX4_cancel_5 : decode cX4_cancel 5 = .ok (.aload_n 0, 1) := by decide +kernel
theorem dX4_cancel_6 : decode cX4_cancel 6 = .ok (.iload_n 2, 1) := by decide +kernel
theorem dX4_cancel_7 : decode cX4_cancel 7 = .ok (.iload_n 2, 1) := by decide +kernel
theorem dX4_cancel_8 : decode cX4_cancel 8 = .ok (.ifCond .eq 27, 3) := by decide +kernel
theorem dX4_cancel_11 : decode cX4_cancel 11 = .ok (.aload_n 0, 1) := by decide +kernel
theorem dX4_cancel_12 : decode cX4_cancel 12 = .ok (.getfield 16, 3) := by decide +kernel
theorem dX4_cancel_15 : decode cX4_cancel 15 = .ok (.iload_n 1, 1) := by decide +kernel
theorem dX4_cancel_16 : decode cX4_cancel 16 = .ok (.iaload, 1) := by decide +kernel
theorem dX4_cancel_17 : decode cX4_cancel 17 = .ok (.iconst 2, 1) := by decide +kernel
theorem dX4_cancel_18 : decode cX4_cancel 18 = .ok (.if_icmp .eq 13, 3) := by decide +kernel
theorem dX4_cancel_21 : decode cX4_cancel 21 = .ok (.aload_n 0, 1) := by decide +kernel
theorem dX4_cancel_22 : decode cX4_cancel 22 = .ok (.getfield 16, 3) := by decide +kernel
theorem dX4_cancel_25 : decode cX4_cancel 25 = .ok (.iload_n 1, 1) := by decide +kernel
theorem dX4_cancel_26 : decode cX4_cancel 26 = .ok (.iaload, 1) := by decide +kernel
theorem dX4_cancel_27 : decode cX4_cancel 27 = .ok (.iconst 4, 1) := by decide +kernel
theorem dX4_cancel_28 : decode cX4_cancel 28 = .ok (.if_icmp .ne 7, 3) := by decide +kernel
theorem dX4_cancel_31 : decode cX4_cancel 31 = .ok (.iconst 1, 1) := by decide +kernel
theorem dX4_cancel_32 : decode cX4_cancel 32 = .ok (.goto 4, 3) := by decide +kernel
theorem dX4_cancel_35 : decode cX4_cancel 35 = .ok (.iconst 0, 1) := by decide +kernel
theorem dX4_cancel_36 : decode cX4_cancel 36 = .ok (.iconst 1, 1) := by decide +kernel
theorem dX4_cancel_37 : decode cX4_cancel 37 = .ok (.invokevirtual 120, 3) := by decide +kernel
theorem dX4_cancel_40 : decode cX4_cancel 40 = .ok (.ifCond .eq 13, 3) := by decide +kernel
theorem dX4_cancel_43 : decode cX4_cancel 43 = .ok (.aload_n 0, 1) := by decide +kernel
theorem dX4_cancel_44 : decode cX4_cancel 44 = .ok (.iload_n 1, 1) := by decide +kernel
theorem dX4_cancel_45 : decode cX4_cancel 45 = .ok (.iconst 1, 1) := by decide +kernel
theorem dX4_cancel_46 : decode cX4_cancel 46 = .ok (.invokevirtual 88, 3) := by decide +kernel
theorem dX4_cancel_49 : decode cX4_cancel 49 = .ok (.aload_n 0, 1) := by decide +kernel
theorem dX4_cancel_50 : decode cX4_cancel 50 = .ok (.invokevirtual 117, 3) := by decide +kernel
theorem dX4_cancel_53 : decode cX4_cancel 53 = .ok (.return_, 1) := by decide +kernel
set_option maxRecDepth 20000 in
theorem ggX4_finish_X4_isMachine : GoodIn wsX4_finish wsX4_isMachine := goodIn_r _ [6, 7, 8, 5, 9] (by decide +kernel) (by decide +kernel)
set_option maxRecDepth 20000 in
theorem gX4_finish_X4_isMachine : GoodIn wsX4_finish (va_wsS RX4 131 yX4_isMachine wsX4_isMachine) := goodIn_app (goodIn_of _ (by decide +kernel)) ggX4_finish_X4_isMachine
set_option maxRecDepth 20000 in
theorem ggX4_finish_X4_goes : GoodIn wsX4_finish wsX4_goes := goodIn_r _ [13, 14, 68, 69, 70, 71, 72, 73, 74, 75, 76, 77, 78, 79, 80, 81, 82, 83, 84, 85, 86, 87, 88, 89, 90, 91, 92, 93] (by decide +kernel) (by decide +kernel)
set_option maxRecDepth 20000 in
theorem gX4_finish_X4_goes : GoodIn wsX4_finish (wsV RX4 120 RX4 yX4_goes wsX4_goes) := goodIn_app (goodIn_of _ (by decide +kernel)) ggX4_finish_X4_goes
set_option maxRecDepth 20000 in
theorem ggX4_finish_X4_turns : GoodIn wsX4_finish wsX4_turns := goodIn_r _ [18, 19, 20, 21, 1, 68, 69, 70, 71, 72, 73, 74, 75, 76, 77, 78, 79, 80, 81, 82, 83, 84, 85, 86, 87, 88, 89, 90, 91, 92, 93] (by decide +kernel) (by decide +kernel)
set_option maxRecDepth 20000 in
theorem gX4_finish_X4_turns : GoodIn wsX4_finish (wsV RX4 88 RX4 yX4_turns wsX4_turns) := goodIn_app (goodIn_of _ (by decide +kernel)) ggX4_finish_X4_turns
set_option maxRecDepth 20000 in
theorem ggX4_finish_X4_fails : GoodIn wsX4_finish wsX4_fails := goodIn_r _ [25, 2, 26, 27, 28, 29, 15, 16, 17, 5, 18, 19, 20, 21, 1, 68, 69, 70, 71, 72, 73, 74, 75, 76, 77, 78, 79, 80, 81, 82, 83, 84, 85, 86, 87, 88, 89, 90, 91, 92, 93] (by decide +kernel) (by decide +kernel)
set_option maxRecDepth 20000 in
theorem gX4_finish_X4_fails : GoodIn wsX4_finish (wsV RX4 134 RX4 yX4_fails wsX4_fails) := goodIn_app (goodIn_of _ (by decide +kernel)) ggX4_finish_X4_fails
set_option maxRecDepth 20000 in
theorem ggX4_finish_X4_ends : GoodIn wsX4_finish wsX4_ends := goodIn_r _ [33, 1, 34, 35, 36, 5, 37, 38, 39, 28, 29, 40, 41, 42, 43, 44, 45, 46, 47, 48, 49, 50, 51, 52, 53, 54, 55, 56, 57, 58, 59, 60, 61, 62, 63, 64, 65, 66, 67, 15, 16, 17, 18, 19, 20, 21, 68, 69, 70, 71, 72, 73, 74, 75, 76, 77, 78, 79, 80, 81, 82, 83, 84, 85, 86, 87, 88, 89, 90, 91, 92, 93] (by decide +kernel) (by decide +kernel)
set_option maxRecDepth 20000 in
theorem gX4_finish_X4_ends : GoodIn wsX4_finish (wsV RX4 137 RX4 yX4_ends wsX4_ends) := goodIn_app (goodIn_of _ (by decide +kernel)) ggX4_finish_X4_ends
theorem dX4_finish_0 : decode cX4_finish 0 = .ok (.iload_n 1, 1) := by decide +kernel
theorem dX4_finish_1 : decode cX4_finish 1 = .ok (.invokestatic 131, 3) := by decide +kernel
theorem dX4_finish_4 : decode cX4_finish 4 = .ok (.istore_n 3, 1) := by decide +kernel
theorem dX4_finish_5 : decode cX4_finish 5 = .ok (.aload_n 0, 1) := by decide +kernel
theorem dX4_finish_6 : decode cX4_finish 6 = .ok (.iload_n 3, 1) := by decide +kernel
theorem dX4_finish_7 : decode cX4_finish 7 = .ok (.iload_n 3, 1) := by decide +kernel
theorem dX4_finish_8 : decode cX4_finish 8 = .ok (.ifCond .eq 17, 3) := by decide +kernel
theorem dX4_finish_11 : decode cX4_finish 11 = .ok (.aload_n 0, 1) := by decide +kernel
theorem dX4_finish_12 : decode cX4_finish 12 = .ok (.getfield 16, 3) := by decide +kernel
theorem dX4_finish_15 : decode cX4_finish 15 = .ok (.iload_n 1, 1) := by decide +kernel
theorem dX4_finish_16 : decode cX4_finish 16 = .ok (.iaload, 1) := by decide +kernel
theorem dX4_finish_17 : decode cX4_finish 17 = .ok (.iconst 3, 1) := by decide +kernel
theorem dX4_finish_18 : decode cX4_finish 18 = .ok (.if_icmp .ne 7, 3) := by decide +kernel
theorem dX4_finish_21 : decode cX4_finish 21 = .ok (.iconst 1, 1) := by decide +kernel
theorem dX4_finish_22 : decode cX4_finish 22 = .ok (.goto 4, 3) := by decide +kernel
theorem dX4_finish_25 : decode cX4_finish 25 = .ok (.iconst 0, 1) := by decide +kernel
theorem dX4_finish_26 : decode cX4_finish 26 = .ok (.iconst 1, 1) := by decide +kernel
theorem dX4_finish_27 : decode cX4_finish 27 = .ok (.invokevirtual 120, 3) := by decide +kernel
theorem dX4_finish_30 : decode cX4_finish 30 = .ok (.ifCond .ne 5, 3) := by decide +kernel
theorem dX4_finish_33 : decode cX4_finish 33 = .ok (.iconst 0, 1) := by decide +kernel
theorem dX4_finish_34 : decode cX4_finish 34 = .ok (.ireturn, 1) := by decide +kernel
theorem dX4_finish_35 : decode cX4_finish 35 = .ok (.iload_n 2, 1) := by decide +kernel
theorem dX4_finish_36 : decode cX4_finish 36 = .ok (.ifCond .eq 19, 3) := by decide +kernel
theorem dX4_finish_39 : decode cX4_finish 39 = .ok (.aload_n 0, 1) := by decide +kernel
theorem dX4_finish_40 : decode cX4_finish 40 = .ok (.iload_n 1, 1) := by decide +kernel
theorem dX4_finish_41 : decode cX4_finish 41 = .ok (.iconst 5, 1) := by decide +kernel
theorem dX4_finish_42 : decode cX4_finish 42 = .ok (.invokevirtual 88, 3) := by decide +kernel
theorem dX4_finish_45 : decode cX4_finish 45 = .ok (.aload_n 0, 1) := by decide +kernel
theorem dX4_finish_46 : decode cX4_finish 46 = .ok (.getfield 41, 3) := by decide +kernel
theorem dX4_finish_49 : decode cX4_finish 49 = .ok (.iload_n 1, 1) := by decide +kernel
theorem dX4_finish_50 : decode cX4_finish 50 = .ok (.iconst 0, 1) := by decide +kernel
theorem dX4_finish_51 : decode cX4_finish 51 = .ok (.iastore, 1) := by decide +kernel
theorem dX4_finish_52 : decode cX4_finish 52 = .ok (.goto 8, 3) := by decide +kernel
theorem dX4_finish_55 : decode cX4_finish 55 = .ok (.aload_n 0, 1) := by decide +kernel
theorem dX4_finish_56 : decode cX4_finish 56 = .ok (.iload_n 1, 1) := by decide +kernel
theorem dX4_finish_57 : decode cX4_finish 57 = .ok (.invokevirtual 134, 3) := by decide +kernel
theorem dX4_finish_60 : decode cX4_finish 60 = .ok (.aload_n 0, 1) := by decide +kernel
theorem dX4_finish_61 : decode cX4_finish 61 = .ok (.iload_n 1, 1) := by decide +kernel
theorem dX4_finish_62 : decode cX4_finish 62 = .ok (.invokevirtual 137, 3) := by decide +kernel
theorem dX4_finish_65 : decode cX4_finish 65 = .ok (.ireturn, 1) := by decide +kernel
set_option maxRecDepth 20000 in
theorem ggX4_retire_X4_isMachine : GoodIn wsX4_retire wsX4_isMachine := goodIn_r _ [7, 8, 9, 6, 10] (by decide +kernel) (by decide +kernel)
set_option maxRecDepth 20000 in
theorem gX4_retire_X4_isMachine : GoodIn wsX4_retire (va_wsS RX4 131 yX4_isMachine wsX4_isMachine) := goodIn_app (goodIn_of _ (by decide +kernel)) ggX4_retire_X4_isMachine
set_option maxRecDepth 20000 in
theorem ggX4_retire_X4_in : GoodIn wsX4_retire wsX4_in := goodIn_r _ [10] (by decide +kernel) (by decide +kernel)
set_option maxRecDepth 20000 in
theorem gX4_retire_X4_in : GoodIn wsX4_retire (va_wsS RX4 78 yX4_in wsX4_in) := goodIn_app (goodIn_of _ (by decide +kernel)) ggX4_retire_X4_in
set_option maxRecDepth 20000 in
theorem ggX4_retire_X4_goes : GoodIn wsX4_retire wsX4_goes := goodIn_r _ [14, 15, 62, 63, 64, 65, 66, 67, 68, 69, 70, 71, 72, 73, 74, 75, 76, 77, 78, 79, 80, 81, 82, 83, 84, 85, 86, 87] (by decide +kernel) (by decide +kernel)
set_option maxRecDepth 20000 in
theorem gX4_retire_X4_goes : GoodIn wsX4_retire (wsV RX4 120 RX4 yX4_goes wsX4_goes) := goodIn_app (goodIn_of _ (by decide +kernel)) ggX4_retire_X4_goes
set_option maxRecDepth 20000 in
theorem ggX4_retire_X4_wiped : GoodIn wsX4_retire wsX4_wiped := goodIn_r _ [19, 20, 21, 22, 23, 6, 24, 25, 26, 27, 1, 62, 63, 64, 65, 66, 67, 68, 69, 70, 71, 72, 73, 74, 75, 76, 77, 78, 79, 80, 81, 82, 83, 84, 85, 86, 87] (by decide +kernel) (by decide +kernel)
set_option maxRecDepth 20000 in
theorem gX4_retire_X4_wiped : GoodIn wsX4_retire (wsV RX4 143 RX4 yX4_wiped wsX4_wiped) := goodIn_app (goodIn_of _ (by decide +kernel)) ggX4_retire_X4_wiped
set_option maxRecDepth 20000 in
theorem ggX4_retire_X4_turns : GoodIn wsX4_retire wsX4_turns := goodIn_r _ [24, 25, 26, 27, 1, 62, 63, 64, 65, 66, 67, 68, 69, 70, 71, 72, 73, 74, 75, 76, 77, 78, 79, 80, 81, 82, 83, 84, 85, 86, 87] (by decide +kernel) (by decide +kernel)
set_option maxRecDepth 20000 in
theorem gX4_retire_X4_turns : GoodIn wsX4_retire (wsV RX4 88 RX4 yX4_turns wsX4_turns) := goodIn_app (goodIn_of _ (by decide +kernel)) ggX4_retire_X4_turns
set_option maxRecDepth 20000 in
theorem ggX4_retire_X4_begins : GoodIn wsX4_retire wsX4_begins := goodIn_r _ [31, 32, 33, 2, 3, 34, 35, 36, 37, 6, 38, 1, 39, 40, 41, 42, 43, 44, 45, 46, 47, 48, 49, 50, 51, 52, 53, 54, 55, 56, 57, 58, 59, 60, 61, 21, 22, 23, 24, 25, 26, 27, 62, 63, 64, 65, 66, 67, 68, 69, 70, 71, 72, 73, 74, 75, 76, 77, 78, 79, 80, 81, 82, 83, 84, 85, 86, 87] (by decide +kernel) (by decide +kernel)
set_option maxRecDepth 20000 in
theorem gX4_retire_X4_begins : GoodIn wsX4_retire (wsV RX4 117 RX4 yX4_begins wsX4_begins) := goodIn_app (goodIn_of _ (by decide +kernel)) ggX4_retire_X4_begins
theorem dX4_retire_0 : decode cX4_retire 0 = .ok (.iload_n 1, 1) := by decide +kernel
theorem dX4_retire_1 : decode cX4_retire 1 = .ok (.invokestatic 131, 3) := by decide +kernel
theorem dX4_retire_4 : decode cX4_retire 4 = .ok (.istore_n 3, 1) := by decide +kernel
theorem dX4_retire_5 : decode cX4_retire 5 = .ok (.aload_n 0, 1) := by decide +kernel
theorem dX4_retire_6 : decode cX4_retire 6 = .ok (.iload_n 3, 1) := by decide +kernel
theorem dX4_retire_7 : decode cX4_retire 7 = .ok (.iload_n 2, 1) := by decide +kernel
theorem dX4_retire_8 : decode cX4_retire 8 = .ok (.iconst 0, 1) := by decide +kernel
theorem dX4_retire_9 : decode cX4_retire 9 = .ok (.bipush 48, 2) := by decide +kernel
theorem dX4_retire_11 : decode cX4_retire 11 = .ok (.invokestatic 78, 3) := by decide +kernel
theorem dX4_retire_14 : decode cX4_retire 14 = .ok (.iload_n 3, 1) := by decide +kernel
theorem dX4_retire_15 : decode cX4_retire 15 = .ok (.ifCond .eq 17, 3) := by decide +kernel
theorem dX4_retire_18 : decode cX4_retire 18 = .ok (.aload_n 0, 1) := by decide +kernel
theorem dX4_retire_19 : decode cX4_retire 19 = .ok (.getfield 16, 3) := by decide +kernel
theorem dX4_retire_22 : decode cX4_retire 22 = .ok (.iload_n 1, 1) := by decide +kernel
theorem dX4_retire_23 : decode cX4_retire 23 = .ok (.iaload, 1) := by decide +kernel
theorem dX4_retire_24 : decode cX4_retire 24 = .ok (.iconst 5, 1) := by decide +kernel
theorem dX4_retire_25 : decode cX4_retire 25 = .ok (.if_icmp .ne 7, 3) := by decide +kernel
theorem dX4_retire_28 : decode cX4_retire 28 = .ok (.iconst 1, 1) := by decide +kernel
theorem dX4_retire_29 : decode cX4_retire 29 = .ok (.goto 4, 3) := by decide +kernel
theorem dX4_retire_32 : decode cX4_retire 32 = .ok (.iconst 0, 1) := by decide +kernel
theorem dX4_retire_33 : decode cX4_retire 33 = .ok (.invokevirtual 120, 3) := by decide +kernel
theorem dX4_retire_36 : decode cX4_retire 36 = .ok (.ifCond .ne 4, 3) := by decide +kernel
theorem dX4_retire_39 : decode cX4_retire 39 = .ok (.return_, 1) := by decide +kernel
theorem dX4_retire_40 : decode cX4_retire 40 = .ok (.iload_n 2, 1) := by decide +kernel
theorem dX4_retire_41 : decode cX4_retire 41 = .ok (.ifCond .ne 11, 3) := by decide +kernel
theorem dX4_retire_44 : decode cX4_retire 44 = .ok (.aload_n 0, 1) := by decide +kernel
theorem dX4_retire_45 : decode cX4_retire 45 = .ok (.iload_n 1, 1) := by decide +kernel
theorem dX4_retire_46 : decode cX4_retire 46 = .ok (.invokevirtual 143, 3) := by decide +kernel
theorem dX4_retire_49 : decode cX4_retire 49 = .ok (.goto 22, 3) := by decide +kernel
theorem dX4_retire_52 : decode cX4_retire 52 = .ok (.aload_n 0, 1) := by decide +kernel
theorem dX4_retire_53 : decode cX4_retire 53 = .ok (.iload_n 1, 1) := by decide +kernel
theorem dX4_retire_54 : decode cX4_retire 54 = .ok (.bipush 6, 2) := by decide +kernel
theorem dX4_retire_56 : decode cX4_retire 56 = .ok (.invokevirtual 88, 3) := by decide +kernel
theorem dX4_retire_59 : decode cX4_retire 59 = .ok (.aload_n 0, 1) := by decide +kernel
theorem dX4_retire_60 : decode cX4_retire 60 = .ok (.getfield 38, 3) := by decide +kernel
theorem dX4_retire_63 : decode cX4_retire 63 = .ok (.iload_n 1, 1) := by decide +kernel
theorem dX4_retire_64 : decode cX4_retire 64 = .ok (.aload_n 0, 1) := by decide +kernel
theorem dX4_retire_65 : decode cX4_retire 65 = .ok (.getfield 96, 3) := by decide +kernel
theorem dX4_retire_68 : decode cX4_retire 68 = .ok (.iload_n 2, 1) := by decide +kernel
theorem dX4_retire_69 : decode cX4_retire 69 = .ok (.iadd, 1) := by decide +kernel
theorem dX4_retire_70 : decode cX4_retire 70 = .ok (.iastore, 1) := by decide +kernel
theorem dX4_retire_71 : decode cX4_retire 71 = .ok (.aload_n 0, 1) := by decide +kernel
theorem dX4_retire_72 : decode cX4_retire 72 = .ok (.invokevirtual 117, 3) := by decide +kernel
theorem dX4_retire_75 : decode cX4_retire 75 = .ok (.return_, 1) := by decide +kernel
set_option maxRecDepth 20000 in
theorem ggX4_keep_X4_isMachine : GoodIn wsX4_keep wsX4_isMachine := goodIn_r _ [5, 6, 7, 4, 8] (by decide +kernel) (by decide +kernel)
set_option maxRecDepth 20000 in
theorem gX4_keep_X4_isMachine : GoodIn wsX4_keep (va_wsS RX4 131 yX4_isMachine wsX4_isMachine) := goodIn_app (goodIn_of _ (by decide +kernel)) ggX4_keep_X4_isMachine
set_option maxRecDepth 20000 in
theorem ggX4_keep_X4_goes : GoodIn wsX4_keep wsX4_goes := goodIn_r _ [12, 13, 57, 58, 59, 60, 61, 62, 63, 64, 65, 66, 67, 68, 69, 70, 71, 72, 73, 74, 75, 76, 77, 78, 79, 80, 81, 82] (by decide +kernel) (by decide +kernel)
set_option maxRecDepth 20000 in
theorem gX4_keep_X4_goes : GoodIn wsX4_keep (wsV RX4 120 RX4 yX4_goes wsX4_goes) := goodIn_app (goodIn_of _ (by decide +kernel)) ggX4_keep_X4_goes
set_option maxRecDepth 20000 in
theorem ggX4_keep_X4_turns : GoodIn wsX4_keep wsX4_turns := goodIn_r _ [17, 18, 19, 20, 1, 57, 58, 59, 60, 61, 62, 63, 64, 65, 66, 67, 68, 69, 70, 71, 72, 73, 74, 75, 76, 77, 78, 79, 80, 81, 82] (by decide +kernel) (by decide +kernel)
set_option maxRecDepth 20000 in
theorem gX4_keep_X4_turns : GoodIn wsX4_keep (wsV RX4 88 RX4 yX4_turns wsX4_turns) := goodIn_app (goodIn_of _ (by decide +kernel)) ggX4_keep_X4_turns
set_option maxRecDepth 20000 in
theorem ggX4_keep_X4_begins : GoodIn wsX4_keep wsX4_begins := goodIn_r _ [24, 25, 26, 27, 28, 29, 30, 31, 32, 4, 33, 1, 34, 35, 36, 37, 38, 39, 40, 41, 42, 43, 44, 45, 46, 47, 48, 49, 50, 51, 52, 53, 54, 55, 56, 14, 15, 16, 17, 18, 19, 20, 57, 58, 59, 60, 61, 62, 63, 64, 65, 66, 67, 68, 69, 70, 71, 72, 73, 74, 75, 76, 77, 78, 79, 80, 81, 82] (by decide +kernel) (by decide +kernel)
set_option maxRecDepth 20000 in
theorem gX4_keep_X4_begins : GoodIn wsX4_keep (wsV RX4 117 RX4 yX4_begins wsX4_begins) := goodIn_app (goodIn_of _ (by decide +kernel)) ggX4_keep_X4_begins
theorem dX4_keep_0 : decode cX4_keep 0 = .ok (.iload_n 1, 1) := by decide +kernel
theorem dX4_keep_1 : decode cX4_keep 1 = .ok (.invokestatic 131, 3) := by decide +kernel
theorem dX4_keep_4 : decode cX4_keep 4 = .ok (.istore_n 2, 1) := by decide +kernel
theorem dX4_keep_5 : decode cX4_keep 5 = .ok (.aload_n 0, 1) := by decide +kernel
theorem dX4_keep_6 : decode cX4_keep 6 = .ok (.iload_n 2, 1) := by decide +kernel
theorem dX4_keep_7 : decode cX4_keep 7 = .ok (.iload_n 2, 1) := by decide +kernel
theorem dX4_keep_8 : decode cX4_keep 8 = .ok (.ifCond .eq 18, 3) := by decide +kernel
theorem dX4_keep_11 : decode cX4_keep 11 = .ok (.aload_n 0, 1) := by decide +kernel
theorem dX4_keep_12 : decode cX4_keep 12 = .ok (.getfield 16, 3) := by decide +kernel
theorem dX4_keep_15 : decode cX4_keep 15 = .ok (.iload_n 1, 1) := by decide +kernel
theorem dX4_keep_16 : decode cX4_keep 16 = .ok (.iaload, 1) := by decide +kernel
theorem dX4_keep_17 : decode cX4_keep 17 = .ok (.bipush 6, 2) := by decide +kernel
theorem dX4_keep_19 : decode cX4_keep 19 = .ok (.if_icmp .ne 7, 3) := by decide +kernel
theorem dX4_keep_22 : decode cX4_keep 22 = .ok (.iconst 1, 1) := by decide +kernel
theorem dX4_keep_23 : decode cX4_keep 23 = .ok (.goto 4, 3) := by decide +kernel
theorem dX4_keep_26 : decode cX4_keep 26 = .ok (.iconst 0, 1) := by decide +kernel
theorem dX4_keep_27 : decode cX4_keep 27 = .ok (.iconst 1, 1) := by decide +kernel
theorem dX4_keep_28 : decode cX4_keep 28 = .ok (.invokevirtual 120, 3) := by decide +kernel
theorem dX4_keep_31 : decode cX4_keep 31 = .ok (.ifCond .eq 13, 3) := by decide +kernel
theorem dX4_keep_34 : decode cX4_keep 34 = .ok (.aload_n 0, 1) := by decide +kernel
theorem dX4_keep_35 : decode cX4_keep 35 = .ok (.iload_n 1, 1) := by decide +kernel
theorem dX4_keep_36 : decode cX4_keep 36 = .ok (.iconst 5, 1) := by decide +kernel
theorem dX4_keep_37 : decode cX4_keep 37 = .ok (.invokevirtual 88, 3) := by decide +kernel
theorem dX4_keep_40 : decode cX4_keep 40 = .ok (.aload_n 0, 1) := by decide +kernel
theorem dX4_keep_41 : decode cX4_keep 41 = .ok (.invokevirtual 117, 3) := by decide +kernel
theorem dX4_keep_44 : decode cX4_keep 44 = .ok (.return_, 1) := by decide +kernel
set_option maxRecDepth 20000 in
theorem ggX4_release_X4_isMachine : GoodIn wsX4_release wsX4_isMachine := goodIn_r _ [6, 7, 8, 5, 9] (by decide +kernel) (by decide +kernel)
set_option maxRecDepth 20000 in
theorem gX4_release_X4_isMachine : GoodIn wsX4_release (va_wsS RX4 131 yX4_isMachine wsX4_isMachine) := goodIn_app (goodIn_of _ (by decide +kernel)) ggX4_release_X4_isMachine
set_option maxRecDepth 20000 in
theorem ggX4_release_X4_goes : GoodIn wsX4_release wsX4_goes := goodIn_r _ [13, 14, 58, 59, 60, 61, 62, 63, 64, 65, 66, 67, 68, 69, 70, 71, 72, 73, 74, 75, 76, 77, 78, 79, 80, 81, 82, 83] (by decide +kernel) (by decide +kernel)
set_option maxRecDepth 20000 in
theorem gX4_release_X4_goes : GoodIn wsX4_release (wsV RX4 120 RX4 yX4_goes wsX4_goes) := goodIn_app (goodIn_of _ (by decide +kernel)) ggX4_release_X4_goes
set_option maxRecDepth 20000 in
theorem ggX4_release_X4_turns : GoodIn wsX4_release wsX4_turns := goodIn_r _ [18, 19, 20, 21, 1, 58, 59, 60, 61, 62, 63, 64, 65, 66, 67, 68, 69, 70, 71, 72, 73, 74, 75, 76, 77, 78, 79, 80, 81, 82, 83] (by decide +kernel) (by decide +kernel)
set_option maxRecDepth 20000 in
theorem gX4_release_X4_turns : GoodIn wsX4_release (wsV RX4 88 RX4 yX4_turns wsX4_turns) := goodIn_app (goodIn_of _ (by decide +kernel)) ggX4_release_X4_turns
set_option maxRecDepth 20000 in
theorem ggX4_release_X4_begins : GoodIn wsX4_release wsX4_begins := goodIn_r _ [25, 26, 27, 28, 29, 30, 31, 32, 33, 5, 34, 1, 35, 36, 37, 38, 39, 40, 41, 42, 43, 44, 45, 46, 47, 48, 49, 50, 51, 52, 53, 54, 55, 56, 57, 15, 16, 17, 18, 19, 20, 21, 58, 59, 60, 61, 62, 63, 64, 65, 66, 67, 68, 69, 70, 71, 72, 73, 74, 75, 76, 77, 78, 79, 80, 81, 82, 83] (by decide +kernel) (by decide +kernel)
set_option maxRecDepth 20000 in
theorem gX4_release_X4_begins : GoodIn wsX4_release (wsV RX4 117 RX4 yX4_begins wsX4_begins) := goodIn_app (goodIn_of _ (by decide +kernel)) ggX4_release_X4_begins
theorem dX4_release_0 : decode cX4_release 0 = .ok (.iload_n 1, 1) := by decide +kernel
theorem dX4_release_1 : decode cX4_release 1 = .ok (.invokestatic 131, 3) := by decide +kernel
theorem dX4_release_4 : decode cX4_release 4 = .ok (.istore_n 2, 1) := by decide +kernel
theorem dX4_release_5 : decode cX4_release 5 = .ok (.aload_n 0, 1) := by decide +kernel
theorem dX4_release_6 : decode cX4_release 6 = .ok (.iload_n 2, 1) := by decide +kernel
theorem dX4_release_7 : decode cX4_release 7 = .ok (.iload_n 2, 1) := by decide +kernel
theorem dX4_release_8 : decode cX4_release 8 = .ok (.ifCond .eq 18, 3) := by decide +kernel
theorem dX4_release_11 : decode cX4_release 11 = .ok (.aload_n 0, 1) := by decide +kernel
theorem dX4_release_12 : decode cX4_release 12 = .ok (.getfield 16, 3) := by decide +kernel
theorem dX4_release_15 : decode cX4_release 15 = .ok (.iload_n 1, 1) := by decide +kernel
theorem dX4_release_16 : decode cX4_release 16 = .ok (.iaload, 1) := by decide +kernel
theorem dX4_release_17 : decode cX4_release 17 = .ok (.bipush 7, 2) := by decide +kernel
theorem dX4_release_19 : decode cX4_release 19 = .ok (.if_icmp .ne 7, 3) := by decide +kernel
theorem dX4_release_22 : decode cX4_release 22 = .ok (.iconst 1, 1) := by decide +kernel
theorem dX4_release_23 : decode cX4_release 23 = .ok (.goto 4, 3) := by decide +kernel
theorem dX4_release_26 : decode cX4_release 26 = .ok (.iconst 0, 1) := by decide +kernel
theorem dX4_release_27 : decode cX4_release 27 = .ok (.iconst 1, 1) := by decide +kernel
theorem dX4_release_28 : decode cX4_release 28 = .ok (.invokevirtual 120, 3) := by decide +kernel
theorem dX4_release_31 : decode cX4_release 31 = .ok (.ifCond .eq 20, 3) := by decide +kernel
theorem dX4_release_34 : decode cX4_release 34 = .ok (.aload_n 0, 1) := by decide +kernel
theorem dX4_release_35 : decode cX4_release 35 = .ok (.iload_n 1, 1) := by decide +kernel
theorem dX4_release_36 : decode cX4_release 36 = .ok (.iconst 1, 1) := by decide +kernel
theorem dX4_release_37 : decode cX4_release 37 = .ok (.invokevirtual 88, 3) := by decide +kernel
theorem dX4_release_40 : decode cX4_release 40 = .ok (.aload_n 0, 1) := by decide +kernel
theorem dX4_release_41 : decode cX4_release 41 = .ok (.getfield 41, 3) := by decide +kernel
theorem dX4_release_44 : decode cX4_release 44 = .ok (.iload_n 1, 1) := by decide +kernel
theorem dX4_release_45 : decode cX4_release 45 = .ok (.iconst 0, 1) := by decide +kernel
theorem dX4_release_46 : decode cX4_release 46 = .ok (.iastore, 1) := by decide +kernel
theorem dX4_release_47 : decode cX4_release 47 = .ok (.aload_n 0, 1) := by decide +kernel
theorem dX4_release_48 : decode cX4_release 48 = .ok (.invokevirtual 117, 3) := by decide +kernel
theorem dX4_release_51 : decode cX4_release 51 = .ok (.return_, 1) := by decide +kernel
theorem dX4_isOver_0 : decode cX4_isOver 0 = .ok (.aload_n 0, 1) := by decide +kernel
theorem dX4_isOver_1 : decode cX4_isOver 1 = .ok (.getfield 16, 3) := by decide +kernel
theorem dX4_isOver_4 : decode cX4_isOver 4 = .ok (.iload_n 1, 1) := by decide +kernel
theorem dX4_isOver_5 : decode cX4_isOver 5 = .ok (.iaload, 1) := by decide +kernel
theorem dX4_isOver_6 : decode cX4_isOver 6 = .ok (.iload_n 2, 1) := by decide +kernel
theorem dX4_isOver_7 : decode cX4_isOver 7 = .ok (.if_icmp .ne 20, 3) := by decide +kernel
theorem dX4_isOver_10 : decode cX4_isOver 10 = .ok (.aload_n 0, 1) := by decide +kernel
theorem dX4_isOver_11 : decode cX4_isOver 11 = .ok (.getfield 38, 3) := by decide +kernel
theorem dX4_isOver_14 : decode cX4_isOver 14 = .ok (.iload_n 1, 1) := by decide +kernel
theorem dX4_isOver_15 : decode cX4_isOver 15 = .ok (.iaload, 1) := by decide +kernel
theorem dX4_isOver_16 : decode cX4_isOver 16 = .ok (.aload_n 0, 1) := by decide +kernel
theorem dX4_isOver_17 : decode cX4_isOver 17 = .ok (.getfield 96, 3) := by decide +kernel
theorem dX4_isOver_20 : decode cX4_isOver 20 = .ok (.if_icmp .gt 7, 3) := by decide +kernel
theorem dX4_isOver_23 : decode cX4_isOver 23 = .ok (.iconst 1, 1) := by decide +kernel
theorem dX4_isOver_24 : decode cX4_isOver 24 = .ok (.goto 4, 3) := by decide +kernel
theorem dX4_isOver_27 : decode cX4_isOver 27 = .ok (.iconst 0, 1) := by decide +kernel
theorem dX4_isOver_28 : decode cX4_isOver 28 = .ok (.ireturn, 1) := by decide +kernel
set_option maxRecDepth 20000 in
theorem ggX4_passes_X4_isOver : GoodIn wsX4_passes wsX4_isOver := goodIn_r _ [6, 7, 8, 1, 71, 72, 73, 74, 75, 76, 77, 78, 79, 80, 81, 82, 83, 84, 85, 86, 87, 88, 89, 90, 91, 92, 93, 94, 95, 96] (by decide +kernel) (by decide +kernel)
set_option maxRecDepth 20000 in
theorem gX4_passes_X4_isOver : GoodIn wsX4_passes (wsV RX4 146 RX4 yX4_isOver wsX4_isOver) := goodIn_app (goodIn_of _ (by decide +kernel)) ggX4_passes_X4_isOver
set_option maxRecDepth 20000 in
theorem ggX4_passes_X4_fails : GoodIn wsX4_passes wsX4_fails := goodIn_r _ [12, 13, 14, 15, 8, 1, 16, 17, 18, 5, 19, 20, 21, 22, 7, 71, 72, 73, 74, 75, 76, 77, 78, 79, 80, 81, 82, 83, 84, 85, 86, 87, 88, 89, 90, 91, 92, 93, 94, 95, 96] (by decide +kernel) (by decide +kernel)
set_option maxRecDepth 20000 in
theorem gX4_passes_X4_fails : GoodIn wsX4_passes (wsV RX4 134 RX4 yX4_fails wsX4_fails) := goodIn_app (goodIn_of _ (by decide +kernel)) ggX4_passes_X4_fails
set_option maxRecDepth 20000 in
theorem ggX4_passes_X4_wiped : GoodIn wsX4_passes wsX4_wiped := goodIn_r _ [26, 27, 16, 17, 18, 5, 19, 20, 21, 22, 7, 71, 72, 73, 74, 75, 76, 77, 78, 79, 80, 81, 82, 83, 84, 85, 86, 87, 88, 89, 90, 91, 92, 93, 94, 95, 96] (by decide +kernel) (by decide +kernel)
set_option maxRecDepth 20000 in
theorem gX4_passes_X4_wiped : GoodIn wsX4_passes (wsV RX4 143 RX4 yX4_wiped wsX4_wiped) := goodIn_app (goodIn_of _ (by decide +kernel)) ggX4_passes_X4_wiped
set_option maxRecDepth 20000 in
theorem ggX4_passes_X4_queues : GoodIn wsX4_passes wsX4_queues := goodIn_r _ [31, 16, 17, 18, 5, 19, 20, 21, 22, 7, 32, 33, 34, 35, 36, 37, 71, 72, 73, 74, 75, 76, 77, 78, 79, 80, 81, 82, 83, 84, 85, 86, 87, 88, 89, 90, 91, 92, 93, 94, 95, 96] (by decide +kernel) (by decide +kernel)
set_option maxRecDepth 20000 in
theorem gX4_passes_X4_queues : GoodIn wsX4_passes (wsV RX4 140 RX4 yX4_queues wsX4_queues) := goodIn_app (goodIn_of _ (by decide +kernel)) ggX4_passes_X4_queues
set_option maxRecDepth 20000 in
theorem ggX4_passes_X4_begins : GoodIn wsX4_passes wsX4_begins := goodIn_r _ [41, 42, 43, 8, 1, 44, 45, 46, 47, 5, 48, 7, 49, 36, 50, 51, 52, 53, 54, 55, 56, 57, 58, 59, 60, 61, 62, 63, 64, 65, 66, 67, 68, 69, 70, 16, 17, 18, 19, 20, 21, 22, 71, 72, 73, 74, 75, 76, 77, 78, 79, 80, 81, 82, 83, 84, 85, 86, 87, 88, 89, 90, 91, 92, 93, 94, 95, 96] (by decide +kernel) (by decide +kernel)
set_option maxRecDepth 20000 in
theorem gX4_passes_X4_begins : GoodIn wsX4_passes (wsV RX4 117 RX4 yX4_begins wsX4_begins) := goodIn_app (goodIn_of _ (by decide +kernel)) ggX4_passes_X4_begins
theorem dX4_passes_0 : decode cX4_passes 0 = .ok (.aload_n 0, 1) := by decide +kernel
theorem dX4_passes_1 : decode cX4_passes 1 = .ok (.dup, 1) := by decide +kernel
theorem dX4_passes_2 : decode cX4_passes 2 = .ok (.getfield 96, 3) := by decide +kernel
theorem dX4_passes_5 : decode cX4_passes 5 = .ok (.iconst 1, 1) := by decide +kernel
theorem dX4_passes_6 : decode cX4_passes 6 = .ok (.iadd, 1) := by decide +kernel
theorem dX4_passes_7 : decode cX4_passes 7 = .ok (.putfield 96, 3) := by decide +kernel
theorem dX4_passes_10 : decode cX4_passes 10 = .ok (.iconst 0, 1) := by decide +kernel
theorem dX4_passes_11 : decode cX4_passes 11 = .ok (.istore_n 1, 1) := by decide +kernel
theorem dX4_passes_12 : decode cX4_passes 12 = .ok (.iload_n 1, 1) := by decide +kernel
theorem dX4_passes_13 : decode cX4_passes 13 = .ok (.bipush 16, 2) := by decide +kernel
theorem dX4_passes_15 : decode cX4_passes 15 = .ok (.if_icmp .ge 23, 3) := by decide +kernel
theorem dX4_passes_18 : decode cX4_passes 18 = .ok (.aload_n 0, 1) := by decide +kernel
theorem dX4_passes_19 : decode cX4_passes 19 = .ok (.iload_n 1, 1) := by decide +kernel
theorem dX4_passes_20 : decode cX4_passes 20 = .ok (.iconst 3, 1) := by decide +kernel
theorem dX4_passes_21 : decode cX4_passes 21 = .ok (.invokevirtual 146, 3) := by decide +kernel
theorem dX4_passes_24 : decode cX4_passes 24 = .ok (.ifCond .eq 8, 3) := by decide +kernel
theorem dX4_passes_27 : decode cX4_passes 27 = .ok (.aload_n 0, 1) := by decide +kernel
theorem dX4_passes_28 : decode cX4_passes 28 = .ok (.iload_n 1, 1) := by decide +kernel
theorem dX4_passes_29 : decode cX4_passes 29 = .ok (.invokevirtual 134, 3) := by decide +kernel
theorem dX4_passes_32 : decode cX4_passes 32 = .ok (.iinc 1 1, 3) := by decide +kernel
theorem dX4_passes_35 : decode cX4_passes 35 = .ok (.goto (-23), 3) := by decide +kernel
theorem dX4_passes_38 : decode cX4_passes 38 = .ok (.iconst 0, 1) := by decide +kernel
theorem dX4_passes_39 : decode cX4_passes 39 = .ok (.istore_n 1, 1) := by decide +kernel
theorem dX4_passes_40 : decode cX4_passes 40 = .ok (.iload_n 1, 1) := by decide +kernel
theorem dX4_passes_41 : decode cX4_passes 41 = .ok (.bipush 16, 2) := by decide +kernel
theorem dX4_passes_43 : decode cX4_passes 43 = .ok (.if_icmp .ge 24, 3) := by decide +kernel
theorem dX4_passes_46 : decode cX4_passes 46 = .ok (.aload_n 0, 1) := by decide +kernel
theorem dX4_passes_47 : decode cX4_passes 47 = .ok (.iload_n 1, 1) := by decide +kernel
theorem dX4_passes_48 : decode cX4_passes 48 = .ok (.bipush 6, 2) := by decide +kernel
theorem dX4_passes_50 : decode cX4_passes 50 = .ok (.invokevirtual 146, 3) := by decide +kernel
theorem dX4_passes_53 : decode cX4_passes 53 = .ok (.ifCond .eq 8, 3) := by decide +kernel
theorem dX4_passes_56 : decode cX4_passes 56 = .ok (.aload_n 0, 1) := by decide +kernel
theorem dX4_passes_57 : decode cX4_passes 57 = .ok (.iload_n 1, 1) := by decide +kernel
theorem dX4_passes_58 : decode cX4_passes 58 = .ok (.invokevirtual 143, 3) := by decide +kernel
theorem dX4_passes_61 : decode cX4_passes 61 = .ok (.iinc 1 1, 3) := by decide +kernel
theorem dX4_passes_64 : decode cX4_passes 64 = .ok (.goto (-24), 3) := by decide +kernel
theorem dX4_passes_67 : decode cX4_passes 67 = .ok (.iconst 0, 1) := by decide +kernel
theorem dX4_passes_68 : decode cX4_passes 68 = .ok (.istore_n 1, 1) := by decide +kernel
theorem dX4_passes_69 : decode cX4_passes 69 = .ok (.iload_n 1, 1) := by decide +kernel
theorem dX4_passes_70 : decode cX4_passes 70 = .ok (.bipush 16, 2) := by decide +kernel
theorem dX4_passes_72 : decode cX4_passes 72 = .ok (.if_icmp .ge 23, 3) := by decide +kernel
theorem dX4_passes_75 : decode cX4_passes 75 = .ok (.aload_n 0, 1) := by decide +kernel
theorem dX4_passes_76 : decode cX4_passes 76 = .ok (.iload_n 1, 1) := by decide +kernel
theorem dX4_passes_77 : decode cX4_passes 77 = .ok (.iconst 4, 1) := by decide +kernel
theorem dX4_passes_78 : decode cX4_passes 78 = .ok (.invokevirtual 146, 3) := by decide +kernel
theorem dX4_passes_81 : decode cX4_passes 81 = .ok (.ifCond .eq 8, 3) := by decide +kernel
theorem dX4_passes_84 : decode cX4_passes 84 = .ok (.aload_n 0, 1) := by decide +kernel
theorem dX4_passes_85 : decode cX4_passes 85 = .ok (.iload_n 1, 1) := by decide +kernel
theorem dX4_passes_86 : decode cX4_passes 86 = .ok (.invokevirtual 140, 3) := by decide +kernel
theorem dX4_passes_89 : decode cX4_passes 89 = .ok (.iinc 1 1, 3) := by decide +kernel
theorem dX4_passes_92 : decode cX4_passes 92 = .ok (.goto (-23), 3) := by decide +kernel
theorem dX4_passes_95 : decode cX4_passes 95 = .ok (.aload_n 0, 1) := by decide +kernel
theorem dX4_passes_96 : decode cX4_passes 96 = .ok (.invokevirtual 117, 3) := by decide +kernel
theorem dX4_passes_99 : decode cX4_passes 99 = .ok (.return_, 1) := by decide +kernel
set_option maxRecDepth 20000 in
theorem ggX4_advance_X4_in : GoodIn wsX4_advance wsX4_in := goodIn_r _ [5] (by decide +kernel) (by decide +kernel)
set_option maxRecDepth 20000 in
theorem gX4_advance_X4_in : GoodIn wsX4_advance (va_wsS RX4 78 yX4_in wsX4_in) := goodIn_app (goodIn_of _ (by decide +kernel)) ggX4_advance_X4_in
set_option maxRecDepth 20000 in
theorem ggX4_advance_X4_goes : GoodIn wsX4_advance wsX4_goes := goodIn_r _ [9, 10, 83, 84, 85, 86, 87, 88, 89, 90, 91, 92, 93, 94, 95, 96, 97, 98, 99, 100, 101, 102, 103, 104, 105, 106, 107, 108] (by decide +kernel) (by decide +kernel)
set_option maxRecDepth 20000 in
theorem gX4_advance_X4_goes : GoodIn wsX4_advance (wsV RX4 120 RX4 yX4_goes wsX4_goes) := goodIn_app (goodIn_of _ (by decide +kernel)) ggX4_advance_X4_goes
set_option maxRecDepth 20000 in
theorem ggX4_advance_X4_passes : GoodIn wsX4_advance wsX4_passes := goodIn_r _ [14, 15, 16, 17, 18, 4, 19, 20, 21, 22, 23, 24, 25, 26, 27, 28, 29, 30, 31, 32, 33, 1, 34, 35, 36, 37, 38, 39, 40, 41, 42, 43, 44, 45, 46, 47, 48, 49, 50, 51, 52, 53, 54, 55, 56, 57, 58, 59, 60, 61, 62, 63, 64, 65, 66, 67, 68, 69, 70, 71, 72, 73, 74, 75, 76, 77, 78, 79, 80, 81, 82, 83, 84, 85, 86, 87, 88, 89, 90, 91, 92, 93, 94, 95, 96, 97, 98, 99, 100, 101, 102, 103, 104, 105, 106, 107, 108] (by decide +kernel) (by decide +kernel)
set_option maxRecDepth 20000 in
theorem gX4_advance_X4_passes : GoodIn wsX4_advance (wsV RX4 149 RX4 yX4_passes wsX4_passes) := goodIn_app (goodIn_of _ (by decide +kernel)) ggX4_advance_X4_passes
theorem dX4_advance_0 : decode cX4_advance 0 = .ok (.aload_n 0, 1) := by decide +kernel
theorem dX4_advance_1 : decode cX4_advance 1 = .ok (.iload_n 1, 1) := by decide +kernel
theorem dX4_advance_2 : decode cX4_advance 2 = .ok (.iconst 1, 1) := by decide +kernel
theorem dX4_advance_3 : decode cX4_advance 3 = .ok (.sipush 200, 3) := by decide +kernel
theorem dX4_advance_6 : decode cX4_advance 6 = .ok (.invokestatic 78, 3) := by decide +kernel
theorem dX4_advance_9 : decode cX4_advance 9 = .ok (.iconst 1, 1) := by decide +kernel
theorem dX4_advance_10 : decode cX4_advance 10 = .ok (.iconst 1, 1) := by decide +kernel
theorem dX4_advance_11 : decode cX4_advance 11 = .ok (.invokevirtual 120, 3) := by decide +kernel
theorem dX4_advance_14 : decode cX4_advance 14 = .ok (.ifCond .ne 5, 3) := by decide +kernel
theorem dX4_advance_17 : decode cX4_advance 17 = .ok (.iconst 0, 1) := by decide +kernel
theorem dX4_advance_18 : decode cX4_advance 18 = .ok (.ireturn, 1) := by decide +kernel
theorem dX4_advance_19 : decode cX4_advance 19 = .ok (.aload_n 0, 1) := by decide +kernel
theorem dX4_advance_20 : decode cX4_advance 20 = .ok (.getfield 82, 3) := by decide +kernel
theorem dX4_advance_23 : decode cX4_advance 23 = .ok (.istore_n 2, 1) := by decide +kernel
theorem dX4_advance_24 : decode cX4_advance 24 = .ok (.iconst 0, 1) := by decide +kernel
theorem dX4_advance_25 : decode cX4_advance 25 = .ok (.istore_n 3, 1) := by decide +kernel
theorem dX4_advance_26 : decode cX4_advance 26 = .ok (.iload_n 3, 1) := by decide +kernel
theorem dX4_advance_27 : decode cX4_advance 27 = .ok (.iload_n 1, 1) := by decide +kernel
theorem dX4_advance_28 : decode cX4_advance 28 = .ok (.if_icmp .ge 13, 3) := by decide +kernel
theorem dX4_advance_31 : decode cX4_advance 31 = .ok (.aload_n 0, 1) := by decide +kernel
theorem dX4_advance_32 : decode cX4_advance 32 = .ok (.invokevirtual 149, 3) := by decide +kernel
theorem dX4_advance_35 : decode cX4_advance 35 = .ok (.iinc 3 1, 3) := by decide +kernel
theorem dX4_advance_38 : decode cX4_advance 38 = .ok (.goto (-12), 3) := by decide +kernel
theorem dX4_advance_41 : decode cX4_advance 41 = .ok (.aload_n 0, 1) := by decide +kernel
theorem dX4_advance_42 : decode cX4_advance 42 = .ok (.getfield 82, 3) := by decide +kernel
theorem dX4_advance_45 : decode cX4_advance 45 = .ok (.iload_n 2, 1) := by decide +kernel
theorem dX4_advance_46 : decode cX4_advance 46 = .ok (.isub, 1) := by decide +kernel
theorem dX4_advance_47 : decode cX4_advance 47 = .ok (.ireturn, 1) := by decide +kernel
set_option maxRecDepth 20000 in
theorem ggX4_now_X4_told : GoodIn wsX4_now wsX4_told := goodIn_r _ [6, 7, 8, 9, 10, 11, 12, 13, 14, 15, 16, 17, 18, 19, 20, 21, 22, 23, 24, 25, 26, 27, 28, 29, 30, 31, 32, 33] (by decide +kernel) (by decide +kernel)
set_option maxRecDepth 20000 in
theorem gX4_now_X4_told : GoodIn wsX4_now (wsV RX4 152 RX4 yX4_told wsX4_told) := goodIn_app (goodIn_of _ (by decide +kernel)) ggX4_now_X4_told
theorem dX4_now_0 : decode cX4_now 0 = .ok (.aload_n 0, 1) := by decide +kernel
theorem dX4_now_1 : decode cX4_now 1 = .ok (.aload_n 0, 1) := by decide +kernel
theorem dX4_now_2 : decode cX4_now 2 = .ok (.getfield 96, 3) := by decide +kernel
theorem dX4_now_5 : decode cX4_now 5 = .ok (.invokevirtual 152, 3) := by decide +kernel
theorem dX4_now_8 : decode cX4_now 8 = .ok (.ireturn, 1) := by decide +kernel
set_option maxRecDepth 20000 in
theorem ggX4_stateOf_X4_isMachine : GoodIn wsX4_stateOf wsX4_isMachine := goodIn_r _ [5, 6, 7, 4, 8] (by decide +kernel) (by decide +kernel)
set_option maxRecDepth 20000 in
theorem gX4_stateOf_X4_isMachine : GoodIn wsX4_stateOf (va_wsS RX4 131 yX4_isMachine wsX4_isMachine) := goodIn_app (goodIn_of _ (by decide +kernel)) ggX4_stateOf_X4_isMachine
set_option maxRecDepth 20000 in
theorem ggX4_stateOf_X4_goes : GoodIn wsX4_stateOf wsX4_goes := goodIn_r _ [12, 13, 14, 15, 16, 17, 18, 19, 20, 21, 22, 23, 24, 25, 26, 27, 28, 29, 30, 31, 32, 33, 34, 35, 36, 37, 38, 39] (by decide +kernel) (by decide +kernel)
set_option maxRecDepth 20000 in
theorem gX4_stateOf_X4_goes : GoodIn wsX4_stateOf (wsV RX4 120 RX4 yX4_goes wsX4_goes) := goodIn_app (goodIn_of _ (by decide +kernel)) ggX4_stateOf_X4_goes
theorem dX4_stateOf_0 : decode cX4_stateOf 0 = .ok (.aload_n 0, 1) := by decide +kernel
theorem dX4_stateOf_1 : decode cX4_stateOf 1 = .ok (.iload_n 1, 1) := by decide +kernel
theorem dX4_stateOf_2 : decode cX4_stateOf 2 = .ok (.invokestatic 131, 3) := by decide +kernel
theorem dX4_stateOf_5 : decode cX4_stateOf 5 = .ok (.iconst 1, 1) := by decide +kernel
theorem dX4_stateOf_6 : decode cX4_stateOf 6 = .ok (.iconst 1, 1) := by decide +kernel
theorem dX4_stateOf_7 : decode cX4_stateOf 7 = .ok (.invokevirtual 120, 3) := by decide +kernel
theorem dX4_stateOf_10 : decode cX4_stateOf 10 = .ok (.ifCond .eq 12, 3) := by decide +kernel
theorem dX4_stateOf_13 : decode cX4_stateOf 13 = .ok (.aload_n 0, 1) := by decide +kernel
theorem dX4_stateOf_14 : decode cX4_stateOf 14 = .ok (.getfield 16, 3) := by decide +kernel
theorem dX4_stateOf_17 : decode cX4_stateOf 17 = .ok (.iload_n 1, 1) := by decide +kernel
theorem dX4_stateOf_18 : decode cX4_stateOf 18 = .ok (.iaload, 1) := by decide +kernel
theorem dX4_stateOf_19 : decode cX4_stateOf 19 = .ok (.goto 4, 3) := by decide +kernel
theorem dX4_stateOf_22 : decode cX4_stateOf 22 = .ok (.iconst 0, 1) := by decide +kernel
theorem dX4_stateOf_23 : decode cX4_stateOf 23 = .ok (.ireturn, 1) := by decide +kernel
set_option maxRecDepth 20000 in
theorem ggX4_why_X4_match : GoodIn wsX4_why wsX4_match := goodIn_r _ [6, 7, 8, 9, 10, 5, 11, 12, 1, 13, 14, 15, 16, 17, 18, 19, 20, 21, 22, 23, 24, 25, 26, 27, 28, 29, 30, 31, 32, 33, 34, 35, 36, 37, 38, 39, 40, 41, 42, 43, 44, 45] (by decide +kernel) (by decide +kernel)
set_option maxRecDepth 20000 in
theorem gX4_why_X4_match : GoodIn wsX4_why (wsV RX4 114 RX4 yX4_match wsX4_match) := goodIn_app (goodIn_of _ (by decide +kernel)) ggX4_why_X4_match
theorem dX4_why_0 : decode cX4_why 0 = .ok (.aload_n 0, 1) := by decide +kernel
theorem dX4_why_1 : decode cX4_why 1 = .ok (.getfield 16, 3) := by decide +kernel
theorem dX4_why_4 : decode cX4_why 4 = .ok (.iload_n 1, 1) := by decide +kernel
theorem dX4_why_5 : decode cX4_why 5 = .ok (.iaload, 1) := by decide +kernel
theorem dX4_why_6 : decode cX4_why 6 = .ok (.tableswitch 89 0 7 #[46, 48, 63, 78, 80, 89, 83, 86], 46) := by decide +kernel
theorem dX4_why_52 : decode cX4_why 52 = .ok (.iconst 1, 1) := by decide +kernel
theorem dX4_why_53 : decode cX4_why 53 = .ok (.ireturn, 1) := by decide +kernel
theorem dX4_why_54 : decode cX4_why 54 = .ok (.aload_n 0, 1) := by decide +kernel
theorem dX4_why_55 : decode cX4_why 55 = .ok (.iload_n 1, 1) := by decide +kernel
theorem dX4_why_56 : decode cX4_why 56 = .ok (.invokevirtual 114, 3) := by decide +kernel
theorem dX4_why_59 : decode cX4_why 59 = .ok (.iconst (-1), 1) := by decide +kernel
theorem dX4_why_60 : decode cX4_why 60 = .ok (.if_icmp .ne 7, 3) := by decide +kernel
theorem dX4_why_63 : decode cX4_why 63 = .ok (.iconst 2, 1) := by decide +kernel
theorem dX4_why_64 : decode cX4_why 64 = .ok (.goto 4, 3) := by decide +kernel
theorem dX4_why_67 : decode cX4_why 67 = .ok (.iconst 3, 1) := by decide +kernel
theorem dX4_why_68 : decode cX4_why 68 = .ok (.ireturn, 1) := by decide +kernel
theorem dX4_why_69 : decode cX4_why 69 = .ok (.aload_n 0, 1) := by decide +kernel
theorem dX4_why_70 : decode cX4_why 70 = .ok (.iload_n 1, 1) := by decide +kernel
theorem dX4_why_71 : decode cX4_why 71 = .ok (.invokevirtual 114, 3) := by decide +kernel
theorem dX4_why_74 : decode cX4_why 74 = .ok (.iconst (-1), 1) := by decide +kernel
theorem dX4_why_75 : decode cX4_why 75 = .ok (.if_icmp .ne 7, 3) := by decide +kernel
theorem dX4_why_78 : decode cX4_why 78 = .ok (.iconst 2, 1) := by decide +kernel
theorem dX4_why_79 : decode cX4_why 79 = .ok (.goto 4, 3) := by decide +kernel
theorem dX4_why_82 : decode cX4_why 82 = .ok (.iconst 4, 1) := by decide +kernel
theorem dX4_why_83 : decode cX4_why 83 = .ok (.ireturn, 1) := by decide +kernel
theorem dX4_why_84 : decode cX4_why 84 = .ok (.iconst 5, 1) := by decide +kernel
theorem dX4_why_85 : decode cX4_why 85 = .ok (.ireturn, 1) := by decide +kernel
theorem dX4_why_86 : decode cX4_why 86 = .ok (.bipush 6, 2) := by decide +kernel
theorem dX4_why_88 : decode cX4_why 88 = .ok (.ireturn, 1) := by decide +kernel
theorem dX4_why_89 : decode cX4_why 89 = .ok (.bipush 7, 2) := by decide +kernel
theorem dX4_why_91 : decode cX4_why 91 = .ok (.ireturn, 1) := by decide +kernel
theorem dX4_why_92 : decode cX4_why 92 = .ok (.bipush 8, 2) := by decide +kernel
theorem dX4_why_94 : decode cX4_why 94 = .ok (.ireturn, 1) := by decide +kernel
theorem dX4_why_95 : decode cX4_why 95 = .ok (.iconst 0, 1) := by decide +kernel
theorem dX4_why_96 : decode cX4_why 96 = .ok (.ireturn, 1) := by decide +kernel
set_option maxRecDepth 20000 in
theorem ggX4_reason_X4_isMachine : GoodIn wsX4_reason wsX4_isMachine := goodIn_r _ [4, 5, 6, 3, 7] (by decide +kernel) (by decide +kernel)
set_option maxRecDepth 20000 in
theorem gX4_reason_X4_isMachine : GoodIn wsX4_reason (va_wsS RX4 131 yX4_isMachine wsX4_isMachine) := goodIn_app (goodIn_of _ (by decide +kernel)) ggX4_reason_X4_isMachine
set_option maxRecDepth 20000 in
theorem ggX4_reason_X4_goes : GoodIn wsX4_reason wsX4_goes := goodIn_r _ [11, 12, 35, 36, 37, 38, 39, 40, 41, 42, 43, 44, 45, 46, 47, 48, 49, 50, 51, 52, 53, 54, 55, 56, 57, 58, 59, 60] (by decide +kernel) (by decide +kernel)
set_option maxRecDepth 20000 in
theorem gX4_reason_X4_goes : GoodIn wsX4_reason (wsV RX4 120 RX4 yX4_goes wsX4_goes) := goodIn_app (goodIn_of _ (by decide +kernel)) ggX4_reason_X4_goes
set_option maxRecDepth 20000 in
theorem ggX4_reason_X4_why : GoodIn wsX4_reason wsX4_why := goodIn_r _ [16, 17, 18, 19, 20, 3, 21, 22, 23, 24, 25, 26, 27, 28, 29, 30, 31, 32, 33, 34, 35, 36, 37, 38, 39, 40, 41, 42, 43, 44, 45, 46, 47, 48, 49, 50, 51, 52, 53, 54, 55, 56, 57, 58, 59, 60] (by decide +kernel) (by decide +kernel)
set_option maxRecDepth 20000 in
theorem gX4_reason_X4_why : GoodIn wsX4_reason (wsV RX4 155 RX4 yX4_why wsX4_why) := goodIn_app (goodIn_of _ (by decide +kernel)) ggX4_reason_X4_why
theorem dX4_reason_0 : decode cX4_reason 0 = .ok (.aload_n 0, 1) := by decide +kernel
theorem dX4_reason_1 : decode cX4_reason 1 = .ok (.iload_n 1, 1) := by decide +kernel
theorem dX4_reason_2 : decode cX4_reason 2 = .ok (.invokestatic 131, 3) := by decide +kernel
theorem dX4_reason_5 : decode cX4_reason 5 = .ok (.iconst 1, 1) := by decide +kernel
theorem dX4_reason_6 : decode cX4_reason 6 = .ok (.iconst 1, 1) := by decide +kernel
theorem dX4_reason_7 : decode cX4_reason 7 = .ok (.invokevirtual 120, 3) := by decide +kernel
theorem dX4_reason_10 : decode cX4_reason 10 = .ok (.ifCond .eq 11, 3) := by decide +kernel
theorem dX4_reason_13 : decode cX4_reason 13 = .ok (.aload_n 0, 1) := by decide +kernel
theorem dX4_reason_14 : decode cX4_reason 14 = .ok (.iload_n 1, 1) := by decide +kernel
theorem dX4_reason_15 : decode cX4_reason 15 = .ok (.invokevirtual 155, 3) := by decide +kernel
theorem dX4_reason_18 : decode cX4_reason 18 = .ok (.goto 4, 3) := by decide +kernel
theorem dX4_reason_21 : decode cX4_reason 21 = .ok (.iconst 0, 1) := by decide +kernel
theorem dX4_reason_22 : decode cX4_reason 22 = .ok (.ireturn, 1) := by decide +kernel
set_option maxRecDepth 20000 in
theorem ggX4_matchOf_X4_isMachine : GoodIn wsX4_matchOf wsX4_isMachine := goodIn_r _ [4, 5, 6, 3, 7] (by decide +kernel) (by decide +kernel)
set_option maxRecDepth 20000 in
theorem gX4_matchOf_X4_isMachine : GoodIn wsX4_matchOf (va_wsS RX4 131 yX4_isMachine wsX4_isMachine) := goodIn_app (goodIn_of _ (by decide +kernel)) ggX4_matchOf_X4_isMachine
set_option maxRecDepth 20000 in
theorem ggX4_matchOf_X4_goes : GoodIn wsX4_matchOf wsX4_goes := goodIn_r _ [11, 12, 31, 32, 33, 34, 35, 36, 37, 38, 39, 40, 41, 42, 43, 44, 45, 46, 47, 48, 49, 50, 51, 52, 53, 54, 55, 56] (by decide +kernel) (by decide +kernel)
set_option maxRecDepth 20000 in
theorem gX4_matchOf_X4_goes : GoodIn wsX4_matchOf (wsV RX4 120 RX4 yX4_goes wsX4_goes) := goodIn_app (goodIn_of _ (by decide +kernel)) ggX4_matchOf_X4_goes
set_option maxRecDepth 20000 in
theorem ggX4_matchOf_X4_match : GoodIn wsX4_matchOf wsX4_match := goodIn_r _ [16, 17, 18, 19, 20, 3, 21, 22, 23, 24, 25, 26, 27, 28, 29, 30, 31, 32, 33, 34, 35, 36, 37, 38, 39, 40, 41, 42, 43, 44, 45, 46, 47, 48, 49, 50, 51, 52, 53, 54, 55, 56] (by decide +kernel) (by decide +kernel)
set_option maxRecDepth 20000 in
theorem gX4_matchOf_X4_match : GoodIn wsX4_matchOf (wsV RX4 114 RX4 yX4_match wsX4_match) := goodIn_app (goodIn_of _ (by decide +kernel)) ggX4_matchOf_X4_match
theorem dX4_matchOf_0 : decode cX4_matchOf 0 = .ok (.aload_n 0, 1) := by decide +kernel
theorem dX4_matchOf_1 : decode cX4_matchOf 1 = .ok (.iload_n 1, 1) := by decide +kernel
theorem dX4_matchOf_2 : decode cX4_matchOf 2 = .ok (.invokestatic 131, 3) := by decide +kernel
theorem dX4_matchOf_5 : decode cX4_matchOf 5 = .ok (.iconst 1, 1) := by decide +kernel
theorem dX4_matchOf_6 : decode cX4_matchOf 6 = .ok (.iconst 1, 1) := by decide +kernel
theorem dX4_matchOf_7 : decode cX4_matchOf 7 = .ok (.invokevirtual 120, 3) := by decide +kernel
theorem dX4_matchOf_10 : decode cX4_matchOf 10 = .ok (.ifCond .eq 11, 3) := by decide +kernel
theorem dX4_matchOf_13 : decode cX4_matchOf 13 = .ok (.aload_n 0, 1) := by decide +kernel
theorem dX4_matchOf_14 : decode cX4_matchOf 14 = .ok (.iload_n 1, 1) := by decide +kernel
theorem dX4_matchOf_15 : decode cX4_matchOf 15 = .ok (.invokevirtual 114, 3) := by decide +kernel
theorem dX4_matchOf_18 : decode cX4_matchOf 18 = .ok (.goto 4, 3) := by decide +kernel
theorem dX4_matchOf_21 : decode cX4_matchOf 21 = .ok (.iconst 0, 1) := by decide +kernel
theorem dX4_matchOf_22 : decode cX4_matchOf 22 = .ok (.ireturn, 1) := by decide +kernel
set_option maxRecDepth 20000 in
theorem ggX4_imageOf_X4_isMachine : GoodIn wsX4_imageOf wsX4_isMachine := goodIn_r _ [6, 7, 8, 5, 9] (by decide +kernel) (by decide +kernel)
set_option maxRecDepth 20000 in
theorem gX4_imageOf_X4_isMachine : GoodIn wsX4_imageOf (va_wsS RX4 131 yX4_isMachine wsX4_isMachine) := goodIn_app (goodIn_of _ (by decide +kernel)) ggX4_imageOf_X4_isMachine
set_option maxRecDepth 20000 in
theorem ggX4_imageOf_X4_goes : GoodIn wsX4_imageOf wsX4_goes := goodIn_r _ [13, 14, 15, 16, 17, 18, 19, 20, 21, 22, 23, 24, 25, 26, 27, 28, 29, 30, 31, 32, 33, 34, 35, 36, 37, 38, 39, 40] (by decide +kernel) (by decide +kernel)
set_option maxRecDepth 20000 in
theorem gX4_imageOf_X4_goes : GoodIn wsX4_imageOf (wsV RX4 120 RX4 yX4_goes wsX4_goes) := goodIn_app (goodIn_of _ (by decide +kernel)) ggX4_imageOf_X4_goes
theorem dX4_imageOf_0 : decode cX4_imageOf 0 = .ok (.aload_n 0, 1) := by decide +kernel
theorem dX4_imageOf_1 : decode cX4_imageOf 1 = .ok (.iload_n 1, 1) := by decide +kernel
theorem dX4_imageOf_2 : decode cX4_imageOf 2 = .ok (.invokestatic 131, 3) := by decide +kernel
theorem dX4_imageOf_5 : decode cX4_imageOf 5 = .ok (.iconst 1, 1) := by decide +kernel
theorem dX4_imageOf_6 : decode cX4_imageOf 6 = .ok (.iconst 1, 1) := by decide +kernel
theorem dX4_imageOf_7 : decode cX4_imageOf 7 = .ok (.invokevirtual 120, 3) := by decide +kernel
theorem dX4_imageOf_10 : decode cX4_imageOf 10 = .ok (.ifCond .ne 5, 3) := by decide +kernel
theorem dX4_imageOf_13 : decode cX4_imageOf 13 = .ok (.iconst 0, 1) := by decide +kernel
theorem dX4_imageOf_14 : decode cX4_imageOf 14 = .ok (.ireturn, 1) := by decide +kernel
theorem dX4_imageOf_15 : decode cX4_imageOf 15 = .ok (.aload_n 0, 1) := by decide +kernel
theorem dX4_imageOf_16 : decode cX4_imageOf 16 = .ok (.getfield 16, 3) := by decide +kernel
theorem dX4_imageOf_19 : decode cX4_imageOf 19 = .ok (.iload_n 1, 1) := by decide +kernel
theorem dX4_imageOf_20 : decode cX4_imageOf 20 = .ok (.iaload, 1) := by decide +kernel
theorem dX4_imageOf_21 : decode cX4_imageOf 21 = .ok (.iconst 3, 1) := by decide +kernel
theorem dX4_imageOf_22 : decode cX4_imageOf 22 = .ok (.if_icmp .eq 24, 3) := by decide +kernel
theorem dX4_imageOf_25 : decode cX4_imageOf 25 = .ok (.aload_n 0, 1) := by decide +kernel
theorem dX4_imageOf_26 : decode cX4_imageOf 26 = .ok (.getfield 16, 3) := by decide +kernel
theorem dX4_imageOf_29 : decode cX4_imageOf 29 = .ok (.iload_n 1, 1) := by decide +kernel
theorem dX4_imageOf_30 : decode cX4_imageOf 30 = .ok (.iaload, 1) := by decide +kernel
theorem dX4_imageOf_31 : decode cX4_imageOf 31 = .ok (.iconst 5, 1) := by decide +kernel
theorem dX4_imageOf_32 : decode cX4_imageOf 32 = .ok (.if_icmp .eq 14, 3) := by decide +kernel
theorem dX4_imageOf_35 : decode cX4_imageOf 35 = .ok (.aload_n 0, 1) := by decide +kernel
theorem dX4_imageOf_36 : decode cX4_imageOf 36 = .ok (.getfield 16, 3) := by decide +kernel
theorem dX4_imageOf_39 : decode cX4_imageOf 39 = .ok (.iload_n 1, 1) := by decide +kernel
theorem dX4_imageOf_40 : decode cX4_imageOf 40 = .ok (.iaload, 1) := by decide +kernel
theorem dX4_imageOf_41 : decode cX4_imageOf 41 = .ok (.bipush 6, 2) := by decide +kernel
theorem dX4_imageOf_43 : decode cX4_imageOf 43 = .ok (.if_icmp .ne 7, 3) := by decide +kernel
theorem dX4_imageOf_46 : decode cX4_imageOf 46 = .ok (.iconst 1, 1) := by decide +kernel
theorem dX4_imageOf_47 : decode cX4_imageOf 47 = .ok (.goto 4, 3) := by decide +kernel
theorem dX4_imageOf_50 : decode cX4_imageOf 50 = .ok (.iconst 0, 1) := by decide +kernel
theorem dX4_imageOf_51 : decode cX4_imageOf 51 = .ok (.istore_n 2, 1) := by decide +kernel
theorem dX4_imageOf_52 : decode cX4_imageOf 52 = .ok (.iload_n 2, 1) := by decide +kernel
theorem dX4_imageOf_53 : decode cX4_imageOf 53 = .ok (.ifCond .eq 12, 3) := by decide +kernel
theorem dX4_imageOf_56 : decode cX4_imageOf 56 = .ok (.aload_n 0, 1) := by decide +kernel
theorem dX4_imageOf_57 : decode cX4_imageOf 57 = .ok (.getfield 35, 3) := by decide +kernel
theorem dX4_imageOf_60 : decode cX4_imageOf 60 = .ok (.iload_n 1, 1) := by decide +kernel
theorem dX4_imageOf_61 : decode cX4_imageOf 61 = .ok (.iaload, 1) := by decide +kernel
theorem dX4_imageOf_62 : decode cX4_imageOf 62 = .ok (.goto 4, 3) := by decide +kernel
theorem dX4_imageOf_65 : decode cX4_imageOf 65 = .ok (.iconst (-1), 1) := by decide +kernel
theorem dX4_imageOf_66 : decode cX4_imageOf 66 = .ok (.ireturn, 1) := by decide +kernel
theorem dX4_isEnding_0 : decode cX4_isEnding 0 = .ok (.aload_n 0, 1) := by decide +kernel
theorem dX4_isEnding_1 : decode cX4_isEnding 1 = .ok (.getfield 16, 3) := by decide +kernel
theorem dX4_isEnding_4 : decode cX4_isEnding 4 = .ok (.iload_n 1, 1) := by decide +kernel
theorem dX4_isEnding_5 : decode cX4_isEnding 5 = .ok (.iaload, 1) := by decide +kernel
theorem dX4_isEnding_6 : decode cX4_isEnding 6 = .ok (.iconst 3, 1) := by decide +kernel
theorem dX4_isEnding_7 : decode cX4_isEnding 7 = .ok (.if_icmp .eq 24, 3) := by decide +kernel
theorem dX4_isEnding_10 : decode cX4_isEnding 10 = .ok (.aload_n 0, 1) := by decide +kernel
theorem dX4_isEnding_11 : decode cX4_isEnding 11 = .ok (.getfield 16, 3) := by decide +kernel
theorem dX4_isEnding_14 : decode cX4_isEnding 14 = .ok (.iload_n 1, 1) := by decide +kernel
theorem dX4_isEnding_15 : decode cX4_isEnding 15 = .ok (.iaload, 1) := by decide +kernel
theorem dX4_isEnding_16 : decode cX4_isEnding 16 = .ok (.iconst 4, 1) := by decide +kernel
theorem dX4_isEnding_17 : decode cX4_isEnding 17 = .ok (.if_icmp .eq 14, 3) := by decide +kernel
theorem dX4_isEnding_20 : decode cX4_isEnding 20 = .ok (.aload_n 0, 1) := by decide +kernel
theorem dX4_isEnding_21 : decode cX4_isEnding 21 = .ok (.getfield 16, 3) := by decide +kernel
theorem dX4_isEnding_24 : decode cX4_isEnding 24 = .ok (.iload_n 1, 1) := by decide +kernel
theorem dX4_isEnding_25 : decode cX4_isEnding 25 = .ok (.iaload, 1) := by decide +kernel
theorem dX4_isEnding_26 : decode cX4_isEnding 26 = .ok (.bipush 6, 2) := by decide +kernel
theorem dX4_isEnding_28 : decode cX4_isEnding 28 = .ok (.if_icmp .ne 7, 3) := by decide +kernel
theorem dX4_isEnding_31 : decode cX4_isEnding 31 = .ok (.iconst 1, 1) := by decide +kernel
theorem dX4_isEnding_32 : decode cX4_isEnding 32 = .ok (.goto 4, 3) := by decide +kernel
theorem dX4_isEnding_35 : decode cX4_isEnding 35 = .ok (.iconst 0, 1) := by decide +kernel
theorem dX4_isEnding_36 : decode cX4_isEnding 36 = .ok (.ireturn, 1) := by decide +kernel
set_option maxRecDepth 20000 in
theorem ggX4_endOf_X4_isMachine : GoodIn wsX4_endOf wsX4_isMachine := goodIn_r _ [5, 6, 7, 4, 8] (by decide +kernel) (by decide +kernel)
set_option maxRecDepth 20000 in
theorem gX4_endOf_X4_isMachine : GoodIn wsX4_endOf (va_wsS RX4 131 yX4_isMachine wsX4_isMachine) := goodIn_app (goodIn_of _ (by decide +kernel)) ggX4_endOf_X4_isMachine
set_option maxRecDepth 20000 in
theorem ggX4_endOf_X4_goes : GoodIn wsX4_endOf wsX4_goes := goodIn_r _ [12, 13, 19, 20, 21, 22, 23, 24, 25, 26, 27, 28, 29, 30, 31, 32, 33, 34, 35, 36, 37, 38, 39, 40, 41, 42, 43, 44] (by decide +kernel) (by decide +kernel)
set_option maxRecDepth 20000 in
theorem gX4_endOf_X4_goes : GoodIn wsX4_endOf (wsV RX4 120 RX4 yX4_goes wsX4_goes) := goodIn_app (goodIn_of _ (by decide +kernel)) ggX4_endOf_X4_goes
set_option maxRecDepth 20000 in
theorem ggX4_endOf_X4_isEnding : GoodIn wsX4_endOf wsX4_isEnding := goodIn_r _ [17, 18, 19, 20, 21, 22, 23, 24, 25, 26, 27, 28, 29, 30, 31, 32, 33, 34, 35, 36, 37, 38, 39, 40, 41, 42, 43, 44] (by decide +kernel) (by decide +kernel)
set_option maxRecDepth 20000 in
theorem gX4_endOf_X4_isEnding : GoodIn wsX4_endOf (wsV RX4 158 RX4 yX4_isEnding wsX4_isEnding) := goodIn_app (goodIn_of _ (by decide +kernel)) ggX4_endOf_X4_isEnding
theorem dX4_endOf_0 : decode cX4_endOf 0 = .ok (.aload_n 0, 1) := by decide +kernel
theorem dX4_endOf_1 : decode cX4_endOf 1 = .ok (.iload_n 1, 1) := by decide +kernel
theorem dX4_endOf_2 : decode cX4_endOf 2 = .ok (.invokestatic 131, 3) := by decide +kernel
theorem dX4_endOf_5 : decode cX4_endOf 5 = .ok (.iconst 1, 1) := by decide +kernel
theorem dX4_endOf_6 : decode cX4_endOf 6 = .ok (.iconst 1, 1) := by decide +kernel
theorem dX4_endOf_7 : decode cX4_endOf 7 = .ok (.invokevirtual 120, 3) := by decide +kernel
theorem dX4_endOf_10 : decode cX4_endOf 10 = .ok (.ifCond .ne 5, 3) := by decide +kernel
theorem dX4_endOf_13 : decode cX4_endOf 13 = .ok (.iconst 0, 1) := by decide +kernel
theorem dX4_endOf_14 : decode cX4_endOf 14 = .ok (.ireturn, 1) := by decide +kernel
theorem dX4_endOf_15 : decode cX4_endOf 15 = .ok (.aload_n 0, 1) := by decide +kernel
theorem dX4_endOf_16 : decode cX4_endOf 16 = .ok (.iload_n 1, 1) := by decide +kernel
theorem dX4_endOf_17 : decode cX4_endOf 17 = .ok (.invokevirtual 158, 3) := by decide +kernel
theorem dX4_endOf_20 : decode cX4_endOf 20 = .ok (.ifCond .eq 12, 3) := by decide +kernel
theorem dX4_endOf_23 : decode cX4_endOf 23 = .ok (.aload_n 0, 1) := by decide +kernel
theorem dX4_endOf_24 : decode cX4_endOf 24 = .ok (.getfield 38, 3) := by decide +kernel
theorem dX4_endOf_27 : decode cX4_endOf 27 = .ok (.iload_n 1, 1) := by decide +kernel
theorem dX4_endOf_28 : decode cX4_endOf 28 = .ok (.iaload, 1) := by decide +kernel
theorem dX4_endOf_29 : decode cX4_endOf 29 = .ok (.goto 4, 3) := by decide +kernel
theorem dX4_endOf_32 : decode cX4_endOf 32 = .ok (.iconst (-1), 1) := by decide +kernel
theorem dX4_endOf_33 : decode cX4_endOf 33 = .ok (.ireturn, 1) := by decide +kernel
set_option maxRecDepth 20000 in
theorem ggX4_failuresOf_X4_isMachine : GoodIn wsX4_failuresOf wsX4_isMachine := goodIn_r _ [5, 6, 7, 4, 8] (by decide +kernel) (by decide +kernel)
set_option maxRecDepth 20000 in
theorem gX4_failuresOf_X4_isMachine : GoodIn wsX4_failuresOf (va_wsS RX4 131 yX4_isMachine wsX4_isMachine) := goodIn_app (goodIn_of _ (by decide +kernel)) ggX4_failuresOf_X4_isMachine
set_option maxRecDepth 20000 in
theorem ggX4_failuresOf_X4_goes : GoodIn wsX4_failuresOf wsX4_goes := goodIn_r _ [12, 13, 14, 15, 16, 17, 18, 19, 20, 21, 22, 23, 24, 25, 26, 27, 28, 29, 30, 31, 32, 33, 34, 35, 36, 37, 38, 39] (by decide +kernel) (by decide +kernel)
set_option maxRecDepth 20000 in
theorem gX4_failuresOf_X4_goes : GoodIn wsX4_failuresOf (wsV RX4 120 RX4 yX4_goes wsX4_goes) := goodIn_app (goodIn_of _ (by decide +kernel)) ggX4_failuresOf_X4_goes
theorem dX4_failuresOf_0 : decode cX4_failuresOf 0 = .ok (.aload_n 0, 1) := by decide +kernel
theorem dX4_failuresOf_1 : decode cX4_failuresOf 1 = .ok (.iload_n 1, 1) := by decide +kernel
theorem dX4_failuresOf_2 : decode cX4_failuresOf 2 = .ok (.invokestatic 131, 3) := by decide +kernel
theorem dX4_failuresOf_5 : decode cX4_failuresOf 5 = .ok (.iconst 1, 1) := by decide +kernel
theorem dX4_failuresOf_6 : decode cX4_failuresOf 6 = .ok (.iconst 1, 1) := by decide +kernel
theorem dX4_failuresOf_7 : decode cX4_failuresOf 7 = .ok (.invokevirtual 120, 3) := by decide +kernel
theorem dX4_failuresOf_10 : decode cX4_failuresOf 10 = .ok (.ifCond .eq 12, 3) := by decide +kernel
theorem dX4_failuresOf_13 : decode cX4_failuresOf 13 = .ok (.aload_n 0, 1) := by decide +kernel
theorem dX4_failuresOf_14 : decode cX4_failuresOf 14 = .ok (.getfield 41, 3) := by decide +kernel
theorem dX4_failuresOf_17 : decode cX4_failuresOf 17 = .ok (.iload_n 1, 1) := by decide +kernel
theorem dX4_failuresOf_18 : decode cX4_failuresOf 18 = .ok (.iaload, 1) := by decide +kernel
theorem dX4_failuresOf_19 : decode cX4_failuresOf 19 = .ok (.goto 4, 3) := by decide +kernel
theorem dX4_failuresOf_22 : decode cX4_failuresOf 22 = .ok (.iconst 0, 1) := by decide +kernel
theorem dX4_failuresOf_23 : decode cX4_failuresOf 23 = .ok (.ireturn, 1) := by decide +kernel
set_option maxRecDepth 20000 in
theorem ggX4_installing_X4_isRack : GoodIn wsX4_installing wsX4_isRack := goodIn_r _ [4, 5, 6, 3, 7] (by decide +kernel) (by decide +kernel)
set_option maxRecDepth 20000 in
theorem gX4_installing_X4_isRack : GoodIn wsX4_installing (va_wsS RX4 128 yX4_isRack wsX4_isRack) := goodIn_app (goodIn_of _ (by decide +kernel)) ggX4_installing_X4_isRack
set_option maxRecDepth 20000 in
theorem ggX4_installing_X4_goes : GoodIn wsX4_installing wsX4_goes := goodIn_r _ [11, 12, 19, 20, 21, 22, 23, 24, 25, 26, 27, 28, 29, 30, 31, 32, 33, 34, 35, 36, 37, 38, 39, 40, 41, 42, 43, 44] (by decide +kernel) (by decide +kernel)
set_option maxRecDepth 20000 in
theorem gX4_installing_X4_goes : GoodIn wsX4_installing (wsV RX4 120 RX4 yX4_goes wsX4_goes) := goodIn_app (goodIn_of _ (by decide +kernel)) ggX4_installing_X4_goes
set_option maxRecDepth 20000 in
theorem ggX4_installing_X4_atWork : GoodIn wsX4_installing wsX4_atWork := goodIn_r _ [16, 17, 18, 19, 20, 21, 22, 23, 24, 25, 26, 27, 28, 29, 30, 31, 32, 33, 34, 35, 36, 37, 38, 39, 40, 41, 42, 43, 44] (by decide +kernel) (by decide +kernel)
set_option maxRecDepth 20000 in
theorem gX4_installing_X4_atWork : GoodIn wsX4_installing (wsV RX4 110 RX4 yX4_atWork wsX4_atWork) := goodIn_app (goodIn_of _ (by decide +kernel)) ggX4_installing_X4_atWork
theorem dX4_installing_0 : decode cX4_installing 0 = .ok (.aload_n 0, 1) := by decide +kernel
theorem dX4_installing_1 : decode cX4_installing 1 = .ok (.iload_n 1, 1) := by decide +kernel
theorem dX4_installing_2 : decode cX4_installing 2 = .ok (.invokestatic 128, 3) := by decide +kernel
theorem dX4_installing_5 : decode cX4_installing 5 = .ok (.iconst 1, 1) := by decide +kernel
theorem dX4_installing_6 : decode cX4_installing 6 = .ok (.iconst 1, 1) := by decide +kernel
theorem dX4_installing_7 : decode cX4_installing 7 = .ok (.invokevirtual 120, 3) := by decide +kernel
theorem dX4_installing_10 : decode cX4_installing 10 = .ok (.ifCond .eq 11, 3) := by decide +kernel
theorem dX4_installing_13 : decode cX4_installing 13 = .ok (.aload_n 0, 1) := by decide +kernel
theorem dX4_installing_14 : decode cX4_installing 14 = .ok (.iload_n 1, 1) := by decide +kernel
theorem dX4_installing_15 : decode cX4_installing 15 = .ok (.invokevirtual 110, 3) := by decide +kernel
theorem dX4_installing_18 : decode cX4_installing 18 = .ok (.goto 4, 3) := by decide +kernel
theorem dX4_installing_21 : decode cX4_installing 21 = .ok (.iconst 0, 1) := by decide +kernel
theorem dX4_installing_22 : decode cX4_installing 22 = .ok (.ireturn, 1) := by decide +kernel
set_option maxRecDepth 20000 in
theorem ggX4_queueAt_X4_isRack : GoodIn wsX4_queueAt wsX4_isRack := goodIn_r _ [4, 5, 6, 3, 7] (by decide +kernel) (by decide +kernel)
set_option maxRecDepth 20000 in
theorem gX4_queueAt_X4_isRack : GoodIn wsX4_queueAt (va_wsS RX4 128 yX4_isRack wsX4_isRack) := goodIn_app (goodIn_of _ (by decide +kernel)) ggX4_queueAt_X4_isRack
set_option maxRecDepth 20000 in
theorem ggX4_queueAt_X4_goes : GoodIn wsX4_queueAt wsX4_goes := goodIn_r _ [11, 12, 20, 21, 22, 23, 24, 25, 26, 27, 28, 29, 30, 31, 32, 33, 34, 35, 36, 37, 38, 39, 40, 41, 42, 43, 44, 45] (by decide +kernel) (by decide +kernel)
set_option maxRecDepth 20000 in
theorem gX4_queueAt_X4_goes : GoodIn wsX4_queueAt (wsV RX4 120 RX4 yX4_goes wsX4_goes) := goodIn_app (goodIn_of _ (by decide +kernel)) ggX4_queueAt_X4_goes
set_option maxRecDepth 20000 in
theorem ggX4_queueAt_X4_queued : GoodIn wsX4_queueAt wsX4_queued := goodIn_r _ [16, 17, 18, 19, 20, 21, 22, 23, 24, 25, 26, 27, 28, 29, 30, 31, 32, 33, 34, 35, 36, 37, 38, 39, 40, 41, 42, 43, 44, 45] (by decide +kernel) (by decide +kernel)
set_option maxRecDepth 20000 in
theorem gX4_queueAt_X4_queued : GoodIn wsX4_queueAt (wsV RX4 106 RX4 yX4_queued wsX4_queued) := goodIn_app (goodIn_of _ (by decide +kernel)) ggX4_queueAt_X4_queued
theorem dX4_queueAt_0 : decode cX4_queueAt 0 = .ok (.aload_n 0, 1) := by decide +kernel
theorem dX4_queueAt_1 : decode cX4_queueAt 1 = .ok (.iload_n 1, 1) := by decide +kernel
theorem dX4_queueAt_2 : decode cX4_queueAt 2 = .ok (.invokestatic 128, 3) := by decide +kernel
theorem dX4_queueAt_5 : decode cX4_queueAt 5 = .ok (.ifCond .eq 11, 3) := by decide +kernel
theorem dX4_queueAt_8 : decode cX4_queueAt 8 = .ok (.iload_n 2, 1) := by decide +kernel
theorem dX4_queueAt_9 : decode cX4_queueAt 9 = .ok (.ifCond .lt 7, 3) := by decide +kernel
theorem dX4_queueAt_12 : decode cX4_queueAt 12 = .ok (.iconst 1, 1) := by decide +kernel
theorem dX4_queueAt_13 : decode cX4_queueAt 13 = .ok (.goto 4, 3) := by decide +kernel
theorem dX4_queueAt_16 : decode cX4_queueAt 16 = .ok (.iconst 0, 1) := by decide +kernel
theorem dX4_queueAt_17 : decode cX4_queueAt 17 = .ok (.iconst 1, 1) := by decide +kernel
theorem dX4_queueAt_18 : decode cX4_queueAt 18 = .ok (.iconst 1, 1) := by decide +kernel
theorem dX4_queueAt_19 : decode cX4_queueAt 19 = .ok (.invokevirtual 120, 3) := by decide +kernel
theorem dX4_queueAt_22 : decode cX4_queueAt 22 = .ok (.ifCond .eq 12, 3) := by decide +kernel
theorem dX4_queueAt_25 : decode cX4_queueAt 25 = .ok (.aload_n 0, 1) := by decide +kernel
theorem dX4_queueAt_26 : decode cX4_queueAt 26 = .ok (.iload_n 1, 1) := by decide +kernel
theorem dX4_queueAt_27 : decode cX4_queueAt 27 = .ok (.iload_n 2, 1) := by decide +kernel
theorem dX4_queueAt_28 : decode cX4_queueAt 28 = .ok (.invokevirtual 106, 3) := by decide +kernel
theorem dX4_queueAt_31 : decode cX4_queueAt 31 = .ok (.goto 4, 3) := by decide +kernel
theorem dX4_queueAt_34 : decode cX4_queueAt 34 = .ok (.iconst 0, 1) := by decide +kernel
theorem dX4_queueAt_35 : decode cX4_queueAt 35 = .ok (.ireturn, 1) := by decide +kernel
set_option maxRecDepth 20000 in
theorem ggX4_nextChange_X4_isEnding : GoodIn wsX4_nextChange wsX4_isEnding := goodIn_r _ [8, 9, 10, 11, 12, 13, 14, 15, 16, 17, 18, 19, 20, 21, 22, 23, 24, 25, 26, 27, 28, 29, 30, 31, 32, 33, 34, 35] (by decide +kernel) (by decide +kernel)
set_option maxRecDepth 20000 in
theorem gX4_nextChange_X4_isEnding : GoodIn wsX4_nextChange (wsV RX4 158 RX4 yX4_isEnding wsX4_isEnding) := goodIn_app (goodIn_of _ (by decide +kernel)) ggX4_nextChange_X4_isEnding
theorem dX4_nextChange_0 : decode cX4_nextChange 0 = .ok (.aload_n 0, 1) := by decide +kernel
theorem dX4_nextChange_1 : decode cX4_nextChange 1 = .ok (.iconst 0, 1) := by decide +kernel
theorem dX4_nextChange_2 : decode cX4_nextChange 2 = .ok (.putfield 75, 3) := by decide +kernel
theorem dX4_nextChange_5 : decode cX4_nextChange 5 = .ok (.iconst (-1), 1) := by decide +kernel
theorem dX4_nextChange_6 : decode cX4_nextChange 6 = .ok (.istore_n 1, 1) := by decide +kernel
theorem dX4_nextChange_7 : decode cX4_nextChange 7 = .ok (.iconst 0, 1) := by decide +kernel
theorem dX4_nextChange_8 : decode cX4_nextChange 8 = .ok (.istore_n 2, 1) := by decide +kernel
theorem dX4_nextChange_9 : decode cX4_nextChange 9 = .ok (.iload_n 2, 1) := by decide +kernel
theorem dX4_nextChange_10 : decode cX4_nextChange 10 = .ok (.bipush 16, 2) := by decide +kernel
theorem dX4_nextChange_12 : decode cX4_nextChange 12 = .ok (.if_icmp .ge 53, 3) := by decide +kernel
theorem dX4_nextChange_15 : decode cX4_nextChange 15 = .ok (.aload_n 0, 1) := by decide +kernel
theorem dX4_nextChange_16 : decode cX4_nextChange 16 = .ok (.iload_n 2, 1) := by decide +kernel
theorem dX4_nextChange_17 : decode cX4_nextChange 17 = .ok (.invokevirtual 158, 3) := by decide +kernel
theorem dX4_nextChange_20 : decode cX4_nextChange 20 = .ok (.ifCond .eq 37, 3) := by decide +kernel
theorem dX4_nextChange_23 : decode cX4_nextChange 23 = .ok (.iload_n 1, 1) := by decide +kernel
theorem dX4_nextChange_24 : decode cX4_nextChange 24 = .ok (.iconst (-1), 1) := by decide +kernel
theorem dX4_nextChange_25 : decode cX4_nextChange 25 = .ok (.if_icmp .eq 18, 3) := by decide +kernel
theorem dX4_nextChange_28 : decode cX4_nextChange 28 = .ok (.aload_n 0, 1) := by decide +kernel
theorem dX4_nextChange_29 : decode cX4_nextChange 29 = .ok (.getfield 38, 3) := by decide +kernel
theorem dX4_nextChange_32 : decode cX4_nextChange 32 = .ok (.iload_n 2, 1) := by decide +kernel
theorem dX4_nextChange_33 : decode cX4_nextChange 33 = .ok (.iaload, 1) := by decide +kernel
theorem dX4_nextChange_34 : decode cX4_nextChange 34 = .ok (.aload_n 0, 1) := by decide +kernel
theorem dX4_nextChange_35 : decode cX4_nextChange 35 = .ok (.getfield 96, 3) := by decide +kernel
theorem dX4_nextChange_38 : decode cX4_nextChange 38 = .ok (.isub, 1) := by decide +kernel
theorem dX4_nextChange_39 : decode cX4_nextChange 39 = .ok (.iload_n 1, 1) := by decide +kernel
theorem dX4_nextChange_40 : decode cX4_nextChange 40 = .ok (.if_icmp .ge 17, 3) := by decide +kernel
theorem dX4_nextChange_43 : decode cX4_nextChange 43 = .ok (.aload_n 0, 1) := by decide +kernel
theorem dX4_nextChange_44 : decode cX4_nextChange 44 = .ok (.getfield 38, 3) := by decide +kernel
theorem dX4_nextChange_47 : decode cX4_nextChange 47 = .ok (.iload_n 2, 1) := by decide +kernel
theorem dX4_nextChange_48 : decode cX4_nextChange 48 = .ok (.iaload, 1) := by decide +kernel
theorem dX4_nextChange_49 : decode cX4_nextChange 49 = .ok (.aload_n 0, 1) := by decide +kernel
theorem dX4_nextChange_50 : decode cX4_nextChange 50 = .ok (.getfield 96, 3) := by decide +kernel
theorem dX4_nextChange_53 : decode cX4_nextChange 53 = .ok (.isub, 1) := by decide +kernel
theorem dX4_nextChange_54 : decode cX4_nextChange 54 = .ok (.goto 4, 3) := by decide +kernel
theorem dX4_nextChange_57 : decode cX4_nextChange 57 = .ok (.iload_n 1, 1) := by decide +kernel
theorem dX4_nextChange_58 : decode cX4_nextChange 58 = .ok (.istore_n 1, 1) := by decide +kernel
theorem dX4_nextChange_59 : decode cX4_nextChange 59 = .ok (.iinc 2 1, 3) := by decide +kernel
theorem dX4_nextChange_62 : decode cX4_nextChange 62 = .ok (.goto (-53), 3) := by decide +kernel
theorem dX4_nextChange_65 : decode cX4_nextChange 65 = .ok (.iload_n 1, 1) := by decide +kernel
theorem dX4_nextChange_66 : decode cX4_nextChange 66 = .ok (.ireturn, 1) := by decide +kernel
set_option maxRecDepth 20000 in
theorem ggX4_wipes_X4_told : GoodIn wsX4_wipes wsX4_told := goodIn_r _ [6, 7, 8, 9, 10, 11, 12, 13, 14, 15, 16, 17, 18, 19, 20, 21, 22, 23, 24, 25, 26, 27, 28, 29, 30, 31, 32, 33] (by decide +kernel) (by decide +kernel)
set_option maxRecDepth 20000 in
theorem gX4_wipes_X4_told : GoodIn wsX4_wipes (wsV RX4 152 RX4 yX4_told wsX4_told) := goodIn_app (goodIn_of _ (by decide +kernel)) ggX4_wipes_X4_told
theorem dX4_wipes_0 : decode cX4_wipes 0 = .ok (.aload_n 0, 1) := by decide +kernel
theorem dX4_wipes_1 : decode cX4_wipes 1 = .ok (.aload_n 0, 1) := by decide +kernel
theorem dX4_wipes_2 : decode cX4_wipes 2 = .ok (.getfield 99, 3) := by decide +kernel
theorem dX4_wipes_5 : decode cX4_wipes 5 = .ok (.invokevirtual 152, 3) := by decide +kernel
theorem dX4_wipes_8 : decode cX4_wipes 8 = .ok (.ireturn, 1) := by decide +kernel
theorem dX4_kept_0 : decode cX4_kept 0 = .ok (.aload_n 0, 1) := by decide +kernel
theorem dX4_kept_1 : decode cX4_kept 1 = .ok (.getfield 82, 3) := by decide +kernel
theorem dX4_kept_4 : decode cX4_kept 4 = .ok (.bipush 40, 2) := by decide +kernel
theorem dX4_kept_6 : decode cX4_kept 6 = .ok (.if_icmp .ge 10, 3) := by decide +kernel
theorem dX4_kept_9 : decode cX4_kept 9 = .ok (.aload_n 0, 1) := by decide +kernel
theorem dX4_kept_10 : decode cX4_kept 10 = .ok (.getfield 82, 3) := by decide +kernel
theorem dX4_kept_13 : decode cX4_kept 13 = .ok (.goto 5, 3) := by decide +kernel
theorem dX4_kept_16 : decode cX4_kept 16 = .ok (.bipush 40, 2) := by decide +kernel
theorem dX4_kept_18 : decode cX4_kept 18 = .ok (.ireturn, 1) := by decide +kernel
set_option maxRecDepth 20000 in
theorem ggX4_entries_X4_kept : GoodIn wsX4_entries wsX4_kept := goodIn_r _ [5, 6, 12, 13, 14, 15, 16, 17, 18, 19, 20, 21, 22, 23, 24, 25, 26, 27, 28, 29, 30, 31, 32, 33, 34, 35, 36, 37] (by decide +kernel) (by decide +kernel)
set_option maxRecDepth 20000 in
theorem gX4_entries_X4_kept : GoodIn wsX4_entries (wsV RX4 161 RX4 yX4_kept wsX4_kept) := goodIn_app (goodIn_of _ (by decide +kernel)) ggX4_entries_X4_kept
set_option maxRecDepth 20000 in
theorem ggX4_entries_X4_told : GoodIn wsX4_entries wsX4_told := goodIn_r _ [10, 11, 12, 13, 14, 15, 16, 17, 18, 19, 20, 21, 22, 23, 24, 25, 26, 27, 28, 29, 30, 31, 32, 33, 34, 35, 36, 37] (by decide +kernel) (by decide +kernel)
set_option maxRecDepth 20000 in
theorem gX4_entries_X4_told : GoodIn wsX4_entries (wsV RX4 152 RX4 yX4_told wsX4_told) := goodIn_app (goodIn_of _ (by decide +kernel)) ggX4_entries_X4_told
theorem dX4_entries_0 : decode cX4_entries 0 = .ok (.aload_n 0, 1) := by decide +kernel
theorem dX4_entries_1 : decode cX4_entries 1 = .ok (.aload_n 0, 1) := by decide +kernel
theorem dX4_entries_2 : decode cX4_entries 2 = .ok (.invokevirtual 161, 3) := by decide +kernel
theorem dX4_entries_5 : decode cX4_entries 5 = .ok (.invokevirtual 152, 3) := by decide +kernel
theorem dX4_entries_8 : decode cX4_entries 8 = .ok (.ireturn, 1) := by decide +kernel
theorem dX4_place_0 : decode cX4_place 0 = .ok (.aload_n 0, 1) := by decide +kernel
theorem dX4_place_1 : decode cX4_place 1 = .ok (.getfield 82, 3) := by decide +kernel
theorem dX4_place_4 : decode cX4_place 4 = .ok (.iconst 1, 1) := by decide +kernel
theorem dX4_place_5 : decode cX4_place 5 = .ok (.isub, 1) := by decide +kernel
theorem dX4_place_6 : decode cX4_place 6 = .ok (.iload_n 1, 1) := by decide +kernel
theorem dX4_place_7 : decode cX4_place 7 = .ok (.isub, 1) := by decide +kernel
theorem dX4_place_8 : decode cX4_place 8 = .ok (.bipush 40, 2) := by decide +kernel
theorem dX4_place_10 : decode cX4_place 10 = .ok (.irem, 1) := by decide +kernel
theorem dX4_place_11 : decode cX4_place 11 = .ok (.ireturn, 1) := by decide +kernel
set_option maxRecDepth 20000 in
theorem ggX4_machineAt_X4_kept : GoodIn wsX4_machineAt wsX4_kept := goodIn_r _ [6, 7, 20, 21, 22, 23, 24, 25, 26, 27, 28, 29, 30, 31, 32, 33, 34, 35, 36, 37, 38, 39, 40, 41, 42, 43, 44, 45] (by decide +kernel) (by decide +kernel)
set_option maxRecDepth 20000 in
theorem gX4_machineAt_X4_kept : GoodIn wsX4_machineAt (wsV RX4 161 RX4 yX4_kept wsX4_kept) := goodIn_app (goodIn_of _ (by decide +kernel)) ggX4_machineAt_X4_kept
set_option maxRecDepth 20000 in
theorem ggX4_machineAt_X4_in : GoodIn wsX4_machineAt wsX4_in := goodIn_r _ [10] (by decide +kernel) (by decide +kernel)
set_option maxRecDepth 20000 in
theorem gX4_machineAt_X4_in : GoodIn wsX4_machineAt (va_wsS RX4 78 yX4_in wsX4_in) := goodIn_app (goodIn_of _ (by decide +kernel)) ggX4_machineAt_X4_in
set_option maxRecDepth 20000 in
theorem ggX4_machineAt_X4_goes : GoodIn wsX4_machineAt wsX4_goes := goodIn_r _ [14, 15, 20, 21, 22, 23, 24, 25, 26, 27, 28, 29, 30, 31, 32, 33, 34, 35, 36, 37, 38, 39, 40, 41, 42, 43, 44, 45] (by decide +kernel) (by decide +kernel)
set_option maxRecDepth 20000 in
theorem gX4_machineAt_X4_goes : GoodIn wsX4_machineAt (wsV RX4 120 RX4 yX4_goes wsX4_goes) := goodIn_app (goodIn_of _ (by decide +kernel)) ggX4_machineAt_X4_goes
set_option maxRecDepth 20000 in
theorem ggX4_machineAt_X4_place : GoodIn wsX4_machineAt wsX4_place := goodIn_r _ [19, 7, 20, 21, 22, 23, 24, 25, 26, 27, 28, 29, 30, 31, 32, 33, 34, 35, 36, 37, 38, 39, 40, 41, 42, 43, 44, 45] (by decide +kernel) (by decide +kernel)
set_option maxRecDepth 20000 in
theorem gX4_machineAt_X4_place : GoodIn wsX4_machineAt (wsV RX4 165 RX4 yX4_place wsX4_place) := goodIn_app (goodIn_of _ (by decide +kernel)) ggX4_machineAt_X4_place
theorem dX4_machineAt_0 : decode cX4_machineAt 0 = .ok (.aload_n 0, 1) := by decide +kernel
theorem dX4_machineAt_1 : decode cX4_machineAt 1 = .ok (.iload_n 1, 1) := by decide +kernel
theorem dX4_machineAt_2 : decode cX4_machineAt 2 = .ok (.iconst 0, 1) := by decide +kernel
theorem dX4_machineAt_3 : decode cX4_machineAt 3 = .ok (.aload_n 0, 1) := by decide +kernel
theorem dX4_machineAt_4 : decode cX4_machineAt 4 = .ok (.invokevirtual 161, 3) := by decide +kernel
theorem dX4_machineAt_7 : decode cX4_machineAt 7 = .ok (.iconst 1, 1) := by decide +kernel
theorem dX4_machineAt_8 : decode cX4_machineAt 8 = .ok (.isub, 1) := by decide +kernel
theorem dX4_machineAt_9 : decode cX4_machineAt 9 = .ok (.invokestatic 78, 3) := by decide +kernel
theorem dX4_machineAt_12 : decode cX4_machineAt 12 = .ok (.iconst 1, 1) := by decide +kernel
theorem dX4_machineAt_13 : decode cX4_machineAt 13 = .ok (.iconst 1, 1) := by decide +kernel
theorem dX4_machineAt_14 : decode cX4_machineAt 14 = .ok (.invokevirtual 120, 3) := by decide +kernel
theorem dX4_machineAt_17 : decode cX4_machineAt 17 = .ok (.ifCond .eq 16, 3) := by decide +kernel
theorem dX4_machineAt_20 : decode cX4_machineAt 20 = .ok (.aload_n 0, 1) := by decide +kernel
theorem dX4_machineAt_21 : decode cX4_machineAt 21 = .ok (.getfield 69, 3) := by decide +kernel
theorem dX4_machineAt_24 : decode cX4_machineAt 24 = .ok (.aload_n 0, 1) := by decide +kernel
theorem dX4_machineAt_25 : decode cX4_machineAt 25 = .ok (.iload_n 1, 1) := by decide +kernel
theorem dX4_machineAt_26 : decode cX4_machineAt 26 = .ok (.invokevirtual 165, 3) := by decide +kernel
theorem dX4_machineAt_29 : decode cX4_machineAt 29 = .ok (.iaload, 1) := by decide +kernel
theorem dX4_machineAt_30 : decode cX4_machineAt 30 = .ok (.goto 4, 3) := by decide +kernel
theorem dX4_machineAt_33 : decode cX4_machineAt 33 = .ok (.iconst 0, 1) := by decide +kernel
theorem dX4_machineAt_34 : decode cX4_machineAt 34 = .ok (.ireturn, 1) := by decide +kernel
set_option maxRecDepth 20000 in
theorem ggX4_stateBefore_X4_isMachine : GoodIn wsX4_stateBefore wsX4_isMachine := goodIn_r _ [7, 8, 9, 6, 10] (by decide +kernel) (by decide +kernel)
set_option maxRecDepth 20000 in
theorem gX4_stateBefore_X4_isMachine : GoodIn wsX4_stateBefore (va_wsS RX4 131 yX4_isMachine wsX4_isMachine) := goodIn_app (goodIn_of _ (by decide +kernel)) ggX4_stateBefore_X4_isMachine
set_option maxRecDepth 20000 in
theorem ggX4_stateBefore_X4_kept : GoodIn wsX4_stateBefore wsX4_kept := goodIn_r _ [14, 15, 25, 26, 27, 28, 29, 30, 31, 32, 33, 34, 35, 36, 37, 38, 39, 40, 41, 42, 43, 44, 45, 46, 47, 48, 49, 50] (by decide +kernel) (by decide +kernel)
set_option maxRecDepth 20000 in
theorem gX4_stateBefore_X4_kept : GoodIn wsX4_stateBefore (wsV RX4 161 RX4 yX4_kept wsX4_kept) := goodIn_app (goodIn_of _ (by decide +kernel)) ggX4_stateBefore_X4_kept
set_option maxRecDepth 20000 in
theorem ggX4_stateBefore_X4_in : GoodIn wsX4_stateBefore wsX4_in := goodIn_r _ [10] (by decide +kernel) (by decide +kernel)
set_option maxRecDepth 20000 in
theorem gX4_stateBefore_X4_in : GoodIn wsX4_stateBefore (va_wsS RX4 78 yX4_in wsX4_in) := goodIn_app (goodIn_of _ (by decide +kernel)) ggX4_stateBefore_X4_in
set_option maxRecDepth 20000 in
theorem ggX4_stateBefore_X4_goes : GoodIn wsX4_stateBefore wsX4_goes := goodIn_r _ [19, 20, 25, 26, 27, 28, 29, 30, 31, 32, 33, 34, 35, 36, 37, 38, 39, 40, 41, 42, 43, 44, 45, 46, 47, 48, 49, 50] (by decide +kernel) (by decide +kernel)
set_option maxRecDepth 20000 in
theorem gX4_stateBefore_X4_goes : GoodIn wsX4_stateBefore (wsV RX4 120 RX4 yX4_goes wsX4_goes) := goodIn_app (goodIn_of _ (by decide +kernel)) ggX4_stateBefore_X4_goes
set_option maxRecDepth 20000 in
theorem ggX4_stateBefore_X4_place : GoodIn wsX4_stateBefore wsX4_place := goodIn_r _ [24, 15, 25, 26, 27, 28, 29, 30, 31, 32, 33, 34, 35, 36, 37, 38, 39, 40, 41, 42, 43, 44, 45, 46, 47, 48, 49, 50] (by decide +kernel) (by decide +kernel)
set_option maxRecDepth 20000 in
theorem gX4_stateBefore_X4_place : GoodIn wsX4_stateBefore (wsV RX4 165 RX4 yX4_place wsX4_place) := goodIn_app (goodIn_of _ (by decide +kernel)) ggX4_stateBefore_X4_place
theorem dX4_stateBefore_0 : decode cX4_stateBefore 0 = .ok (.aload_n 0, 1) := by decide +kernel
theorem dX4_stateBefore_1 : decode cX4_stateBefore 1 = .ok (.iload_n 1, 1) := by decide +kernel
theorem dX4_stateBefore_2 : decode cX4_stateBefore 2 = .ok (.invokestatic 131, 3) := by decide +kernel
theorem dX4_stateBefore_5 : decode cX4_stateBefore 5 = .ok (.iload_n 2, 1) := by decide +kernel
theorem dX4_stateBefore_6 : decode cX4_stateBefore 6 = .ok (.iconst 0, 1) := by decide +kernel
theorem dX4_stateBefore_7 : decode cX4_stateBefore 7 = .ok (.aload_n 0, 1) := by decide +kernel
theorem dX4_stateBefore_8 : decode cX4_stateBefore 8 = .ok (.invokevirtual 161, 3) := by decide +kernel
theorem dX4_stateBefore_11 : decode cX4_stateBefore 11 = .ok (.invokestatic 78, 3) := by decide +kernel
theorem dX4_stateBefore_14 : decode cX4_stateBefore 14 = .ok (.iconst 1, 1) := by decide +kernel
theorem dX4_stateBefore_15 : decode cX4_stateBefore 15 = .ok (.invokevirtual 120, 3) := by decide +kernel
theorem dX4_stateBefore_18 : decode cX4_stateBefore 18 = .ok (.ifCond .ne 5, 3) := by decide +kernel
theorem dX4_stateBefore_21 : decode cX4_stateBefore 21 = .ok (.iconst 0, 1) := by decide +kernel
theorem dX4_stateBefore_22 : decode cX4_stateBefore 22 = .ok (.ireturn, 1) := by decide +kernel
theorem dX4_stateBefore_23 : decode cX4_stateBefore 23 = .ok (.aload_n 0, 1) := by decide +kernel
theorem dX4_stateBefore_24 : decode cX4_stateBefore 24 = .ok (.getfield 16, 3) := by decide +kernel
theorem dX4_stateBefore_27 : decode cX4_stateBefore 27 = .ok (.iload_n 1, 1) := by decide +kernel
theorem dX4_stateBefore_28 : decode cX4_stateBefore 28 = .ok (.iaload, 1) := by decide +kernel
theorem dX4_stateBefore_29 : decode cX4_stateBefore 29 = .ok (.istore_n 3, 1) := by decide +kernel
theorem dX4_stateBefore_30 : decode cX4_stateBefore 30 = .ok (.iconst 0, 1) := by decide +kernel
theorem dX4_stateBefore_31 : decode cX4_stateBefore 31 = .ok (.istore 4, 2) := by decide +kernel
theorem dX4_stateBefore_33 : decode cX4_stateBefore 33 = .ok (.iload 4, 2) := by decide +kernel
theorem dX4_stateBefore_35 : decode cX4_stateBefore 35 = .ok (.iload_n 2, 1) := by decide +kernel
theorem dX4_stateBefore_36 : decode cX4_stateBefore 36 = .ok (.if_icmp .ge 40, 3) := by decide +kernel
theorem dX4_stateBefore_39 : decode cX4_stateBefore 39 = .ok (.aload_n 0, 1) := by decide +kernel
theorem dX4_stateBefore_40 : decode cX4_stateBefore 40 = .ok (.getfield 69, 3) := by decide +kernel
theorem dX4_stateBefore_43 : decode cX4_stateBefore 43 = .ok (.aload_n 0, 1) := by decide +kernel
theorem dX4_stateBefore_44 : decode cX4_stateBefore 44 = .ok (.iload 4, 2) := by decide +kernel
theorem dX4_stateBefore_46 : decode cX4_stateBefore 46 = .ok (.invokevirtual 165, 3) := by decide +kernel
theorem dX4_stateBefore_49 : decode cX4_stateBefore 49 = .ok (.iaload, 1) := by decide +kernel
theorem dX4_stateBefore_50 : decode cX4_stateBefore 50 = .ok (.iload_n 1, 1) := by decide +kernel
theorem dX4_stateBefore_51 : decode cX4_stateBefore 51 = .ok (.if_icmp .ne 17, 3) := by decide +kernel
theorem dX4_stateBefore_54 : decode cX4_stateBefore 54 = .ok (.aload_n 0, 1) := by decide +kernel
theorem dX4_stateBefore_55 : decode cX4_stateBefore 55 = .ok (.getfield 72, 3) := by decide +kernel
theorem dX4_stateBefore_58 : decode cX4_stateBefore 58 = .ok (.aload_n 0, 1) := by decide +kernel
theorem dX4_stateBefore_59 : decode cX4_stateBefore 59 = .ok (.iload 4, 2) := by decide +kernel
theorem dX4_stateBefore_61 : decode cX4_stateBefore 61 = .ok (.invokevirtual 165, 3) := by decide +kernel
theorem dX4_stateBefore_64 : decode cX4_stateBefore 64 = .ok (.iaload, 1) := by decide +kernel
theorem dX4_stateBefore_65 : decode cX4_stateBefore 65 = .ok (.goto 4, 3) := by decide +kernel
theorem dX4_stateBefore_68 : decode cX4_stateBefore 68 = .ok (.iload_n 3, 1) := by decide +kernel
theorem dX4_stateBefore_69 : decode cX4_stateBefore 69 = .ok (.istore_n 3, 1) := by decide +kernel
theorem dX4_stateBefore_70 : decode cX4_stateBefore 70 = .ok (.iinc 4 1, 3) := by decide +kernel
theorem dX4_stateBefore_73 : decode cX4_stateBefore 73 = .ok (.goto (-40), 3) := by decide +kernel
theorem dX4_stateBefore_76 : decode cX4_stateBefore 76 = .ok (.iload_n 3, 1) := by decide +kernel
theorem dX4_stateBefore_77 : decode cX4_stateBefore 77 = .ok (.ireturn, 1) := by decide +kernel
theorem dJ9_min_7cf53_0 : decode cJ9_min_7cf53 0 = .ok (.iload_n 0, 1) := by decide +kernel
theorem dJ9_min_7cf53_1 : decode cJ9_min_7cf53 1 = .ok (.iload_n 1, 1) := by decide +kernel
theorem dJ9_min_7cf53_2 : decode cJ9_min_7cf53 2 = .ok (.if_icmp .gt 7, 3) := by decide +kernel
theorem dJ9_min_7cf53_5 : decode cJ9_min_7cf53 5 = .ok (.iload_n 0, 1) := by decide +kernel
theorem dJ9_min_7cf53_6 : decode cJ9_min_7cf53 6 = .ok (.goto 4, 3) := by decide +kernel
theorem dJ9_min_7cf53_9 : decode cJ9_min_7cf53 9 = .ok (.iload_n 1, 1) := by decide +kernel
theorem dJ9_min_7cf53_10 : decode cJ9_min_7cf53 10 = .ok (.ireturn, 1) := by decide +kernel
set_option maxRecDepth 20000 in
theorem ggL_setImage_X3_setImage : GoodIn wsL_setImage wsX3_setImage := goodIn_ca (goodIn_ca (goodIn_r _ [7, 8, 9, 10, 11, 12, 13, 14, 15, 16, 17, 6, 18, 19, 20, 21, 22, 23, 24, 25, 26, 27, 28, 29, 30, 31, 32, 33, 34, 35, 36, 37, 38, 39, 40, 41, 42, 43, 44, 45, 46, 47, 48, 49, 50, 51, 52, 53, 54, 55, 56, 57, 58, 59, 60, 61, 62, 63, 64, 65, 66, 67, 68, 69, 70, 71, 72, 73, 74, 75, 76, 77, 78, 79, 80, 81, 82, 83, 84, 85, 86, 87, 88, 89, 90, 91, 92, 93, 94, 95, 96, 97, 98, 99, 100, 101, 102, 103, 104, 105, 106, 107, 108, 109, 110, 111, 112, 113, 114, 115, 116, 117, 118, 119, 120, 121, 122, 123, 124, 125, 126, 127, 128] (by decide +kernel) (by decide +kernel)) (goodIn_sub (fun _ h => List.mem_cons_of_mem _ (List.mem_append_left _ (List.mem_append_right _ h))) (by decide +kernel))) (goodIn_sub (fun _ h => List.mem_cons_of_mem _ (List.mem_append_right _ h)) (by decide +kernel))
set_option maxRecDepth 20000 in
theorem gL_setImage_X3_setImage : GoodIn wsL_setImage (wsV RL 7 RX3 yX3_setImage wsX3_setImage) := goodIn_app (goodIn_of _ (by decide +kernel)) ggL_setImage_X3_setImage
